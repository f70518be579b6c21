/-! decode rows: the reference -/
theorem dX10_init_0 : decode cX10_init 0 = .ok (.aload_n 0, 1) ∧ 1 = 0 + 1 := ⟨by decide +kernel, rfl⟩
theorem dX10_init_1 : decode cX10_init 1 = .ok (.invokespecial 1, 3) ∧ 4 = 1 + 3 := ⟨by decide +kernel, rfl⟩
theorem dX10_init_4 : decode cX10_init 4 = .ok (.aload_n 0, 1) ∧ 5 = 4 + 1 := ⟨by decide +kernel, rfl⟩
theorem dX10_init_5 : decode cX10_init 5 = .ok (.sipush 256, 3) ∧ 8 = 5 + 3 := ⟨by decide +kernel, rfl⟩
theorem dX10_init_8 : decode cX10_init 8 = .ok (.newarray .long, 2) ∧ 10 = 8 + 2 := ⟨by decide +kernel, rfl⟩
theorem dX10_init_10 : decode cX10_init 10 = .ok (.putfield 7, 3) ∧ 13 = 10 + 3 := ⟨by decide +kernel, rfl⟩
theorem dX10_init_13 : decode cX10_init 13 = .ok (.aload_n 0, 1) ∧ 14 = 13 + 1 := ⟨by decide +kernel, rfl⟩
theorem dX10_init_14 : decode cX10_init 14 = .ok (.sipush 256, 3) ∧ 17 = 14 + 3 := ⟨by decide +kernel, rfl⟩
theorem dX10_init_17 : decode cX10_init 17 = .ok (.newarray .long, 2) ∧ 19 = 17 + 2 := ⟨by decide +kernel, rfl⟩
theorem dX10_init_19 : decode cX10_init 19 = .ok (.putfield 13, 3) ∧ 22 = 19 + 3 := ⟨by decide +kernel, rfl⟩
theorem dX10_init_22 : decode cX10_init 22 = .ok (.aload_n 0, 1) ∧ 23 = 22 + 1 := ⟨by decide +kernel, rfl⟩
theorem dX10_init_23 : decode cX10_init 23 = .ok (.sipush 256, 3) ∧ 26 = 23 + 3 := ⟨by decide +kernel, rfl⟩
theorem dX10_init_26 : decode cX10_init 26 = .ok (.newarray .long, 2) ∧ 28 = 26 + 2 := ⟨by decide +kernel, rfl⟩
theorem dX10_init_28 : decode cX10_init 28 = .ok (.putfield 16, 3) ∧ 31 = 28 + 3 := ⟨by decide +kernel, rfl⟩
theorem dX10_init_31 : decode cX10_init 31 = .ok (.aload_n 0, 1) ∧ 32 = 31 + 1 := ⟨by decide +kernel, rfl⟩
theorem dX10_init_32 : decode cX10_init 32 = .ok (.sipush 256, 3) ∧ 35 = 32 + 3 := ⟨by decide +kernel, rfl⟩
theorem dX10_init_35 : decode cX10_init 35 = .ok (.newarray .long, 2) ∧ 37 = 35 + 2 := ⟨by decide +kernel, rfl⟩
theorem dX10_init_37 : decode cX10_init 37 = .ok (.putfield 19, 3) ∧ 40 = 37 + 3 := ⟨by decide +kernel, rfl⟩
theorem dX10_init_40 : decode cX10_init 40 = .ok (.aload_n 0, 1) ∧ 41 = 40 + 1 := ⟨by decide +kernel, rfl⟩
theorem dX10_init_41 : decode cX10_init 41 = .ok (.sipush 2560, 3) ∧ 44 = 41 + 3 := ⟨by decide +kernel, rfl⟩
theorem dX10_init_44 : decode cX10_init 44 = .ok (.newarray .long, 2) ∧ 46 = 44 + 2 := ⟨by decide +kernel, rfl⟩
theorem dX10_init_46 : decode cX10_init 46 = .ok (.putfield 22, 3) ∧ 49 = 46 + 3 := ⟨by decide +kernel, rfl⟩
theorem dX10_init_49 : decode cX10_init 49 = .ok (.aload_n 0, 1) ∧ 50 = 49 + 1 := ⟨by decide +kernel, rfl⟩
theorem dX10_init_50 : decode cX10_init 50 = .ok (.sipush 900, 3) ∧ 53 = 50 + 3 := ⟨by decide +kernel, rfl⟩
theorem dX10_init_53 : decode cX10_init 53 = .ok (.newarray .byte, 2) ∧ 55 = 53 + 2 := ⟨by decide +kernel, rfl⟩
theorem dX10_init_55 : decode cX10_init 55 = .ok (.putfield 25, 3) ∧ 58 = 55 + 3 := ⟨by decide +kernel, rfl⟩
theorem dX10_init_58 : decode cX10_init 58 = .ok (.aload_n 0, 1) ∧ 59 = 58 + 1 := ⟨by decide +kernel, rfl⟩
theorem dX10_init_59 : decode cX10_init 59 = .ok (.iconst (-1), 1) ∧ 60 = 59 + 1 := ⟨by decide +kernel, rfl⟩
theorem dX10_init_60 : decode cX10_init 60 = .ok (.putfield 29, 3) ∧ 63 = 60 + 3 := ⟨by decide +kernel, rfl⟩
theorem dX10_init_63 : decode cX10_init 63 = .ok (.aload_n 0, 1) ∧ 64 = 63 + 1 := ⟨by decide +kernel, rfl⟩
theorem dX10_init_64 : decode cX10_init 64 = .ok (.sipush 900, 3) ∧ 67 = 64 + 3 := ⟨by decide +kernel, rfl⟩
theorem dX10_init_67 : decode cX10_init 67 = .ok (.newarray .byte, 2) ∧ 69 = 67 + 2 := ⟨by decide +kernel, rfl⟩
theorem dX10_init_69 : decode cX10_init 69 = .ok (.putfield 33, 3) ∧ 72 = 69 + 3 := ⟨by decide +kernel, rfl⟩
theorem dX10_init_72 : decode cX10_init 72 = .ok (.aload_n 0, 1) ∧ 73 = 72 + 1 := ⟨by decide +kernel, rfl⟩
theorem dX10_init_73 : decode cX10_init 73 = .ok (.iconst 0, 1) ∧ 74 = 73 + 1 := ⟨by decide +kernel, rfl⟩
theorem dX10_init_74 : decode cX10_init 74 = .ok (.putfield 36, 3) ∧ 77 = 74 + 3 := ⟨by decide +kernel, rfl⟩
theorem dX10_init_77 : decode cX10_init 77 = .ok (.return_, 1) ∧ 78 = 77 + 1 := ⟨by decide +kernel, rfl⟩
theorem dX10_thrown_0 : decode cX10_thrown 0 = .ok (.aload_n 0, 1) ∧ 1 = 0 + 1 := ⟨by decide +kernel, rfl⟩
theorem dX10_thrown_1 : decode cX10_thrown 1 = .ok (.getfield 36, 3) ∧ 4 = 1 + 3 := ⟨by decide +kernel, rfl⟩
theorem dX10_thrown_4 : decode cX10_thrown 4 = .ok (.ireturn, 1) ∧ 5 = 4 + 1 := ⟨by decide +kernel, rfl⟩
theorem dX10_in_0 : decode cX10_in 0 = .ok (.lload_n 0, 1) ∧ 1 = 0 + 1 := ⟨by decide +kernel, rfl⟩
theorem dX10_in_1 : decode cX10_in 1 = .ok (.lload_n 2, 1) ∧ 2 = 1 + 1 := ⟨by decide +kernel, rfl⟩
theorem dX10_in_2 : decode cX10_in 2 = .ok (.lcmp, 1) ∧ 3 = 2 + 1 := ⟨by decide +kernel, rfl⟩
theorem dX10_in_3 : decode cX10_in 3 = .ok (.ifCond .lt 14, 3) ∧ 6 = 3 + 3 := ⟨by decide +kernel, rfl⟩
theorem dX10_in_6 : decode cX10_in 6 = .ok (.lload_n 0, 1) ∧ 7 = 6 + 1 := ⟨by decide +kernel, rfl⟩
theorem dX10_in_7 : decode cX10_in 7 = .ok (.lload 4, 2) ∧ 9 = 7 + 2 := ⟨by decide +kernel, rfl⟩
theorem dX10_in_9 : decode cX10_in 9 = .ok (.lcmp, 1) ∧ 10 = 9 + 1 := ⟨by decide +kernel, rfl⟩
theorem dX10_in_10 : decode cX10_in 10 = .ok (.ifCond .gt 7, 3) ∧ 13 = 10 + 3 := ⟨by decide +kernel, rfl⟩
theorem dX10_in_13 : decode cX10_in 13 = .ok (.iconst 1, 1) ∧ 14 = 13 + 1 := ⟨by decide +kernel, rfl⟩
theorem dX10_in_14 : decode cX10_in 14 = .ok (.goto 4, 3) ∧ 17 = 14 + 3 := ⟨by decide +kernel, rfl⟩
theorem dX10_in_17 : decode cX10_in 17 = .ok (.iconst 0, 1) ∧ 18 = 17 + 1 := ⟨by decide +kernel, rfl⟩
theorem dX10_in_18 : decode cX10_in 18 = .ok (.ireturn, 1) ∧ 19 = 18 + 1 := ⟨by decide +kernel, rfl⟩
theorem dX10_no_0 : decode cX10_no 0 = .ok (.aload_n 0, 1) ∧ 1 = 0 + 1 := ⟨by decide +kernel, rfl⟩
theorem dX10_no_1 : decode cX10_no 1 = .ok (.iload_n 1, 1) ∧ 2 = 1 + 1 := ⟨by decide +kernel, rfl⟩
theorem dX10_no_2 : decode cX10_no 2 = .ok (.putfield 36, 3) ∧ 5 = 2 + 3 := ⟨by decide +kernel, rfl⟩
theorem dX10_no_5 : decode cX10_no 5 = .ok (.iconst 0, 1) ∧ 6 = 5 + 1 := ⟨by decide +kernel, rfl⟩
theorem dX10_no_6 : decode cX10_no 6 = .ok (.ireturn, 1) ∧ 7 = 6 + 1 := ⟨by decide +kernel, rfl⟩
theorem dX10_fails_0 : decode cX10_fails 0 = .ok (.aload_n 0, 1) ∧ 1 = 0 + 1 := ⟨by decide +kernel, rfl⟩
theorem dX10_fails_1 : decode cX10_fails 1 = .ok (.iload_n 1, 1) ∧ 2 = 1 + 1 := ⟨by decide +kernel, rfl⟩
theorem dX10_fails_2 : decode cX10_fails 2 = .ok (.ifCond .eq 7, 3) ∧ 5 = 2 + 3 := ⟨by decide +kernel, rfl⟩
theorem dX10_fails_5 : decode cX10_fails 5 = .ok (.iload_n 2, 1) ∧ 6 = 5 + 1 := ⟨by decide +kernel, rfl⟩
theorem dX10_fails_6 : decode cX10_fails 6 = .ok (.goto 4, 3) ∧ 9 = 6 + 3 := ⟨by decide +kernel, rfl⟩
theorem dX10_fails_9 : decode cX10_fails 9 = .ok (.iconst 0, 1) ∧ 10 = 9 + 1 := ⟨by decide +kernel, rfl⟩
theorem dX10_fails_10 : decode cX10_fails 10 = .ok (.putfield 36, 3) ∧ 13 = 10 + 3 := ⟨by decide +kernel, rfl⟩
theorem dX10_fails_13 : decode cX10_fails 13 = .ok (.iload_n 1, 1) ∧ 14 = 13 + 1 := ⟨by decide +kernel, rfl⟩
theorem dX10_fails_14 : decode cX10_fails 14 = .ok (.ireturn, 1) ∧ 15 = 14 + 1 := ⟨by decide +kernel, rfl⟩
theorem dX10_many_0 : decode cX10_many 0 = .ok (.aload_n 0, 1) ∧ 1 = 0 + 1 := ⟨by decide +kernel, rfl⟩
theorem dX10_many_1 : decode cX10_many 1 = .ok (.getfield 7, 3) ∧ 4 = 1 + 3 := ⟨by decide +kernel, rfl⟩
theorem dX10_many_4 : decode cX10_many 4 = .ok (.iload_n 1, 1) ∧ 5 = 4 + 1 := ⟨by decide +kernel, rfl⟩
theorem dX10_many_5 : decode cX10_many 5 = .ok (.laload, 1) ∧ 6 = 5 + 1 := ⟨by decide +kernel, rfl⟩
theorem dX10_many_6 : decode cX10_many 6 = .ok (.l2i, 1) ∧ 7 = 6 + 1 := ⟨by decide +kernel, rfl⟩
theorem dX10_many_7 : decode cX10_many 7 = .ok (.ireturn, 1) ∧ 8 = 7 + 1 := ⟨by decide +kernel, rfl⟩
theorem dX10_isChamber_0 : decode cX10_isChamber 0 = .ok (.iload_n 1, 1) ∧ 1 = 0 + 1 := ⟨by decide +kernel, rfl⟩
theorem dX10_isChamber_1 : decode cX10_isChamber 1 = .ok (.i2l, 1) ∧ 2 = 1 + 1 := ⟨by decide +kernel, rfl⟩
theorem dX10_isChamber_2 : decode cX10_isChamber 2 = .ok (.lconst 0, 1) ∧ 3 = 2 + 1 := ⟨by decide +kernel, rfl⟩
theorem dX10_isChamber_3 : decode cX10_isChamber 3 = .ok (.aload_n 0, 1) ∧ 4 = 3 + 1 := ⟨by decide +kernel, rfl⟩
theorem dX10_isChamber_4 : decode cX10_isChamber 4 = .ok (.getfield 7, 3) ∧ 7 = 4 + 3 := ⟨by decide +kernel, rfl⟩
theorem dX10_isChamber_7 : decode cX10_isChamber 7 = .ok (.iconst 0, 1) ∧ 8 = 7 + 1 := ⟨by decide +kernel, rfl⟩
theorem dX10_isChamber_8 : decode cX10_isChamber 8 = .ok (.laload, 1) ∧ 9 = 8 + 1 := ⟨by decide +kernel, rfl⟩
theorem dX10_isChamber_9 : decode cX10_isChamber 9 = .ok (.lconst 1, 1) ∧ 10 = 9 + 1 := ⟨by decide +kernel, rfl⟩
theorem dX10_isChamber_10 : decode cX10_isChamber 10 = .ok (.lsub, 1) ∧ 11 = 10 + 1 := ⟨by decide +kernel, rfl⟩
theorem dX10_isChamber_11 : decode cX10_isChamber 11 = .ok (.invokestatic 39, 3) ∧ 14 = 11 + 3 := ⟨by decide +kernel, rfl⟩
theorem dX10_isChamber_14 : decode cX10_isChamber 14 = .ok (.ireturn, 1) ∧ 15 = 14 + 1 := ⟨by decide +kernel, rfl⟩
theorem dX10_isPump_0 : decode cX10_isPump 0 = .ok (.iload_n 1, 1) ∧ 1 = 0 + 1 := ⟨by decide +kernel, rfl⟩
theorem dX10_isPump_1 : decode cX10_isPump 1 = .ok (.i2l, 1) ∧ 2 = 1 + 1 := ⟨by decide +kernel, rfl⟩
theorem dX10_isPump_2 : decode cX10_isPump 2 = .ok (.lconst 0, 1) ∧ 3 = 2 + 1 := ⟨by decide +kernel, rfl⟩
theorem dX10_isPump_3 : decode cX10_isPump 3 = .ok (.aload_n 0, 1) ∧ 4 = 3 + 1 := ⟨by decide +kernel, rfl⟩
theorem dX10_isPump_4 : decode cX10_isPump 4 = .ok (.getfield 7, 3) ∧ 7 = 4 + 3 := ⟨by decide +kernel, rfl⟩
theorem dX10_isPump_7 : decode cX10_isPump 7 = .ok (.iconst 1, 1) ∧ 8 = 7 + 1 := ⟨by decide +kernel, rfl⟩
theorem dX10_isPump_8 : decode cX10_isPump 8 = .ok (.laload, 1) ∧ 9 = 8 + 1 := ⟨by decide +kernel, rfl⟩
theorem dX10_isPump_9 : decode cX10_isPump 9 = .ok (.lconst 1, 1) ∧ 10 = 9 + 1 := ⟨by decide +kernel, rfl⟩
theorem dX10_isPump_10 : decode cX10_isPump 10 = .ok (.lsub, 1) ∧ 11 = 10 + 1 := ⟨by decide +kernel, rfl⟩
theorem dX10_isPump_11 : decode cX10_isPump 11 = .ok (.invokestatic 39, 3) ∧ 14 = 11 + 3 := ⟨by decide +kernel, rfl⟩
theorem dX10_isPump_14 : decode cX10_isPump 14 = .ok (.ireturn, 1) ∧ 15 = 14 + 1 := ⟨by decide +kernel, rfl⟩
theorem dX10_isValve_0 : decode cX10_isValve 0 = .ok (.iload_n 1, 1) ∧ 1 = 0 + 1 := ⟨by decide +kernel, rfl⟩
theorem dX10_isValve_1 : decode cX10_isValve 1 = .ok (.i2l, 1) ∧ 2 = 1 + 1 := ⟨by decide +kernel, rfl⟩
theorem dX10_isValve_2 : decode cX10_isValve 2 = .ok (.lconst 0, 1) ∧ 3 = 2 + 1 := ⟨by decide +kernel, rfl⟩
theorem dX10_isValve_3 : decode cX10_isValve 3 = .ok (.aload_n 0, 1) ∧ 4 = 3 + 1 := ⟨by decide +kernel, rfl⟩
theorem dX10_isValve_4 : decode cX10_isValve 4 = .ok (.getfield 7, 3) ∧ 7 = 4 + 3 := ⟨by decide +kernel, rfl⟩
theorem dX10_isValve_7 : decode cX10_isValve 7 = .ok (.iconst 2, 1) ∧ 8 = 7 + 1 := ⟨by decide +kernel, rfl⟩
theorem dX10_isValve_8 : decode cX10_isValve 8 = .ok (.laload, 1) ∧ 9 = 8 + 1 := ⟨by decide +kernel, rfl⟩
theorem dX10_isValve_9 : decode cX10_isValve 9 = .ok (.lconst 1, 1) ∧ 10 = 9 + 1 := ⟨by decide +kernel, rfl⟩
theorem dX10_isValve_10 : decode cX10_isValve 10 = .ok (.lsub, 1) ∧ 11 = 10 + 1 := ⟨by decide +kernel, rfl⟩
theorem dX10_isValve_11 : decode cX10_isValve 11 = .ok (.invokestatic 39, 3) ∧ 14 = 11 + 3 := ⟨by decide +kernel, rfl⟩
theorem dX10_isValve_14 : decode cX10_isValve 14 = .ok (.ireturn, 1) ∧ 15 = 14 + 1 := ⟨by decide +kernel, rfl⟩
theorem dX10_isFlange_0 : decode cX10_isFlange 0 = .ok (.iload_n 1, 1) ∧ 1 = 0 + 1 := ⟨by decide +kernel, rfl⟩
theorem dX10_isFlange_1 : decode cX10_isFlange 1 = .ok (.i2l, 1) ∧ 2 = 1 + 1 := ⟨by decide +kernel, rfl⟩
theorem dX10_isFlange_2 : decode cX10_isFlange 2 = .ok (.lconst 0, 1) ∧ 3 = 2 + 1 := ⟨by decide +kernel, rfl⟩
theorem dX10_isFlange_3 : decode cX10_isFlange 3 = .ok (.aload_n 0, 1) ∧ 4 = 3 + 1 := ⟨by decide +kernel, rfl⟩
theorem dX10_isFlange_4 : decode cX10_isFlange 4 = .ok (.getfield 7, 3) ∧ 7 = 4 + 3 := ⟨by decide +kernel, rfl⟩
theorem dX10_isFlange_7 : decode cX10_isFlange 7 = .ok (.iconst 3, 1) ∧ 8 = 7 + 1 := ⟨by decide +kernel, rfl⟩
theorem dX10_isFlange_8 : decode cX10_isFlange 8 = .ok (.laload, 1) ∧ 9 = 8 + 1 := ⟨by decide +kernel, rfl⟩
theorem dX10_isFlange_9 : decode cX10_isFlange 9 = .ok (.lconst 1, 1) ∧ 10 = 9 + 1 := ⟨by decide +kernel, rfl⟩
theorem dX10_isFlange_10 : decode cX10_isFlange 10 = .ok (.lsub, 1) ∧ 11 = 10 + 1 := ⟨by decide +kernel, rfl⟩
theorem dX10_isFlange_11 : decode cX10_isFlange 11 = .ok (.invokestatic 39, 3) ∧ 14 = 11 + 3 := ⟨by decide +kernel, rfl⟩
theorem dX10_isFlange_14 : decode cX10_isFlange 14 = .ok (.ireturn, 1) ∧ 15 = 14 + 1 := ⟨by decide +kernel, rfl⟩
theorem dX10_isPressure_0 : decode cX10_isPressure 0 = .ok (.iload_n 0, 1) ∧ 1 = 0 + 1 := ⟨by decide +kernel, rfl⟩
theorem dX10_isPressure_1 : decode cX10_isPressure 1 = .ok (.i2l, 1) ∧ 2 = 1 + 1 := ⟨by decide +kernel, rfl⟩
theorem dX10_isPressure_2 : decode cX10_isPressure 2 = .ok (.lconst 0, 1) ∧ 3 = 2 + 1 := ⟨by decide +kernel, rfl⟩
theorem dX10_isPressure_3 : decode cX10_isPressure 3 = .ok (.ldc2_w 43, 3) ∧ 6 = 3 + 3 := ⟨by decide +kernel, rfl⟩
theorem dX10_isPressure_6 : decode cX10_isPressure 6 = .ok (.invokestatic 39, 3) ∧ 9 = 6 + 3 := ⟨by decide +kernel, rfl⟩
theorem dX10_isPressure_9 : decode cX10_isPressure 9 = .ok (.ireturn, 1) ∧ 10 = 9 + 1 := ⟨by decide +kernel, rfl⟩
theorem dX10_isTicks_0 : decode cX10_isTicks 0 = .ok (.iload_n 0, 1) ∧ 1 = 0 + 1 := ⟨by decide +kernel, rfl⟩
theorem dX10_isTicks_1 : decode cX10_isTicks 1 = .ok (.i2l, 1) ∧ 2 = 1 + 1 := ⟨by decide +kernel, rfl⟩
theorem dX10_isTicks_2 : decode cX10_isTicks 2 = .ok (.lconst 1, 1) ∧ 3 = 2 + 1 := ⟨by decide +kernel, rfl⟩
theorem dX10_isTicks_3 : decode cX10_isTicks 3 = .ok (.ldc2_w 45, 3) ∧ 6 = 3 + 3 := ⟨by decide +kernel, rfl⟩
theorem dX10_isTicks_6 : decode cX10_isTicks 6 = .ok (.invokestatic 39, 3) ∧ 9 = 6 + 3 := ⟨by decide +kernel, rfl⟩
theorem dX10_isTicks_9 : decode cX10_isTicks 9 = .ok (.ireturn, 1) ∧ 10 = 9 + 1 := ⟨by decide +kernel, rfl⟩
theorem dX10_chamberAt_0 : decode cX10_chamberAt 0 = .ok (.bipush 8, 2) ∧ 2 = 0 + 2 := ⟨by decide +kernel, rfl⟩
theorem dX10_chamberAt_2 : decode cX10_chamberAt 2 = .ok (.iconst 4, 1) ∧ 3 = 2 + 1 := ⟨by decide +kernel, rfl⟩
theorem dX10_chamberAt_3 : decode cX10_chamberAt 3 = .ok (.iload_n 0, 1) ∧ 4 = 3 + 1 := ⟨by decide +kernel, rfl⟩
theorem dX10_chamberAt_4 : decode cX10_chamberAt 4 = .ok (.imul, 1) ∧ 5 = 4 + 1 := ⟨by decide +kernel, rfl⟩
theorem dX10_chamberAt_5 : decode cX10_chamberAt 5 = .ok (.iadd, 1) ∧ 6 = 5 + 1 := ⟨by decide +kernel, rfl⟩
theorem dX10_chamberAt_6 : decode cX10_chamberAt 6 = .ok (.ireturn, 1) ∧ 7 = 6 + 1 := ⟨by decide +kernel, rfl⟩
theorem dX10_pumpAt_0 : decode cX10_pumpAt 0 = .ok (.bipush 40, 2) ∧ 2 = 0 + 2 := ⟨by decide +kernel, rfl⟩
theorem dX10_pumpAt_2 : decode cX10_pumpAt 2 = .ok (.bipush 8, 2) ∧ 4 = 2 + 2 := ⟨by decide +kernel, rfl⟩
theorem dX10_pumpAt_4 : decode cX10_pumpAt 4 = .ok (.iload_n 0, 1) ∧ 5 = 4 + 1 := ⟨by decide +kernel, rfl⟩
theorem dX10_pumpAt_5 : decode cX10_pumpAt 5 = .ok (.imul, 1) ∧ 6 = 5 + 1 := ⟨by decide +kernel, rfl⟩
theorem dX10_pumpAt_6 : decode cX10_pumpAt 6 = .ok (.iadd, 1) ∧ 7 = 6 + 1 := ⟨by decide +kernel, rfl⟩
theorem dX10_pumpAt_7 : decode cX10_pumpAt 7 = .ok (.ireturn, 1) ∧ 8 = 7 + 1 := ⟨by decide +kernel, rfl⟩
theorem dX10_valveAt_0 : decode cX10_valveAt 0 = .ok (.bipush 88, 2) ∧ 2 = 0 + 2 := ⟨by decide +kernel, rfl⟩
theorem dX10_valveAt_2 : decode cX10_valveAt 2 = .ok (.bipush 6, 2) ∧ 4 = 2 + 2 := ⟨by decide +kernel, rfl⟩
theorem dX10_valveAt_4 : decode cX10_valveAt 4 = .ok (.iload_n 0, 1) ∧ 5 = 4 + 1 := ⟨by decide +kernel, rfl⟩
theorem dX10_valveAt_5 : decode cX10_valveAt 5 = .ok (.imul, 1) ∧ 6 = 5 + 1 := ⟨by decide +kernel, rfl⟩
theorem dX10_valveAt_6 : decode cX10_valveAt 6 = .ok (.iadd, 1) ∧ 7 = 6 + 1 := ⟨by decide +kernel, rfl⟩
theorem dX10_valveAt_7 : decode cX10_valveAt 7 = .ok (.ireturn, 1) ∧ 8 = 7 + 1 := ⟨by decide +kernel, rfl⟩
theorem dX10_flangeAt_0 : decode cX10_flangeAt 0 = .ok (.sipush 148, 3) ∧ 3 = 0 + 3 := ⟨by decide +kernel, rfl⟩
theorem dX10_flangeAt_3 : decode cX10_flangeAt 3 = .ok (.iconst 2, 1) ∧ 4 = 3 + 1 := ⟨by decide +kernel, rfl⟩
theorem dX10_flangeAt_4 : decode cX10_flangeAt 4 = .ok (.iload_n 0, 1) ∧ 5 = 4 + 1 := ⟨by decide +kernel, rfl⟩
theorem dX10_flangeAt_5 : decode cX10_flangeAt 5 = .ok (.imul, 1) ∧ 6 = 5 + 1 := ⟨by decide +kernel, rfl⟩
theorem dX10_flangeAt_6 : decode cX10_flangeAt 6 = .ok (.iadd, 1) ∧ 7 = 6 + 1 := ⟨by decide +kernel, rfl⟩
theorem dX10_flangeAt_7 : decode cX10_flangeAt 7 = .ok (.ireturn, 1) ∧ 8 = 7 + 1 := ⟨by decide +kernel, rfl⟩
theorem dX10_testAt_0 : decode cX10_testAt 0 = .ok (.sipush 196, 3) ∧ 3 = 0 + 3 := ⟨by decide +kernel, rfl⟩
theorem dX10_testAt_3 : decode cX10_testAt 3 = .ok (.bipush 6, 2) ∧ 5 = 3 + 2 := ⟨by decide +kernel, rfl⟩
theorem dX10_testAt_5 : decode cX10_testAt 5 = .ok (.iload_n 0, 1) ∧ 6 = 5 + 1 := ⟨by decide +kernel, rfl⟩
theorem dX10_testAt_6 : decode cX10_testAt 6 = .ok (.imul, 1) ∧ 7 = 6 + 1 := ⟨by decide +kernel, rfl⟩
theorem dX10_testAt_7 : decode cX10_testAt 7 = .ok (.iadd, 1) ∧ 8 = 7 + 1 := ⟨by decide +kernel, rfl⟩
theorem dX10_testAt_8 : decode cX10_testAt 8 = .ok (.ireturn, 1) ∧ 9 = 8 + 1 := ⟨by decide +kernel, rfl⟩
theorem dX10_copy_0 : decode cX10_copy 0 = .ok (.iconst 0, 1) ∧ 1 = 0 + 1 := ⟨by decide +kernel, rfl⟩
theorem dX10_copy_1 : decode cX10_copy 1 = .ok (.istore_n 2, 1) ∧ 2 = 1 + 1 := ⟨by decide +kernel, rfl⟩
theorem dX10_copy_2 : decode cX10_copy 2 = .ok (.iload_n 2, 1) ∧ 3 = 2 + 1 := ⟨by decide +kernel, rfl⟩
theorem dX10_copy_3 : decode cX10_copy 3 = .ok (.sipush 256, 3) ∧ 6 = 3 + 3 := ⟨by decide +kernel, rfl⟩
theorem dX10_copy_6 : decode cX10_copy 6 = .ok (.if_icmp .ge 15, 3) ∧ 9 = 6 + 3 := ⟨by decide +kernel, rfl⟩
theorem dX10_copy_9 : decode cX10_copy 9 = .ok (.aload_n 1, 1) ∧ 10 = 9 + 1 := ⟨by decide +kernel, rfl⟩
theorem dX10_copy_10 : decode cX10_copy 10 = .ok (.iload_n 2, 1) ∧ 11 = 10 + 1 := ⟨by decide +kernel, rfl⟩
theorem dX10_copy_11 : decode cX10_copy 11 = .ok (.aload_n 0, 1) ∧ 12 = 11 + 1 := ⟨by decide +kernel, rfl⟩
theorem dX10_copy_12 : decode cX10_copy 12 = .ok (.iload_n 2, 1) ∧ 13 = 12 + 1 := ⟨by decide +kernel, rfl⟩
theorem dX10_copy_13 : decode cX10_copy 13 = .ok (.laload, 1) ∧ 14 = 13 + 1 := ⟨by decide +kernel, rfl⟩
theorem dX10_copy_14 : decode cX10_copy 14 = .ok (.lastore, 1) ∧ 15 = 14 + 1 := ⟨by decide +kernel, rfl⟩
theorem dX10_copy_15 : decode cX10_copy 15 = .ok (.iinc 2 1, 3) ∧ 18 = 15 + 3 := ⟨by decide +kernel, rfl⟩
theorem dX10_copy_18 : decode cX10_copy 18 = .ok (.goto (-16), 3) ∧ 21 = 18 + 3 := ⟨by decide +kernel, rfl⟩
theorem dX10_copy_21 : decode cX10_copy 21 = .ok (.return_, 1) ∧ 22 = 21 + 1 := ⟨by decide +kernel, rfl⟩
theorem dX10_push_0 : decode cX10_push 0 = .ok (.aload_n 0, 1) ∧ 1 = 0 + 1 := ⟨by decide +kernel, rfl⟩
theorem dX10_push_1 : decode cX10_push 1 = .ok (.getfield 47, 3) ∧ 4 = 1 + 3 := ⟨by decide +kernel, rfl⟩
theorem dX10_push_4 : decode cX10_push 4 = .ok (.bipush 10, 2) ∧ 6 = 4 + 2 := ⟨by decide +kernel, rfl⟩
theorem dX10_push_6 : decode cX10_push 6 = .ok (.if_icmp .ne 46, 3) ∧ 9 = 6 + 3 := ⟨by decide +kernel, rfl⟩
theorem dX10_push_9 : decode cX10_push 9 = .ok (.sipush 256, 3) ∧ 12 = 9 + 3 := ⟨by decide +kernel, rfl⟩
theorem dX10_push_12 : decode cX10_push 12 = .ok (.istore_n 1, 1) ∧ 13 = 12 + 1 := ⟨by decide +kernel, rfl⟩
theorem dX10_push_13 : decode cX10_push 13 = .ok (.iload_n 1, 1) ∧ 14 = 13 + 1 := ⟨by decide +kernel, rfl⟩
theorem dX10_push_14 : decode cX10_push 14 = .ok (.sipush 2560, 3) ∧ 17 = 14 + 3 := ⟨by decide +kernel, rfl⟩
theorem dX10_push_17 : decode cX10_push 17 = .ok (.if_icmp .ge 25, 3) ∧ 20 = 17 + 3 := ⟨by decide +kernel, rfl⟩
theorem dX10_push_20 : decode cX10_push 20 = .ok (.aload_n 0, 1) ∧ 21 = 20 + 1 := ⟨by decide +kernel, rfl⟩
theorem dX10_push_21 : decode cX10_push 21 = .ok (.getfield 22, 3) ∧ 24 = 21 + 3 := ⟨by decide +kernel, rfl⟩
theorem dX10_push_24 : decode cX10_push 24 = .ok (.iload_n 1, 1) ∧ 25 = 24 + 1 := ⟨by decide +kernel, rfl⟩
theorem dX10_push_25 : decode cX10_push 25 = .ok (.sipush 256, 3) ∧ 28 = 25 + 3 := ⟨by decide +kernel, rfl⟩
theorem dX10_push_28 : decode cX10_push 28 = .ok (.isub, 1) ∧ 29 = 28 + 1 := ⟨by decide +kernel, rfl⟩
theorem dX10_push_29 : decode cX10_push 29 = .ok (.aload_n 0, 1) ∧ 30 = 29 + 1 := ⟨by decide +kernel, rfl⟩
theorem dX10_push_30 : decode cX10_push 30 = .ok (.getfield 22, 3) ∧ 33 = 30 + 3 := ⟨by decide +kernel, rfl⟩
theorem dX10_push_33 : decode cX10_push 33 = .ok (.iload_n 1, 1) ∧ 34 = 33 + 1 := ⟨by decide +kernel, rfl⟩
theorem dX10_push_34 : decode cX10_push 34 = .ok (.laload, 1) ∧ 35 = 34 + 1 := ⟨by decide +kernel, rfl⟩
theorem dX10_push_35 : decode cX10_push 35 = .ok (.lastore, 1) ∧ 36 = 35 + 1 := ⟨by decide +kernel, rfl⟩
theorem dX10_push_36 : decode cX10_push 36 = .ok (.iinc 1 1, 3) ∧ 39 = 36 + 3 := ⟨by decide +kernel, rfl⟩
theorem dX10_push_39 : decode cX10_push 39 = .ok (.goto (-26), 3) ∧ 42 = 39 + 3 := ⟨by decide +kernel, rfl⟩
theorem dX10_push_42 : decode cX10_push 42 = .ok (.aload_n 0, 1) ∧ 43 = 42 + 1 := ⟨by decide +kernel, rfl⟩
theorem dX10_push_43 : decode cX10_push 43 = .ok (.dup, 1) ∧ 44 = 43 + 1 := ⟨by decide +kernel, rfl⟩
theorem dX10_push_44 : decode cX10_push 44 = .ok (.getfield 47, 3) ∧ 47 = 44 + 3 := ⟨by decide +kernel, rfl⟩
theorem dX10_push_47 : decode cX10_push 47 = .ok (.iconst 1, 1) ∧ 48 = 47 + 1 := ⟨by decide +kernel, rfl⟩
theorem dX10_push_48 : decode cX10_push 48 = .ok (.isub, 1) ∧ 49 = 48 + 1 := ⟨by decide +kernel, rfl⟩
theorem dX10_push_49 : decode cX10_push 49 = .ok (.putfield 47, 3) ∧ 52 = 49 + 3 := ⟨by decide +kernel, rfl⟩
theorem dX10_push_52 : decode cX10_push 52 = .ok (.iconst 0, 1) ∧ 53 = 52 + 1 := ⟨by decide +kernel, rfl⟩
theorem dX10_push_53 : decode cX10_push 53 = .ok (.istore_n 1, 1) ∧ 54 = 53 + 1 := ⟨by decide +kernel, rfl⟩
theorem dX10_push_54 : decode cX10_push 54 = .ok (.iload_n 1, 1) ∧ 55 = 54 + 1 := ⟨by decide +kernel, rfl⟩
theorem dX10_push_55 : decode cX10_push 55 = .ok (.sipush 256, 3) ∧ 58 = 55 + 3 := ⟨by decide +kernel, rfl⟩
theorem dX10_push_58 : decode cX10_push 58 = .ok (.if_icmp .ge 30, 3) ∧ 61 = 58 + 3 := ⟨by decide +kernel, rfl⟩
theorem dX10_push_61 : decode cX10_push 61 = .ok (.aload_n 0, 1) ∧ 62 = 61 + 1 := ⟨by decide +kernel, rfl⟩
theorem dX10_push_62 : decode cX10_push 62 = .ok (.getfield 22, 3) ∧ 65 = 62 + 3 := ⟨by decide +kernel, rfl⟩
theorem dX10_push_65 : decode cX10_push 65 = .ok (.sipush 256, 3) ∧ 68 = 65 + 3 := ⟨by decide +kernel, rfl⟩
theorem dX10_push_68 : decode cX10_push 68 = .ok (.aload_n 0, 1) ∧ 69 = 68 + 1 := ⟨by decide +kernel, rfl⟩
theorem dX10_push_69 : decode cX10_push 69 = .ok (.getfield 47, 3) ∧ 72 = 69 + 3 := ⟨by decide +kernel, rfl⟩
theorem dX10_push_72 : decode cX10_push 72 = .ok (.imul, 1) ∧ 73 = 72 + 1 := ⟨by decide +kernel, rfl⟩
theorem dX10_push_73 : decode cX10_push 73 = .ok (.iload_n 1, 1) ∧ 74 = 73 + 1 := ⟨by decide +kernel, rfl⟩
theorem dX10_push_74 : decode cX10_push 74 = .ok (.iadd, 1) ∧ 75 = 74 + 1 := ⟨by decide +kernel, rfl⟩
theorem dX10_push_75 : decode cX10_push 75 = .ok (.aload_n 0, 1) ∧ 76 = 75 + 1 := ⟨by decide +kernel, rfl⟩
theorem dX10_push_76 : decode cX10_push 76 = .ok (.getfield 13, 3) ∧ 79 = 76 + 3 := ⟨by decide +kernel, rfl⟩
theorem dX10_push_79 : decode cX10_push 79 = .ok (.iload_n 1, 1) ∧ 80 = 79 + 1 := ⟨by decide +kernel, rfl⟩
theorem dX10_push_80 : decode cX10_push 80 = .ok (.laload, 1) ∧ 81 = 80 + 1 := ⟨by decide +kernel, rfl⟩
theorem dX10_push_81 : decode cX10_push 81 = .ok (.lastore, 1) ∧ 82 = 81 + 1 := ⟨by decide +kernel, rfl⟩
theorem dX10_push_82 : decode cX10_push 82 = .ok (.iinc 1 1, 3) ∧ 85 = 82 + 3 := ⟨by decide +kernel, rfl⟩
theorem dX10_push_85 : decode cX10_push 85 = .ok (.goto (-31), 3) ∧ 88 = 85 + 3 := ⟨by decide +kernel, rfl⟩
theorem dX10_push_88 : decode cX10_push 88 = .ok (.aload_n 0, 1) ∧ 89 = 88 + 1 := ⟨by decide +kernel, rfl⟩
theorem dX10_push_89 : decode cX10_push 89 = .ok (.dup, 1) ∧ 90 = 89 + 1 := ⟨by decide +kernel, rfl⟩
theorem dX10_push_90 : decode cX10_push 90 = .ok (.getfield 47, 3) ∧ 93 = 90 + 3 := ⟨by decide +kernel, rfl⟩
theorem dX10_push_93 : decode cX10_push 93 = .ok (.iconst 1, 1) ∧ 94 = 93 + 1 := ⟨by decide +kernel, rfl⟩
theorem dX10_push_94 : decode cX10_push 94 = .ok (.iadd, 1) ∧ 95 = 94 + 1 := ⟨by decide +kernel, rfl⟩
theorem dX10_push_95 : decode cX10_push 95 = .ok (.putfield 47, 3) ∧ 98 = 95 + 3 := ⟨by decide +kernel, rfl⟩
theorem dX10_push_98 : decode cX10_push 98 = .ok (.return_, 1) ∧ 99 = 98 + 1 := ⟨by decide +kernel, rfl⟩
theorem dX10_remember_0 : decode cX10_remember 0 = .ok (.aload_n 0, 1) ∧ 1 = 0 + 1 := ⟨by decide +kernel, rfl⟩
theorem dX10_remember_1 : decode cX10_remember 1 = .ok (.getfield 7, 3) ∧ 4 = 1 + 3 := ⟨by decide +kernel, rfl⟩
theorem dX10_remember_4 : decode cX10_remember 4 = .ok (.aload_n 0, 1) ∧ 5 = 4 + 1 := ⟨by decide +kernel, rfl⟩
theorem dX10_remember_5 : decode cX10_remember 5 = .ok (.getfield 13, 3) ∧ 8 = 5 + 3 := ⟨by decide +kernel, rfl⟩
theorem dX10_remember_8 : decode cX10_remember 8 = .ok (.invokestatic 50, 3) ∧ 11 = 8 + 3 := ⟨by decide +kernel, rfl⟩
theorem dX10_remember_11 : decode cX10_remember 11 = .ok (.aload_n 0, 1) ∧ 12 = 11 + 1 := ⟨by decide +kernel, rfl⟩
theorem dX10_remember_12 : decode cX10_remember 12 = .ok (.invokevirtual 54, 3) ∧ 15 = 12 + 3 := ⟨by decide +kernel, rfl⟩
theorem dX10_remember_15 : decode cX10_remember 15 = .ok (.return_, 1) ∧ 16 = 15 + 1 := ⟨by decide +kernel, rfl⟩
theorem dX10_undo_0 : decode cX10_undo 0 = .ok (.aload_n 0, 1) ∧ 1 = 0 + 1 := ⟨by decide +kernel, rfl⟩
theorem dX10_undo_1 : decode cX10_undo 1 = .ok (.getfield 47, 3) ∧ 4 = 1 + 3 := ⟨by decide +kernel, rfl⟩
theorem dX10_undo_4 : decode cX10_undo 4 = .ok (.ifCond .ne 9, 3) ∧ 7 = 4 + 3 := ⟨by decide +kernel, rfl⟩
theorem dX10_undo_7 : decode cX10_undo 7 = .ok (.aload_n 0, 1) ∧ 8 = 7 + 1 := ⟨by decide +kernel, rfl⟩
theorem dX10_undo_8 : decode cX10_undo 8 = .ok (.iconst 1, 1) ∧ 9 = 8 + 1 := ⟨by decide +kernel, rfl⟩
theorem dX10_undo_9 : decode cX10_undo 9 = .ok (.invokevirtual 57, 3) ∧ 12 = 9 + 3 := ⟨by decide +kernel, rfl⟩
theorem dX10_undo_12 : decode cX10_undo 12 = .ok (.ireturn, 1) ∧ 13 = 12 + 1 := ⟨by decide +kernel, rfl⟩
theorem dX10_undo_13 : decode cX10_undo 13 = .ok (.aload_n 0, 1) ∧ 14 = 13 + 1 := ⟨by decide +kernel, rfl⟩
theorem dX10_undo_14 : decode cX10_undo 14 = .ok (.iconst 0, 1) ∧ 15 = 14 + 1 := ⟨by decide +kernel, rfl⟩
theorem dX10_undo_15 : decode cX10_undo 15 = .ok (.putfield 36, 3) ∧ 18 = 15 + 3 := ⟨by decide +kernel, rfl⟩
theorem dX10_undo_18 : decode cX10_undo 18 = .ok (.aload_n 0, 1) ∧ 19 = 18 + 1 := ⟨by decide +kernel, rfl⟩
theorem dX10_undo_19 : decode cX10_undo 19 = .ok (.dup, 1) ∧ 20 = 19 + 1 := ⟨by decide +kernel, rfl⟩
theorem dX10_undo_20 : decode cX10_undo 20 = .ok (.getfield 47, 3) ∧ 23 = 20 + 3 := ⟨by decide +kernel, rfl⟩
theorem dX10_undo_23 : decode cX10_undo 23 = .ok (.iconst 1, 1) ∧ 24 = 23 + 1 := ⟨by decide +kernel, rfl⟩
theorem dX10_undo_24 : decode cX10_undo 24 = .ok (.isub, 1) ∧ 25 = 24 + 1 := ⟨by decide +kernel, rfl⟩
theorem dX10_undo_25 : decode cX10_undo 25 = .ok (.putfield 47, 3) ∧ 28 = 25 + 3 := ⟨by decide +kernel, rfl⟩
theorem dX10_undo_28 : decode cX10_undo 28 = .ok (.iconst 0, 1) ∧ 29 = 28 + 1 := ⟨by decide +kernel, rfl⟩
theorem dX10_undo_29 : decode cX10_undo 29 = .ok (.istore_n 1, 1) ∧ 30 = 29 + 1 := ⟨by decide +kernel, rfl⟩
theorem dX10_undo_30 : decode cX10_undo 30 = .ok (.iload_n 1, 1) ∧ 31 = 30 + 1 := ⟨by decide +kernel, rfl⟩
theorem dX10_undo_31 : decode cX10_undo 31 = .ok (.sipush 256, 3) ∧ 34 = 31 + 3 := ⟨by decide +kernel, rfl⟩
theorem dX10_undo_34 : decode cX10_undo 34 = .ok (.if_icmp .ge 30, 3) ∧ 37 = 34 + 3 := ⟨by decide +kernel, rfl⟩
theorem dX10_undo_37 : decode cX10_undo 37 = .ok (.aload_n 0, 1) ∧ 38 = 37 + 1 := ⟨by decide +kernel, rfl⟩
theorem dX10_undo_38 : decode cX10_undo 38 = .ok (.getfield 7, 3) ∧ 41 = 38 + 3 := ⟨by decide +kernel, rfl⟩
theorem dX10_undo_41 : decode cX10_undo 41 = .ok (.iload_n 1, 1) ∧ 42 = 41 + 1 := ⟨by decide +kernel, rfl⟩
theorem dX10_undo_42 : decode cX10_undo 42 = .ok (.aload_n 0, 1) ∧ 43 = 42 + 1 := ⟨by decide +kernel, rfl⟩
theorem dX10_undo_43 : decode cX10_undo 43 = .ok (.getfield 22, 3) ∧ 46 = 43 + 3 := ⟨by decide +kernel, rfl⟩
theorem dX10_undo_46 : decode cX10_undo 46 = .ok (.sipush 256, 3) ∧ 49 = 46 + 3 := ⟨by decide +kernel, rfl⟩
theorem dX10_undo_49 : decode cX10_undo 49 = .ok (.aload_n 0, 1) ∧ 50 = 49 + 1 := ⟨by decide +kernel, rfl⟩
theorem dX10_undo_50 : decode cX10_undo 50 = .ok (.getfield 47, 3) ∧ 53 = 50 + 3 := ⟨by decide +kernel, rfl⟩
theorem dX10_undo_53 : decode cX10_undo 53 = .ok (.imul, 1) ∧ 54 = 53 + 1 := ⟨by decide +kernel, rfl⟩
theorem dX10_undo_54 : decode cX10_undo 54 = .ok (.iload_n 1, 1) ∧ 55 = 54 + 1 := ⟨by decide +kernel, rfl⟩
theorem dX10_undo_55 : decode cX10_undo 55 = .ok (.iadd, 1) ∧ 56 = 55 + 1 := ⟨by decide +kernel, rfl⟩
theorem dX10_undo_56 : decode cX10_undo 56 = .ok (.laload, 1) ∧ 57 = 56 + 1 := ⟨by decide +kernel, rfl⟩
theorem dX10_undo_57 : decode cX10_undo 57 = .ok (.lastore, 1) ∧ 58 = 57 + 1 := ⟨by decide +kernel, rfl⟩
theorem dX10_undo_58 : decode cX10_undo 58 = .ok (.iinc 1 1, 3) ∧ 61 = 58 + 3 := ⟨by decide +kernel, rfl⟩
theorem dX10_undo_61 : decode cX10_undo 61 = .ok (.goto (-31), 3) ∧ 64 = 61 + 3 := ⟨by decide +kernel, rfl⟩
theorem dX10_undo_64 : decode cX10_undo 64 = .ok (.aload_n 0, 1) ∧ 65 = 64 + 1 := ⟨by decide +kernel, rfl⟩
theorem dX10_undo_65 : decode cX10_undo 65 = .ok (.getfield 47, 3) ∧ 68 = 65 + 3 := ⟨by decide +kernel, rfl⟩
theorem dX10_undo_68 : decode cX10_undo 68 = .ok (.ireturn, 1) ∧ 69 = 68 + 1 := ⟨by decide +kernel, rfl⟩
theorem dX10_undoDepth_0 : decode cX10_undoDepth 0 = .ok (.aload_n 0, 1) ∧ 1 = 0 + 1 := ⟨by decide +kernel, rfl⟩
theorem dX10_undoDepth_1 : decode cX10_undoDepth 1 = .ok (.iconst 0, 1) ∧ 2 = 1 + 1 := ⟨by decide +kernel, rfl⟩
theorem dX10_undoDepth_2 : decode cX10_undoDepth 2 = .ok (.putfield 36, 3) ∧ 5 = 2 + 3 := ⟨by decide +kernel, rfl⟩
theorem dX10_undoDepth_5 : decode cX10_undoDepth 5 = .ok (.aload_n 0, 1) ∧ 6 = 5 + 1 := ⟨by decide +kernel, rfl⟩
theorem dX10_undoDepth_6 : decode cX10_undoDepth 6 = .ok (.getfield 47, 3) ∧ 9 = 6 + 3 := ⟨by decide +kernel, rfl⟩
theorem dX10_undoDepth_9 : decode cX10_undoDepth 9 = .ok (.ireturn, 1) ∧ 10 = 9 + 1 := ⟨by decide +kernel, rfl⟩
theorem dX10_volume_0 : decode cX10_volume 0 = .ok (.aload_n 0, 1) ∧ 1 = 0 + 1 := ⟨by decide +kernel, rfl⟩
theorem dX10_volume_1 : decode cX10_volume 1 = .ok (.getfield 7, 3) ∧ 4 = 1 + 3 := ⟨by decide +kernel, rfl⟩
theorem dX10_volume_4 : decode cX10_volume 4 = .ok (.iload_n 1, 1) ∧ 5 = 4 + 1 := ⟨by decide +kernel, rfl⟩
theorem dX10_volume_5 : decode cX10_volume 5 = .ok (.invokestatic 61, 3) ∧ 8 = 5 + 3 := ⟨by decide +kernel, rfl⟩
theorem dX10_volume_8 : decode cX10_volume 8 = .ok (.iconst 0, 1) ∧ 9 = 8 + 1 := ⟨by decide +kernel, rfl⟩
theorem dX10_volume_9 : decode cX10_volume 9 = .ok (.iadd, 1) ∧ 10 = 9 + 1 := ⟨by decide +kernel, rfl⟩
theorem dX10_volume_10 : decode cX10_volume 10 = .ok (.laload, 1) ∧ 11 = 10 + 1 := ⟨by decide +kernel, rfl⟩
theorem dX10_volume_11 : decode cX10_volume 11 = .ok (.lreturn, 1) ∧ 12 = 11 + 1 := ⟨by decide +kernel, rfl⟩
theorem dX10_pressure_0 : decode cX10_pressure 0 = .ok (.iload_n 1, 1) ∧ 1 = 0 + 1 := ⟨by decide +kernel, rfl⟩
theorem dX10_pressure_1 : decode cX10_pressure 1 = .ok (.iconst (-1), 1) ∧ 2 = 1 + 1 := ⟨by decide +kernel, rfl⟩
theorem dX10_pressure_2 : decode cX10_pressure 2 = .ok (.if_icmp .ne 9, 3) ∧ 5 = 2 + 3 := ⟨by decide +kernel, rfl⟩
theorem dX10_pressure_5 : decode cX10_pressure 5 = .ok (.ldc2_w 43, 3) ∧ 8 = 5 + 3 := ⟨by decide +kernel, rfl⟩
theorem dX10_pressure_8 : decode cX10_pressure 8 = .ok (.goto 20, 3) ∧ 11 = 8 + 3 := ⟨by decide +kernel, rfl⟩
theorem dX10_pressure_11 : decode cX10_pressure 11 = .ok (.aload_n 0, 1) ∧ 12 = 11 + 1 := ⟨by decide +kernel, rfl⟩
theorem dX10_pressure_12 : decode cX10_pressure 12 = .ok (.getfield 7, 3) ∧ 15 = 12 + 3 := ⟨by decide +kernel, rfl⟩
theorem dX10_pressure_15 : decode cX10_pressure 15 = .ok (.iload_n 1, 1) ∧ 16 = 15 + 1 := ⟨by decide +kernel, rfl⟩
theorem dX10_pressure_16 : decode cX10_pressure 16 = .ok (.invokestatic 61, 3) ∧ 19 = 16 + 3 := ⟨by decide +kernel, rfl⟩
theorem dX10_pressure_19 : decode cX10_pressure 19 = .ok (.iconst 3, 1) ∧ 20 = 19 + 1 := ⟨by decide +kernel, rfl⟩
theorem dX10_pressure_20 : decode cX10_pressure 20 = .ok (.iadd, 1) ∧ 21 = 20 + 1 := ⟨by decide +kernel, rfl⟩
theorem dX10_pressure_21 : decode cX10_pressure 21 = .ok (.laload, 1) ∧ 22 = 21 + 1 := ⟨by decide +kernel, rfl⟩
theorem dX10_pressure_22 : decode cX10_pressure 22 = .ok (.aload_n 0, 1) ∧ 23 = 22 + 1 := ⟨by decide +kernel, rfl⟩
theorem dX10_pressure_23 : decode cX10_pressure 23 = .ok (.iload_n 1, 1) ∧ 24 = 23 + 1 := ⟨by decide +kernel, rfl⟩
theorem dX10_pressure_24 : decode cX10_pressure 24 = .ok (.invokevirtual 64, 3) ∧ 27 = 24 + 3 := ⟨by decide +kernel, rfl⟩
theorem dX10_pressure_27 : decode cX10_pressure 27 = .ok (.ldiv, 1) ∧ 28 = 27 + 1 := ⟨by decide +kernel, rfl⟩
theorem dX10_pressure_28 : decode cX10_pressure 28 = .ok (.lreturn, 1) ∧ 29 = 28 + 1 := ⟨by decide +kernel, rfl⟩
theorem dX10_ofValve_0 : decode cX10_ofValve 0 = .ok (.aload_n 0, 1) ∧ 1 = 0 + 1 := ⟨by decide +kernel, rfl⟩
theorem dX10_ofValve_1 : decode cX10_ofValve 1 = .ok (.getfield 7, 3) ∧ 4 = 1 + 3 := ⟨by decide +kernel, rfl⟩
theorem dX10_ofValve_4 : decode cX10_ofValve 4 = .ok (.iload_n 1, 1) ∧ 5 = 4 + 1 := ⟨by decide +kernel, rfl⟩
theorem dX10_ofValve_5 : decode cX10_ofValve 5 = .ok (.invokestatic 68, 3) ∧ 8 = 5 + 3 := ⟨by decide +kernel, rfl⟩
theorem dX10_ofValve_8 : decode cX10_ofValve 8 = .ok (.iload_n 2, 1) ∧ 9 = 8 + 1 := ⟨by decide +kernel, rfl⟩
theorem dX10_ofValve_9 : decode cX10_ofValve 9 = .ok (.iadd, 1) ∧ 10 = 9 + 1 := ⟨by decide +kernel, rfl⟩
theorem dX10_ofValve_10 : decode cX10_ofValve 10 = .ok (.laload, 1) ∧ 11 = 10 + 1 := ⟨by decide +kernel, rfl⟩
theorem dX10_ofValve_11 : decode cX10_ofValve 11 = .ok (.l2i, 1) ∧ 12 = 11 + 1 := ⟨by decide +kernel, rfl⟩
theorem dX10_ofValve_12 : decode cX10_ofValve 12 = .ok (.ireturn, 1) ∧ 13 = 12 + 1 := ⟨by decide +kernel, rfl⟩
theorem dX10_ofPump_0 : decode cX10_ofPump 0 = .ok (.aload_n 0, 1) ∧ 1 = 0 + 1 := ⟨by decide +kernel, rfl⟩
theorem dX10_ofPump_1 : decode cX10_ofPump 1 = .ok (.getfield 7, 3) ∧ 4 = 1 + 3 := ⟨by decide +kernel, rfl⟩
theorem dX10_ofPump_4 : decode cX10_ofPump 4 = .ok (.iload_n 1, 1) ∧ 5 = 4 + 1 := ⟨by decide +kernel, rfl⟩
theorem dX10_ofPump_5 : decode cX10_ofPump 5 = .ok (.invokestatic 71, 3) ∧ 8 = 5 + 3 := ⟨by decide +kernel, rfl⟩
theorem dX10_ofPump_8 : decode cX10_ofPump 8 = .ok (.iload_n 2, 1) ∧ 9 = 8 + 1 := ⟨by decide +kernel, rfl⟩
theorem dX10_ofPump_9 : decode cX10_ofPump 9 = .ok (.iadd, 1) ∧ 10 = 9 + 1 := ⟨by decide +kernel, rfl⟩
theorem dX10_ofPump_10 : decode cX10_ofPump 10 = .ok (.laload, 1) ∧ 11 = 10 + 1 := ⟨by decide +kernel, rfl⟩
theorem dX10_ofPump_11 : decode cX10_ofPump 11 = .ok (.l2i, 1) ∧ 12 = 11 + 1 := ⟨by decide +kernel, rfl⟩
theorem dX10_ofPump_12 : decode cX10_ofPump 12 = .ok (.ireturn, 1) ∧ 13 = 12 + 1 := ⟨by decide +kernel, rfl⟩
theorem dX10_difference_0 : decode cX10_difference 0 = .ok (.aload_n 0, 1) ∧ 1 = 0 + 1 := ⟨by decide +kernel, rfl⟩
theorem dX10_difference_1 : decode cX10_difference 1 = .ok (.aload_n 0, 1) ∧ 2 = 1 + 1 := ⟨by decide +kernel, rfl⟩
theorem dX10_difference_2 : decode cX10_difference 2 = .ok (.iload_n 1, 1) ∧ 3 = 2 + 1 := ⟨by decide +kernel, rfl⟩
theorem dX10_difference_3 : decode cX10_difference 3 = .ok (.iconst 0, 1) ∧ 4 = 3 + 1 := ⟨by decide +kernel, rfl⟩
theorem dX10_difference_4 : decode cX10_difference 4 = .ok (.invokevirtual 74, 3) ∧ 7 = 4 + 3 := ⟨by decide +kernel, rfl⟩
theorem dX10_difference_7 : decode cX10_difference 7 = .ok (.invokevirtual 78, 3) ∧ 10 = 7 + 3 := ⟨by decide +kernel, rfl⟩
theorem dX10_difference_10 : decode cX10_difference 10 = .ok (.aload_n 0, 1) ∧ 11 = 10 + 1 := ⟨by decide +kernel, rfl⟩
theorem dX10_difference_11 : decode cX10_difference 11 = .ok (.aload_n 0, 1) ∧ 12 = 11 + 1 := ⟨by decide +kernel, rfl⟩
theorem dX10_difference_12 : decode cX10_difference 12 = .ok (.iload_n 1, 1) ∧ 13 = 12 + 1 := ⟨by decide +kernel, rfl⟩
theorem dX10_difference_13 : decode cX10_difference 13 = .ok (.iconst 1, 1) ∧ 14 = 13 + 1 := ⟨by decide +kernel, rfl⟩
theorem dX10_difference_14 : decode cX10_difference 14 = .ok (.invokevirtual 74, 3) ∧ 17 = 14 + 3 := ⟨by decide +kernel, rfl⟩
theorem dX10_difference_17 : decode cX10_difference 17 = .ok (.invokevirtual 78, 3) ∧ 20 = 17 + 3 := ⟨by decide +kernel, rfl⟩
theorem dX10_difference_20 : decode cX10_difference 20 = .ok (.lsub, 1) ∧ 21 = 20 + 1 := ⟨by decide +kernel, rfl⟩
theorem dX10_difference_21 : decode cX10_difference 21 = .ok (.invokestatic 81, 3) ∧ 24 = 21 + 3 := ⟨by decide +kernel, rfl⟩
theorem dX10_difference_24 : decode cX10_difference 24 = .ok (.lreturn, 1) ∧ 25 = 24 + 1 := ⟨by decide +kernel, rfl⟩
theorem dX10_isOpen_0 : decode cX10_isOpen 0 = .ok (.aload_n 0, 1) ∧ 1 = 0 + 1 := ⟨by decide +kernel, rfl⟩
theorem dX10_isOpen_1 : decode cX10_isOpen 1 = .ok (.iload_n 1, 1) ∧ 2 = 1 + 1 := ⟨by decide +kernel, rfl⟩
theorem dX10_isOpen_2 : decode cX10_isOpen 2 = .ok (.iconst 4, 1) ∧ 3 = 2 + 1 := ⟨by decide +kernel, rfl⟩
theorem dX10_isOpen_3 : decode cX10_isOpen 3 = .ok (.invokevirtual 74, 3) ∧ 6 = 3 + 3 := ⟨by decide +kernel, rfl⟩
theorem dX10_isOpen_6 : decode cX10_isOpen 6 = .ok (.iconst 1, 1) ∧ 7 = 6 + 1 := ⟨by decide +kernel, rfl⟩
theorem dX10_isOpen_7 : decode cX10_isOpen 7 = .ok (.if_icmp .ne 7, 3) ∧ 10 = 7 + 3 := ⟨by decide +kernel, rfl⟩
theorem dX10_isOpen_10 : decode cX10_isOpen 10 = .ok (.iconst 1, 1) ∧ 11 = 10 + 1 := ⟨by decide +kernel, rfl⟩
theorem dX10_isOpen_11 : decode cX10_isOpen 11 = .ok (.goto 4, 3) ∧ 14 = 11 + 3 := ⟨by decide +kernel, rfl⟩
theorem dX10_isOpen_14 : decode cX10_isOpen 14 = .ok (.iconst 0, 1) ∧ 15 = 14 + 1 := ⟨by decide +kernel, rfl⟩
theorem dX10_isOpen_15 : decode cX10_isOpen 15 = .ok (.ireturn, 1) ∧ 16 = 15 + 1 := ⟨by decide +kernel, rfl⟩
theorem dX10_isRunning_0 : decode cX10_isRunning 0 = .ok (.aload_n 0, 1) ∧ 1 = 0 + 1 := ⟨by decide +kernel, rfl⟩
theorem dX10_isRunning_1 : decode cX10_isRunning 1 = .ok (.iload_n 1, 1) ∧ 2 = 1 + 1 := ⟨by decide +kernel, rfl⟩
theorem dX10_isRunning_2 : decode cX10_isRunning 2 = .ok (.bipush 6, 2) ∧ 4 = 2 + 2 := ⟨by decide +kernel, rfl⟩
theorem dX10_isRunning_4 : decode cX10_isRunning 4 = .ok (.invokevirtual 87, 3) ∧ 7 = 4 + 3 := ⟨by decide +kernel, rfl⟩
theorem dX10_isRunning_7 : decode cX10_isRunning 7 = .ok (.iconst 1, 1) ∧ 8 = 7 + 1 := ⟨by decide +kernel, rfl⟩
theorem dX10_isRunning_8 : decode cX10_isRunning 8 = .ok (.if_icmp .ne 7, 3) ∧ 11 = 8 + 3 := ⟨by decide +kernel, rfl⟩
theorem dX10_isRunning_11 : decode cX10_isRunning 11 = .ok (.iconst 1, 1) ∧ 12 = 11 + 1 := ⟨by decide +kernel, rfl⟩
theorem dX10_isRunning_12 : decode cX10_isRunning 12 = .ok (.goto 4, 3) ∧ 15 = 12 + 3 := ⟨by decide +kernel, rfl⟩
theorem dX10_isRunning_15 : decode cX10_isRunning 15 = .ok (.iconst 0, 1) ∧ 16 = 15 + 1 := ⟨by decide +kernel, rfl⟩
theorem dX10_isRunning_16 : decode cX10_isRunning 16 = .ok (.ireturn, 1) ∧ 17 = 16 + 1 := ⟨by decide +kernel, rfl⟩
theorem dX10_mayJoin_0 : decode cX10_mayJoin 0 = .ok (.aload_n 0, 1) ∧ 1 = 0 + 1 := ⟨by decide +kernel, rfl⟩
theorem dX10_mayJoin_1 : decode cX10_mayJoin 1 = .ok (.iload_n 1, 1) ∧ 2 = 1 + 1 := ⟨by decide +kernel, rfl⟩
theorem dX10_mayJoin_2 : decode cX10_mayJoin 2 = .ok (.invokevirtual 90, 3) ∧ 5 = 2 + 3 := ⟨by decide +kernel, rfl⟩
theorem dX10_mayJoin_5 : decode cX10_mayJoin 5 = .ok (.aload_n 0, 1) ∧ 6 = 5 + 1 := ⟨by decide +kernel, rfl⟩
theorem dX10_mayJoin_6 : decode cX10_mayJoin 6 = .ok (.getfield 7, 3) ∧ 9 = 6 + 3 := ⟨by decide +kernel, rfl⟩
theorem dX10_mayJoin_9 : decode cX10_mayJoin 9 = .ok (.iload_n 1, 1) ∧ 10 = 9 + 1 := ⟨by decide +kernel, rfl⟩
theorem dX10_mayJoin_10 : decode cX10_mayJoin 10 = .ok (.invokestatic 68, 3) ∧ 13 = 10 + 3 := ⟨by decide +kernel, rfl⟩
theorem dX10_mayJoin_13 : decode cX10_mayJoin 13 = .ok (.iconst 3, 1) ∧ 14 = 13 + 1 := ⟨by decide +kernel, rfl⟩
theorem dX10_mayJoin_14 : decode cX10_mayJoin 14 = .ok (.iadd, 1) ∧ 15 = 14 + 1 := ⟨by decide +kernel, rfl⟩
theorem dX10_mayJoin_15 : decode cX10_mayJoin 15 = .ok (.laload, 1) ∧ 16 = 15 + 1 := ⟨by decide +kernel, rfl⟩
theorem dX10_mayJoin_16 : decode cX10_mayJoin 16 = .ok (.lcmp, 1) ∧ 17 = 16 + 1 := ⟨by decide +kernel, rfl⟩
theorem dX10_mayJoin_17 : decode cX10_mayJoin 17 = .ok (.ifCond .gt 7, 3) ∧ 20 = 17 + 3 := ⟨by decide +kernel, rfl⟩
theorem dX10_mayJoin_20 : decode cX10_mayJoin 20 = .ok (.iconst 1, 1) ∧ 21 = 20 + 1 := ⟨by decide +kernel, rfl⟩
theorem dX10_mayJoin_21 : decode cX10_mayJoin 21 = .ok (.goto 4, 3) ∧ 24 = 21 + 3 := ⟨by decide +kernel, rfl⟩
theorem dX10_mayJoin_24 : decode cX10_mayJoin 24 = .ok (.iconst 0, 1) ∧ 25 = 24 + 1 := ⟨by decide +kernel, rfl⟩
theorem dX10_mayJoin_25 : decode cX10_mayJoin 25 = .ok (.ireturn, 1) ∧ 26 = 25 + 1 := ⟨by decide +kernel, rfl⟩
theorem dX10_isLowEnough_0 : decode cX10_isLowEnough 0 = .ok (.aload_n 0, 1) ∧ 1 = 0 + 1 := ⟨by decide +kernel, rfl⟩
theorem dX10_isLowEnough_1 : decode cX10_isLowEnough 1 = .ok (.aload_n 0, 1) ∧ 2 = 1 + 1 := ⟨by decide +kernel, rfl⟩
theorem dX10_isLowEnough_2 : decode cX10_isLowEnough 2 = .ok (.iload_n 1, 1) ∧ 3 = 2 + 1 := ⟨by decide +kernel, rfl⟩
theorem dX10_isLowEnough_3 : decode cX10_isLowEnough 3 = .ok (.iconst 0, 1) ∧ 4 = 3 + 1 := ⟨by decide +kernel, rfl⟩
theorem dX10_isLowEnough_4 : decode cX10_isLowEnough 4 = .ok (.invokevirtual 87, 3) ∧ 7 = 4 + 3 := ⟨by decide +kernel, rfl⟩
theorem dX10_isLowEnough_7 : decode cX10_isLowEnough 7 = .ok (.invokevirtual 78, 3) ∧ 10 = 7 + 3 := ⟨by decide +kernel, rfl⟩
theorem dX10_isLowEnough_10 : decode cX10_isLowEnough 10 = .ok (.aload_n 0, 1) ∧ 11 = 10 + 1 := ⟨by decide +kernel, rfl⟩
theorem dX10_isLowEnough_11 : decode cX10_isLowEnough 11 = .ok (.getfield 7, 3) ∧ 14 = 11 + 3 := ⟨by decide +kernel, rfl⟩
theorem dX10_isLowEnough_14 : decode cX10_isLowEnough 14 = .ok (.iload_n 1, 1) ∧ 15 = 14 + 1 := ⟨by decide +kernel, rfl⟩
theorem dX10_isLowEnough_15 : decode cX10_isLowEnough 15 = .ok (.invokestatic 71, 3) ∧ 18 = 15 + 3 := ⟨by decide +kernel, rfl⟩
theorem dX10_isLowEnough_18 : decode cX10_isLowEnough 18 = .ok (.iconst 4, 1) ∧ 19 = 18 + 1 := ⟨by decide +kernel, rfl⟩
theorem dX10_isLowEnough_19 : decode cX10_isLowEnough 19 = .ok (.iadd, 1) ∧ 20 = 19 + 1 := ⟨by decide +kernel, rfl⟩
theorem dX10_isLowEnough_20 : decode cX10_isLowEnough 20 = .ok (.laload, 1) ∧ 21 = 20 + 1 := ⟨by decide +kernel, rfl⟩
theorem dX10_isLowEnough_21 : decode cX10_isLowEnough 21 = .ok (.lcmp, 1) ∧ 22 = 21 + 1 := ⟨by decide +kernel, rfl⟩
theorem dX10_isLowEnough_22 : decode cX10_isLowEnough 22 = .ok (.ifCond .gt 7, 3) ∧ 25 = 22 + 3 := ⟨by decide +kernel, rfl⟩
theorem dX10_isLowEnough_25 : decode cX10_isLowEnough 25 = .ok (.iconst 1, 1) ∧ 26 = 25 + 1 := ⟨by decide +kernel, rfl⟩
theorem dX10_isLowEnough_26 : decode cX10_isLowEnough 26 = .ok (.goto 4, 3) ∧ 29 = 26 + 3 := ⟨by decide +kernel, rfl⟩
theorem dX10_isLowEnough_29 : decode cX10_isLowEnough 29 = .ok (.iconst 0, 1) ∧ 30 = 29 + 1 := ⟨by decide +kernel, rfl⟩
theorem dX10_isLowEnough_30 : decode cX10_isLowEnough 30 = .ok (.ireturn, 1) ∧ 31 = 30 + 1 := ⟨by decide +kernel, rfl⟩
theorem dX10_isBacked_0 : decode cX10_isBacked 0 = .ok (.aload_n 0, 1) ∧ 1 = 0 + 1 := ⟨by decide +kernel, rfl⟩
theorem dX10_isBacked_1 : decode cX10_isBacked 1 = .ok (.iload_n 1, 1) ∧ 2 = 1 + 1 := ⟨by decide +kernel, rfl⟩
theorem dX10_isBacked_2 : decode cX10_isBacked 2 = .ok (.iconst 1, 1) ∧ 3 = 2 + 1 := ⟨by decide +kernel, rfl⟩
theorem dX10_isBacked_3 : decode cX10_isBacked 3 = .ok (.invokevirtual 87, 3) ∧ 6 = 3 + 3 := ⟨by decide +kernel, rfl⟩
theorem dX10_isBacked_6 : decode cX10_isBacked 6 = .ok (.istore_n 2, 1) ∧ 7 = 6 + 1 := ⟨by decide +kernel, rfl⟩
theorem dX10_isBacked_7 : decode cX10_isBacked 7 = .ok (.iload_n 2, 1) ∧ 8 = 7 + 1 := ⟨by decide +kernel, rfl⟩
theorem dX10_isBacked_8 : decode cX10_isBacked 8 = .ok (.iconst (-1), 1) ∧ 9 = 8 + 1 := ⟨by decide +kernel, rfl⟩
theorem dX10_isBacked_9 : decode cX10_isBacked 9 = .ok (.if_icmp .eq 23, 3) ∧ 12 = 9 + 3 := ⟨by decide +kernel, rfl⟩
theorem dX10_isBacked_12 : decode cX10_isBacked 12 = .ok (.aload_n 0, 1) ∧ 13 = 12 + 1 := ⟨by decide +kernel, rfl⟩
theorem dX10_isBacked_13 : decode cX10_isBacked 13 = .ok (.iload_n 2, 1) ∧ 14 = 13 + 1 := ⟨by decide +kernel, rfl⟩
theorem dX10_isBacked_14 : decode cX10_isBacked 14 = .ok (.invokevirtual 78, 3) ∧ 17 = 14 + 3 := ⟨by decide +kernel, rfl⟩
theorem dX10_isBacked_17 : decode cX10_isBacked 17 = .ok (.aload_n 0, 1) ∧ 18 = 17 + 1 := ⟨by decide +kernel, rfl⟩
theorem dX10_isBacked_18 : decode cX10_isBacked 18 = .ok (.getfield 7, 3) ∧ 21 = 18 + 3 := ⟨by decide +kernel, rfl⟩
theorem dX10_isBacked_21 : decode cX10_isBacked 21 = .ok (.iload_n 1, 1) ∧ 22 = 21 + 1 := ⟨by decide +kernel, rfl⟩
theorem dX10_isBacked_22 : decode cX10_isBacked 22 = .ok (.invokestatic 71, 3) ∧ 25 = 22 + 3 := ⟨by decide +kernel, rfl⟩
theorem dX10_isBacked_25 : decode cX10_isBacked 25 = .ok (.iconst 5, 1) ∧ 26 = 25 + 1 := ⟨by decide +kernel, rfl⟩
theorem dX10_isBacked_26 : decode cX10_isBacked 26 = .ok (.iadd, 1) ∧ 27 = 26 + 1 := ⟨by decide +kernel, rfl⟩
theorem dX10_isBacked_27 : decode cX10_isBacked 27 = .ok (.laload, 1) ∧ 28 = 27 + 1 := ⟨by decide +kernel, rfl⟩
theorem dX10_isBacked_28 : decode cX10_isBacked 28 = .ok (.lcmp, 1) ∧ 29 = 28 + 1 := ⟨by decide +kernel, rfl⟩
theorem dX10_isBacked_29 : decode cX10_isBacked 29 = .ok (.ifCond .gt 7, 3) ∧ 32 = 29 + 3 := ⟨by decide +kernel, rfl⟩
theorem dX10_isBacked_32 : decode cX10_isBacked 32 = .ok (.iconst 1, 1) ∧ 33 = 32 + 1 := ⟨by decide +kernel, rfl⟩
theorem dX10_isBacked_33 : decode cX10_isBacked 33 = .ok (.goto 4, 3) ∧ 36 = 33 + 3 := ⟨by decide +kernel, rfl⟩
theorem dX10_isBacked_36 : decode cX10_isBacked 36 = .ok (.iconst 0, 1) ∧ 37 = 36 + 1 := ⟨by decide +kernel, rfl⟩
theorem dX10_isBacked_37 : decode cX10_isBacked 37 = .ok (.ireturn, 1) ∧ 38 = 37 + 1 := ⟨by decide +kernel, rfl⟩
theorem dX10_leaks_0 : decode cX10_leaks 0 = .ok (.lconst 0, 1) ∧ 1 = 0 + 1 := ⟨by decide +kernel, rfl⟩
theorem dX10_leaks_1 : decode cX10_leaks 1 = .ok (.lstore_n 2, 1) ∧ 2 = 1 + 1 := ⟨by decide +kernel, rfl⟩
theorem dX10_leaks_2 : decode cX10_leaks 2 = .ok (.iconst 0, 1) ∧ 3 = 2 + 1 := ⟨by decide +kernel, rfl⟩
theorem dX10_leaks_3 : decode cX10_leaks 3 = .ok (.istore 4, 2) ∧ 5 = 3 + 2 := ⟨by decide +kernel, rfl⟩
theorem dX10_leaks_5 : decode cX10_leaks 5 = .ok (.iload 4, 2) ∧ 7 = 5 + 2 := ⟨by decide +kernel, rfl⟩
theorem dX10_leaks_7 : decode cX10_leaks 7 = .ok (.aload_n 0, 1) ∧ 8 = 7 + 1 := ⟨by decide +kernel, rfl⟩
theorem dX10_leaks_8 : decode cX10_leaks 8 = .ok (.iconst 3, 1) ∧ 9 = 8 + 1 := ⟨by decide +kernel, rfl⟩
theorem dX10_leaks_9 : decode cX10_leaks 9 = .ok (.invokevirtual 93, 3) ∧ 12 = 9 + 3 := ⟨by decide +kernel, rfl⟩
theorem dX10_leaks_12 : decode cX10_leaks 12 = .ok (.if_icmp .ge 46, 3) ∧ 15 = 12 + 3 := ⟨by decide +kernel, rfl⟩
theorem dX10_leaks_15 : decode cX10_leaks 15 = .ok (.lload_n 2, 1) ∧ 16 = 15 + 1 := ⟨by decide +kernel, rfl⟩
theorem dX10_leaks_16 : decode cX10_leaks 16 = .ok (.aload_n 0, 1) ∧ 17 = 16 + 1 := ⟨by decide +kernel, rfl⟩
theorem dX10_leaks_17 : decode cX10_leaks 17 = .ok (.getfield 7, 3) ∧ 20 = 17 + 3 := ⟨by decide +kernel, rfl⟩
theorem dX10_leaks_20 : decode cX10_leaks 20 = .ok (.iload 4, 2) ∧ 22 = 20 + 2 := ⟨by decide +kernel, rfl⟩
theorem dX10_leaks_22 : decode cX10_leaks 22 = .ok (.invokestatic 96, 3) ∧ 25 = 22 + 3 := ⟨by decide +kernel, rfl⟩
theorem dX10_leaks_25 : decode cX10_leaks 25 = .ok (.iconst 0, 1) ∧ 26 = 25 + 1 := ⟨by decide +kernel, rfl⟩
theorem dX10_leaks_26 : decode cX10_leaks 26 = .ok (.iadd, 1) ∧ 27 = 26 + 1 := ⟨by decide +kernel, rfl⟩
theorem dX10_leaks_27 : decode cX10_leaks 27 = .ok (.laload, 1) ∧ 28 = 27 + 1 := ⟨by decide +kernel, rfl⟩
theorem dX10_leaks_28 : decode cX10_leaks 28 = .ok (.iload_n 1, 1) ∧ 29 = 28 + 1 := ⟨by decide +kernel, rfl⟩
theorem dX10_leaks_29 : decode cX10_leaks 29 = .ok (.i2l, 1) ∧ 30 = 29 + 1 := ⟨by decide +kernel, rfl⟩
theorem dX10_leaks_30 : decode cX10_leaks 30 = .ok (.lcmp, 1) ∧ 31 = 30 + 1 := ⟨by decide +kernel, rfl⟩
theorem dX10_leaks_31 : decode cX10_leaks 31 = .ok (.ifCond .ne 18, 3) ∧ 34 = 31 + 3 := ⟨by decide +kernel, rfl⟩
theorem dX10_leaks_34 : decode cX10_leaks 34 = .ok (.aload_n 0, 1) ∧ 35 = 34 + 1 := ⟨by decide +kernel, rfl⟩
theorem dX10_leaks_35 : decode cX10_leaks 35 = .ok (.getfield 7, 3) ∧ 38 = 35 + 3 := ⟨by decide +kernel, rfl⟩
theorem dX10_leaks_38 : decode cX10_leaks 38 = .ok (.iload 4, 2) ∧ 40 = 38 + 2 := ⟨by decide +kernel, rfl⟩
theorem dX10_leaks_40 : decode cX10_leaks 40 = .ok (.invokestatic 96, 3) ∧ 43 = 40 + 3 := ⟨by decide +kernel, rfl⟩
theorem dX10_leaks_43 : decode cX10_leaks 43 = .ok (.iconst 1, 1) ∧ 44 = 43 + 1 := ⟨by decide +kernel, rfl⟩
theorem dX10_leaks_44 : decode cX10_leaks 44 = .ok (.iadd, 1) ∧ 45 = 44 + 1 := ⟨by decide +kernel, rfl⟩
theorem dX10_leaks_45 : decode cX10_leaks 45 = .ok (.laload, 1) ∧ 46 = 45 + 1 := ⟨by decide +kernel, rfl⟩
theorem dX10_leaks_46 : decode cX10_leaks 46 = .ok (.goto 4, 3) ∧ 49 = 46 + 3 := ⟨by decide +kernel, rfl⟩
theorem dX10_leaks_49 : decode cX10_leaks 49 = .ok (.lconst 0, 1) ∧ 50 = 49 + 1 := ⟨by decide +kernel, rfl⟩
theorem dX10_leaks_50 : decode cX10_leaks 50 = .ok (.ladd, 1) ∧ 51 = 50 + 1 := ⟨by decide +kernel, rfl⟩
theorem dX10_leaks_51 : decode cX10_leaks 51 = .ok (.lstore_n 2, 1) ∧ 52 = 51 + 1 := ⟨by decide +kernel, rfl⟩
theorem dX10_leaks_52 : decode cX10_leaks 52 = .ok (.iinc 4 1, 3) ∧ 55 = 52 + 3 := ⟨by decide +kernel, rfl⟩
theorem dX10_leaks_55 : decode cX10_leaks 55 = .ok (.goto (-50), 3) ∧ 58 = 55 + 3 := ⟨by decide +kernel, rfl⟩
theorem dX10_leaks_58 : decode cX10_leaks 58 = .ok (.lload_n 2, 1) ∧ 59 = 58 + 1 := ⟨by decide +kernel, rfl⟩
theorem dX10_leaks_59 : decode cX10_leaks 59 = .ok (.lreturn, 1) ∧ 60 = 59 + 1 := ⟨by decide +kernel, rfl⟩
theorem dX10_tripValves_0 : decode cX10_tripValves 0 = .ok (.iconst 0, 1) ∧ 1 = 0 + 1 := ⟨by decide +kernel, rfl⟩
theorem dX10_tripValves_1 : decode cX10_tripValves 1 = .ok (.istore_n 1, 1) ∧ 2 = 1 + 1 := ⟨by decide +kernel, rfl⟩
theorem dX10_tripValves_2 : decode cX10_tripValves 2 = .ok (.iload_n 1, 1) ∧ 3 = 2 + 1 := ⟨by decide +kernel, rfl⟩
theorem dX10_tripValves_3 : decode cX10_tripValves 3 = .ok (.aload_n 0, 1) ∧ 4 = 3 + 1 := ⟨by decide +kernel, rfl⟩
theorem dX10_tripValves_4 : decode cX10_tripValves 4 = .ok (.iconst 2, 1) ∧ 5 = 4 + 1 := ⟨by decide +kernel, rfl⟩
theorem dX10_tripValves_5 : decode cX10_tripValves 5 = .ok (.invokevirtual 93, 3) ∧ 8 = 5 + 3 := ⟨by decide +kernel, rfl⟩
theorem dX10_tripValves_8 : decode cX10_tripValves 8 = .ok (.if_icmp .ge 65, 3) ∧ 11 = 8 + 3 := ⟨by decide +kernel, rfl⟩
theorem dX10_tripValves_11 : decode cX10_tripValves 11 = .ok (.aload_n 0, 1) ∧ 12 = 11 + 1 := ⟨by decide +kernel, rfl⟩
theorem dX10_tripValves_12 : decode cX10_tripValves 12 = .ok (.iload_n 1, 1) ∧ 13 = 12 + 1 := ⟨by decide +kernel, rfl⟩
theorem dX10_tripValves_13 : decode cX10_tripValves 13 = .ok (.invokevirtual 99, 3) ∧ 16 = 13 + 3 := ⟨by decide +kernel, rfl⟩
theorem dX10_tripValves_16 : decode cX10_tripValves 16 = .ok (.ifCond .eq 51, 3) ∧ 19 = 16 + 3 := ⟨by decide +kernel, rfl⟩
theorem dX10_tripValves_19 : decode cX10_tripValves 19 = .ok (.aload_n 0, 1) ∧ 20 = 19 + 1 := ⟨by decide +kernel, rfl⟩
theorem dX10_tripValves_20 : decode cX10_tripValves 20 = .ok (.iload_n 1, 1) ∧ 21 = 20 + 1 := ⟨by decide +kernel, rfl⟩
theorem dX10_tripValves_21 : decode cX10_tripValves 21 = .ok (.invokevirtual 103, 3) ∧ 24 = 21 + 3 := ⟨by decide +kernel, rfl⟩
theorem dX10_tripValves_24 : decode cX10_tripValves 24 = .ok (.ifCond .eq 6, 3) ∧ 27 = 24 + 3 := ⟨by decide +kernel, rfl⟩
theorem dX10_tripValves_27 : decode cX10_tripValves 27 = .ok (.goto 40, 3) ∧ 30 = 27 + 3 := ⟨by decide +kernel, rfl⟩
theorem dX10_tripValves_30 : decode cX10_tripValves 30 = .ok (.aload_n 0, 1) ∧ 31 = 30 + 1 := ⟨by decide +kernel, rfl⟩
theorem dX10_tripValves_31 : decode cX10_tripValves 31 = .ok (.getfield 7, 3) ∧ 34 = 31 + 3 := ⟨by decide +kernel, rfl⟩
theorem dX10_tripValves_34 : decode cX10_tripValves 34 = .ok (.iload_n 1, 1) ∧ 35 = 34 + 1 := ⟨by decide +kernel, rfl⟩
theorem dX10_tripValves_35 : decode cX10_tripValves 35 = .ok (.invokestatic 68, 3) ∧ 38 = 35 + 3 := ⟨by decide +kernel, rfl⟩
theorem dX10_tripValves_38 : decode cX10_tripValves 38 = .ok (.iconst 4, 1) ∧ 39 = 38 + 1 := ⟨by decide +kernel, rfl⟩
theorem dX10_tripValves_39 : decode cX10_tripValves 39 = .ok (.iadd, 1) ∧ 40 = 39 + 1 := ⟨by decide +kernel, rfl⟩
theorem dX10_tripValves_40 : decode cX10_tripValves 40 = .ok (.lconst 0, 1) ∧ 41 = 40 + 1 := ⟨by decide +kernel, rfl⟩
theorem dX10_tripValves_41 : decode cX10_tripValves 41 = .ok (.lastore, 1) ∧ 42 = 41 + 1 := ⟨by decide +kernel, rfl⟩
theorem dX10_tripValves_42 : decode cX10_tripValves 42 = .ok (.aload_n 0, 1) ∧ 43 = 42 + 1 := ⟨by decide +kernel, rfl⟩
theorem dX10_tripValves_43 : decode cX10_tripValves 43 = .ok (.getfield 7, 3) ∧ 46 = 43 + 3 := ⟨by decide +kernel, rfl⟩
theorem dX10_tripValves_46 : decode cX10_tripValves 46 = .ok (.iload_n 1, 1) ∧ 47 = 46 + 1 := ⟨by decide +kernel, rfl⟩
theorem dX10_tripValves_47 : decode cX10_tripValves 47 = .ok (.invokestatic 68, 3) ∧ 50 = 47 + 3 := ⟨by decide +kernel, rfl⟩
theorem dX10_tripValves_50 : decode cX10_tripValves 50 = .ok (.iconst 5, 1) ∧ 51 = 50 + 1 := ⟨by decide +kernel, rfl⟩
theorem dX10_tripValves_51 : decode cX10_tripValves 51 = .ok (.iadd, 1) ∧ 52 = 51 + 1 := ⟨by decide +kernel, rfl⟩
theorem dX10_tripValves_52 : decode cX10_tripValves 52 = .ok (.dup2, 1) ∧ 53 = 52 + 1 := ⟨by decide +kernel, rfl⟩
theorem dX10_tripValves_53 : decode cX10_tripValves 53 = .ok (.laload, 1) ∧ 54 = 53 + 1 := ⟨by decide +kernel, rfl⟩
theorem dX10_tripValves_54 : decode cX10_tripValves 54 = .ok (.lconst 1, 1) ∧ 55 = 54 + 1 := ⟨by decide +kernel, rfl⟩
theorem dX10_tripValves_55 : decode cX10_tripValves 55 = .ok (.ladd, 1) ∧ 56 = 55 + 1 := ⟨by decide +kernel, rfl⟩
theorem dX10_tripValves_56 : decode cX10_tripValves 56 = .ok (.lastore, 1) ∧ 57 = 56 + 1 := ⟨by decide +kernel, rfl⟩
theorem dX10_tripValves_57 : decode cX10_tripValves 57 = .ok (.aload_n 0, 1) ∧ 58 = 57 + 1 := ⟨by decide +kernel, rfl⟩
theorem dX10_tripValves_58 : decode cX10_tripValves 58 = .ok (.getfield 7, 3) ∧ 61 = 58 + 3 := ⟨by decide +kernel, rfl⟩
theorem dX10_tripValves_61 : decode cX10_tripValves 61 = .ok (.iconst 5, 1) ∧ 62 = 61 + 1 := ⟨by decide +kernel, rfl⟩
theorem dX10_tripValves_62 : decode cX10_tripValves 62 = .ok (.dup2, 1) ∧ 63 = 62 + 1 := ⟨by decide +kernel, rfl⟩
theorem dX10_tripValves_63 : decode cX10_tripValves 63 = .ok (.laload, 1) ∧ 64 = 63 + 1 := ⟨by decide +kernel, rfl⟩
theorem dX10_tripValves_64 : decode cX10_tripValves 64 = .ok (.lconst 1, 1) ∧ 65 = 64 + 1 := ⟨by decide +kernel, rfl⟩
theorem dX10_tripValves_65 : decode cX10_tripValves 65 = .ok (.ladd, 1) ∧ 66 = 65 + 1 := ⟨by decide +kernel, rfl⟩
theorem dX10_tripValves_66 : decode cX10_tripValves 66 = .ok (.lastore, 1) ∧ 67 = 66 + 1 := ⟨by decide +kernel, rfl⟩
theorem dX10_tripValves_67 : decode cX10_tripValves 67 = .ok (.iinc 1 1, 3) ∧ 70 = 67 + 3 := ⟨by decide +kernel, rfl⟩
theorem dX10_tripValves_70 : decode cX10_tripValves 70 = .ok (.goto (-68), 3) ∧ 73 = 70 + 3 := ⟨by decide +kernel, rfl⟩
theorem dX10_tripValves_73 : decode cX10_tripValves 73 = .ok (.return_, 1) ∧ 74 = 73 + 1 := ⟨by decide +kernel, rfl⟩
theorem dX10_getGas_0 : decode cX10_getGas 0 = .ok (.iconst 0, 1) ∧ 1 = 0 + 1 := ⟨by decide +kernel, rfl⟩
theorem dX10_getGas_1 : decode cX10_getGas 1 = .ok (.istore_n 1, 1) ∧ 2 = 1 + 1 := ⟨by decide +kernel, rfl⟩
theorem dX10_getGas_2 : decode cX10_getGas 2 = .ok (.iload_n 1, 1) ∧ 3 = 2 + 1 := ⟨by decide +kernel, rfl⟩
theorem dX10_getGas_3 : decode cX10_getGas 3 = .ok (.aload_n 0, 1) ∧ 4 = 3 + 1 := ⟨by decide +kernel, rfl⟩
theorem dX10_getGas_4 : decode cX10_getGas 4 = .ok (.iconst 0, 1) ∧ 5 = 4 + 1 := ⟨by decide +kernel, rfl⟩
theorem dX10_getGas_5 : decode cX10_getGas 5 = .ok (.invokevirtual 93, 3) ∧ 8 = 5 + 3 := ⟨by decide +kernel, rfl⟩
theorem dX10_getGas_8 : decode cX10_getGas 8 = .ok (.if_icmp .ge 112, 3) ∧ 11 = 8 + 3 := ⟨by decide +kernel, rfl⟩
theorem dX10_getGas_11 : decode cX10_getGas 11 = .ok (.iload_n 1, 1) ∧ 12 = 11 + 1 := ⟨by decide +kernel, rfl⟩
theorem dX10_getGas_12 : decode cX10_getGas 12 = .ok (.invokestatic 61, 3) ∧ 15 = 12 + 3 := ⟨by decide +kernel, rfl⟩
theorem dX10_getGas_15 : decode cX10_getGas 15 = .ok (.istore_n 2, 1) ∧ 16 = 15 + 1 := ⟨by decide +kernel, rfl⟩
theorem dX10_getGas_16 : decode cX10_getGas 16 = .ok (.aload_n 0, 1) ∧ 17 = 16 + 1 := ⟨by decide +kernel, rfl⟩
theorem dX10_getGas_17 : decode cX10_getGas 17 = .ok (.iload_n 1, 1) ∧ 18 = 17 + 1 := ⟨by decide +kernel, rfl⟩
theorem dX10_getGas_18 : decode cX10_getGas 18 = .ok (.invokevirtual 78, 3) ∧ 21 = 18 + 3 := ⟨by decide +kernel, rfl⟩
theorem dX10_getGas_21 : decode cX10_getGas 21 = .ok (.lstore_n 3, 1) ∧ 22 = 21 + 1 := ⟨by decide +kernel, rfl⟩
theorem dX10_getGas_22 : decode cX10_getGas 22 = .ok (.lload_n 3, 1) ∧ 23 = 22 + 1 := ⟨by decide +kernel, rfl⟩
theorem dX10_getGas_23 : decode cX10_getGas 23 = .ok (.ldc2_w 106, 3) ∧ 26 = 23 + 3 := ⟨by decide +kernel, rfl⟩
theorem dX10_getGas_26 : decode cX10_getGas 26 = .ok (.lcmp, 1) ∧ 27 = 26 + 1 := ⟨by decide +kernel, rfl⟩
theorem dX10_getGas_27 : decode cX10_getGas 27 = .ok (.ifCond .ge 22, 3) ∧ 30 = 27 + 3 := ⟨by decide +kernel, rfl⟩
theorem dX10_getGas_30 : decode cX10_getGas 30 = .ok (.aload_n 0, 1) ∧ 31 = 30 + 1 := ⟨by decide +kernel, rfl⟩
theorem dX10_getGas_31 : decode cX10_getGas 31 = .ok (.getfield 7, 3) ∧ 34 = 31 + 3 := ⟨by decide +kernel, rfl⟩
theorem dX10_getGas_34 : decode cX10_getGas 34 = .ok (.iload_n 2, 1) ∧ 35 = 34 + 1 := ⟨by decide +kernel, rfl⟩
theorem dX10_getGas_35 : decode cX10_getGas 35 = .ok (.iconst 3, 1) ∧ 36 = 35 + 1 := ⟨by decide +kernel, rfl⟩
theorem dX10_getGas_36 : decode cX10_getGas 36 = .ok (.iadd, 1) ∧ 37 = 36 + 1 := ⟨by decide +kernel, rfl⟩
theorem dX10_getGas_37 : decode cX10_getGas 37 = .ok (.dup2, 1) ∧ 38 = 37 + 1 := ⟨by decide +kernel, rfl⟩
theorem dX10_getGas_38 : decode cX10_getGas 38 = .ok (.laload, 1) ∧ 39 = 38 + 1 := ⟨by decide +kernel, rfl⟩
theorem dX10_getGas_39 : decode cX10_getGas 39 = .ok (.aload_n 0, 1) ∧ 40 = 39 + 1 := ⟨by decide +kernel, rfl⟩
theorem dX10_getGas_40 : decode cX10_getGas 40 = .ok (.getfield 7, 3) ∧ 43 = 40 + 3 := ⟨by decide +kernel, rfl⟩
theorem dX10_getGas_43 : decode cX10_getGas 43 = .ok (.iload_n 2, 1) ∧ 44 = 43 + 1 := ⟨by decide +kernel, rfl⟩
theorem dX10_getGas_44 : decode cX10_getGas 44 = .ok (.iconst 1, 1) ∧ 45 = 44 + 1 := ⟨by decide +kernel, rfl⟩
theorem dX10_getGas_45 : decode cX10_getGas 45 = .ok (.iadd, 1) ∧ 46 = 45 + 1 := ⟨by decide +kernel, rfl⟩
theorem dX10_getGas_46 : decode cX10_getGas 46 = .ok (.laload, 1) ∧ 47 = 46 + 1 := ⟨by decide +kernel, rfl⟩
theorem dX10_getGas_47 : decode cX10_getGas 47 = .ok (.ladd, 1) ∧ 48 = 47 + 1 := ⟨by decide +kernel, rfl⟩
theorem dX10_getGas_48 : decode cX10_getGas 48 = .ok (.lastore, 1) ∧ 49 = 48 + 1 := ⟨by decide +kernel, rfl⟩
theorem dX10_getGas_49 : decode cX10_getGas 49 = .ok (.lload_n 3, 1) ∧ 50 = 49 + 1 := ⟨by decide +kernel, rfl⟩
theorem dX10_getGas_50 : decode cX10_getGas 50 = .ok (.ldc2_w 43, 3) ∧ 53 = 50 + 3 := ⟨by decide +kernel, rfl⟩
theorem dX10_getGas_53 : decode cX10_getGas 53 = .ok (.lcmp, 1) ∧ 54 = 53 + 1 := ⟨by decide +kernel, rfl⟩
theorem dX10_getGas_54 : decode cX10_getGas 54 = .ok (.ifCond .ge 19, 3) ∧ 57 = 54 + 3 := ⟨by decide +kernel, rfl⟩
theorem dX10_getGas_57 : decode cX10_getGas 57 = .ok (.aload_n 0, 1) ∧ 58 = 57 + 1 := ⟨by decide +kernel, rfl⟩
theorem dX10_getGas_58 : decode cX10_getGas 58 = .ok (.getfield 7, 3) ∧ 61 = 58 + 3 := ⟨by decide +kernel, rfl⟩
theorem dX10_getGas_61 : decode cX10_getGas 61 = .ok (.iload_n 2, 1) ∧ 62 = 61 + 1 := ⟨by decide +kernel, rfl⟩
theorem dX10_getGas_62 : decode cX10_getGas 62 = .ok (.iconst 3, 1) ∧ 63 = 62 + 1 := ⟨by decide +kernel, rfl⟩
theorem dX10_getGas_63 : decode cX10_getGas 63 = .ok (.iadd, 1) ∧ 64 = 63 + 1 := ⟨by decide +kernel, rfl⟩
theorem dX10_getGas_64 : decode cX10_getGas 64 = .ok (.dup2, 1) ∧ 65 = 64 + 1 := ⟨by decide +kernel, rfl⟩
theorem dX10_getGas_65 : decode cX10_getGas 65 = .ok (.laload, 1) ∧ 66 = 65 + 1 := ⟨by decide +kernel, rfl⟩
theorem dX10_getGas_66 : decode cX10_getGas 66 = .ok (.aload_n 0, 1) ∧ 67 = 66 + 1 := ⟨by decide +kernel, rfl⟩
theorem dX10_getGas_67 : decode cX10_getGas 67 = .ok (.iload_n 1, 1) ∧ 68 = 67 + 1 := ⟨by decide +kernel, rfl⟩
theorem dX10_getGas_68 : decode cX10_getGas 68 = .ok (.invokevirtual 108, 3) ∧ 71 = 68 + 3 := ⟨by decide +kernel, rfl⟩
theorem dX10_getGas_71 : decode cX10_getGas 71 = .ok (.ladd, 1) ∧ 72 = 71 + 1 := ⟨by decide +kernel, rfl⟩
theorem dX10_getGas_72 : decode cX10_getGas 72 = .ok (.lastore, 1) ∧ 73 = 72 + 1 := ⟨by decide +kernel, rfl⟩
theorem dX10_getGas_73 : decode cX10_getGas 73 = .ok (.aload_n 0, 1) ∧ 74 = 73 + 1 := ⟨by decide +kernel, rfl⟩
theorem dX10_getGas_74 : decode cX10_getGas 74 = .ok (.getfield 7, 3) ∧ 77 = 74 + 3 := ⟨by decide +kernel, rfl⟩
theorem dX10_getGas_77 : decode cX10_getGas 77 = .ok (.iload_n 2, 1) ∧ 78 = 77 + 1 := ⟨by decide +kernel, rfl⟩
theorem dX10_getGas_78 : decode cX10_getGas 78 = .ok (.iconst 2, 1) ∧ 79 = 78 + 1 := ⟨by decide +kernel, rfl⟩
theorem dX10_getGas_79 : decode cX10_getGas 79 = .ok (.iadd, 1) ∧ 80 = 79 + 1 := ⟨by decide +kernel, rfl⟩
theorem dX10_getGas_80 : decode cX10_getGas 80 = .ok (.laload, 1) ∧ 81 = 80 + 1 := ⟨by decide +kernel, rfl⟩
theorem dX10_getGas_81 : decode cX10_getGas 81 = .ok (.lconst 0, 1) ∧ 82 = 81 + 1 := ⟨by decide +kernel, rfl⟩
theorem dX10_getGas_82 : decode cX10_getGas 82 = .ok (.lcmp, 1) ∧ 83 = 82 + 1 := ⟨by decide +kernel, rfl⟩
theorem dX10_getGas_83 : decode cX10_getGas 83 = .ok (.ifCond .le 31, 3) ∧ 86 = 83 + 3 := ⟨by decide +kernel, rfl⟩
theorem dX10_getGas_86 : decode cX10_getGas 86 = .ok (.aload_n 0, 1) ∧ 87 = 86 + 1 := ⟨by decide +kernel, rfl⟩
theorem dX10_getGas_87 : decode cX10_getGas 87 = .ok (.getfield 7, 3) ∧ 90 = 87 + 3 := ⟨by decide +kernel, rfl⟩
theorem dX10_getGas_90 : decode cX10_getGas 90 = .ok (.iload_n 2, 1) ∧ 91 = 90 + 1 := ⟨by decide +kernel, rfl⟩
theorem dX10_getGas_91 : decode cX10_getGas 91 = .ok (.iconst 1, 1) ∧ 92 = 91 + 1 := ⟨by decide +kernel, rfl⟩
theorem dX10_getGas_92 : decode cX10_getGas 92 = .ok (.iadd, 1) ∧ 93 = 92 + 1 := ⟨by decide +kernel, rfl⟩
theorem dX10_getGas_93 : decode cX10_getGas 93 = .ok (.dup2, 1) ∧ 94 = 93 + 1 := ⟨by decide +kernel, rfl⟩
theorem dX10_getGas_94 : decode cX10_getGas 94 = .ok (.laload, 1) ∧ 95 = 94 + 1 := ⟨by decide +kernel, rfl⟩
theorem dX10_getGas_95 : decode cX10_getGas 95 = .ok (.aload_n 0, 1) ∧ 96 = 95 + 1 := ⟨by decide +kernel, rfl⟩
theorem dX10_getGas_96 : decode cX10_getGas 96 = .ok (.getfield 7, 3) ∧ 99 = 96 + 3 := ⟨by decide +kernel, rfl⟩
theorem dX10_getGas_99 : decode cX10_getGas 99 = .ok (.iload_n 2, 1) ∧ 100 = 99 + 1 := ⟨by decide +kernel, rfl⟩
theorem dX10_getGas_100 : decode cX10_getGas 100 = .ok (.iconst 1, 1) ∧ 101 = 100 + 1 := ⟨by decide +kernel, rfl⟩
theorem dX10_getGas_101 : decode cX10_getGas 101 = .ok (.iadd, 1) ∧ 102 = 101 + 1 := ⟨by decide +kernel, rfl⟩
theorem dX10_getGas_102 : decode cX10_getGas 102 = .ok (.laload, 1) ∧ 103 = 102 + 1 := ⟨by decide +kernel, rfl⟩
theorem dX10_getGas_103 : decode cX10_getGas 103 = .ok (.aload_n 0, 1) ∧ 104 = 103 + 1 := ⟨by decide +kernel, rfl⟩
theorem dX10_getGas_104 : decode cX10_getGas 104 = .ok (.getfield 7, 3) ∧ 107 = 104 + 3 := ⟨by decide +kernel, rfl⟩
theorem dX10_getGas_107 : decode cX10_getGas 107 = .ok (.iload_n 2, 1) ∧ 108 = 107 + 1 := ⟨by decide +kernel, rfl⟩
theorem dX10_getGas_108 : decode cX10_getGas 108 = .ok (.iconst 2, 1) ∧ 109 = 108 + 1 := ⟨by decide +kernel, rfl⟩
theorem dX10_getGas_109 : decode cX10_getGas 109 = .ok (.iadd, 1) ∧ 110 = 109 + 1 := ⟨by decide +kernel, rfl⟩
theorem dX10_getGas_110 : decode cX10_getGas 110 = .ok (.laload, 1) ∧ 111 = 110 + 1 := ⟨by decide +kernel, rfl⟩
theorem dX10_getGas_111 : decode cX10_getGas 111 = .ok (.ldiv, 1) ∧ 112 = 111 + 1 := ⟨by decide +kernel, rfl⟩
theorem dX10_getGas_112 : decode cX10_getGas 112 = .ok (.lsub, 1) ∧ 113 = 112 + 1 := ⟨by decide +kernel, rfl⟩
theorem dX10_getGas_113 : decode cX10_getGas 113 = .ok (.lastore, 1) ∧ 114 = 113 + 1 := ⟨by decide +kernel, rfl⟩
theorem dX10_getGas_114 : decode cX10_getGas 114 = .ok (.iinc 1 1, 3) ∧ 117 = 114 + 3 := ⟨by decide +kernel, rfl⟩
theorem dX10_getGas_117 : decode cX10_getGas 117 = .ok (.goto (-115), 3) ∧ 120 = 117 + 3 := ⟨by decide +kernel, rfl⟩
theorem dX10_getGas_120 : decode cX10_getGas 120 = .ok (.return_, 1) ∧ 121 = 120 + 1 := ⟨by decide +kernel, rfl⟩
theorem dX10_give_0 : decode cX10_give 0 = .ok (.iload_n 1, 1) ∧ 1 = 0 + 1 := ⟨by decide +kernel, rfl⟩
theorem dX10_give_1 : decode cX10_give 1 = .ok (.iconst (-1), 1) ∧ 2 = 1 + 1 := ⟨by decide +kernel, rfl⟩
theorem dX10_give_2 : decode cX10_give 2 = .ok (.if_icmp .eq 18, 3) ∧ 5 = 2 + 3 := ⟨by decide +kernel, rfl⟩
theorem dX10_give_5 : decode cX10_give 5 = .ok (.aload_n 0, 1) ∧ 6 = 5 + 1 := ⟨by decide +kernel, rfl⟩
theorem dX10_give_6 : decode cX10_give 6 = .ok (.getfield 7, 3) ∧ 9 = 6 + 3 := ⟨by decide +kernel, rfl⟩
theorem dX10_give_9 : decode cX10_give 9 = .ok (.iload_n 1, 1) ∧ 10 = 9 + 1 := ⟨by decide +kernel, rfl⟩
theorem dX10_give_10 : decode cX10_give 10 = .ok (.invokestatic 61, 3) ∧ 13 = 10 + 3 := ⟨by decide +kernel, rfl⟩
theorem dX10_give_13 : decode cX10_give 13 = .ok (.iconst 3, 1) ∧ 14 = 13 + 1 := ⟨by decide +kernel, rfl⟩
theorem dX10_give_14 : decode cX10_give 14 = .ok (.iadd, 1) ∧ 15 = 14 + 1 := ⟨by decide +kernel, rfl⟩
theorem dX10_give_15 : decode cX10_give 15 = .ok (.dup2, 1) ∧ 16 = 15 + 1 := ⟨by decide +kernel, rfl⟩
theorem dX10_give_16 : decode cX10_give 16 = .ok (.laload, 1) ∧ 17 = 16 + 1 := ⟨by decide +kernel, rfl⟩
theorem dX10_give_17 : decode cX10_give 17 = .ok (.lload_n 2, 1) ∧ 18 = 17 + 1 := ⟨by decide +kernel, rfl⟩
theorem dX10_give_18 : decode cX10_give 18 = .ok (.ladd, 1) ∧ 19 = 18 + 1 := ⟨by decide +kernel, rfl⟩
theorem dX10_give_19 : decode cX10_give 19 = .ok (.lastore, 1) ∧ 20 = 19 + 1 := ⟨by decide +kernel, rfl⟩
theorem dX10_give_20 : decode cX10_give 20 = .ok (.return_, 1) ∧ 21 = 20 + 1 := ⟨by decide +kernel, rfl⟩
theorem dX10_flowThrough_0 : decode cX10_flowThrough 0 = .ok (.aload_n 0, 1) ∧ 1 = 0 + 1 := ⟨by decide +kernel, rfl⟩
theorem dX10_flowThrough_1 : decode cX10_flowThrough 1 = .ok (.iload_n 1, 1) ∧ 2 = 1 + 1 := ⟨by decide +kernel, rfl⟩
theorem dX10_flowThrough_2 : decode cX10_flowThrough 2 = .ok (.iconst 0, 1) ∧ 3 = 2 + 1 := ⟨by decide +kernel, rfl⟩
theorem dX10_flowThrough_3 : decode cX10_flowThrough 3 = .ok (.invokevirtual 74, 3) ∧ 6 = 3 + 3 := ⟨by decide +kernel, rfl⟩
theorem dX10_flowThrough_6 : decode cX10_flowThrough 6 = .ok (.istore_n 2, 1) ∧ 7 = 6 + 1 := ⟨by decide +kernel, rfl⟩
theorem dX10_flowThrough_7 : decode cX10_flowThrough 7 = .ok (.aload_n 0, 1) ∧ 8 = 7 + 1 := ⟨by decide +kernel, rfl⟩
theorem dX10_flowThrough_8 : decode cX10_flowThrough 8 = .ok (.iload_n 1, 1) ∧ 9 = 8 + 1 := ⟨by decide +kernel, rfl⟩
theorem dX10_flowThrough_9 : decode cX10_flowThrough 9 = .ok (.iconst 1, 1) ∧ 10 = 9 + 1 := ⟨by decide +kernel, rfl⟩
theorem dX10_flowThrough_10 : decode cX10_flowThrough 10 = .ok (.invokevirtual 74, 3) ∧ 13 = 10 + 3 := ⟨by decide +kernel, rfl⟩
theorem dX10_flowThrough_13 : decode cX10_flowThrough 13 = .ok (.istore_n 3, 1) ∧ 14 = 13 + 1 := ⟨by decide +kernel, rfl⟩
theorem dX10_flowThrough_14 : decode cX10_flowThrough 14 = .ok (.aload_n 0, 1) ∧ 15 = 14 + 1 := ⟨by decide +kernel, rfl⟩
theorem dX10_flowThrough_15 : decode cX10_flowThrough 15 = .ok (.iload_n 1, 1) ∧ 16 = 15 + 1 := ⟨by decide +kernel, rfl⟩
theorem dX10_flowThrough_16 : decode cX10_flowThrough 16 = .ok (.invokevirtual 90, 3) ∧ 19 = 16 + 3 := ⟨by decide +kernel, rfl⟩
theorem dX10_flowThrough_19 : decode cX10_flowThrough 19 = .ok (.lstore 4, 2) ∧ 21 = 19 + 2 := ⟨by decide +kernel, rfl⟩
theorem dX10_flowThrough_21 : decode cX10_flowThrough 21 = .ok (.aload_n 0, 1) ∧ 22 = 21 + 1 := ⟨by decide +kernel, rfl⟩
theorem dX10_flowThrough_22 : decode cX10_flowThrough 22 = .ok (.iload_n 2, 1) ∧ 23 = 22 + 1 := ⟨by decide +kernel, rfl⟩
theorem dX10_flowThrough_23 : decode cX10_flowThrough 23 = .ok (.invokevirtual 64, 3) ∧ 26 = 23 + 3 := ⟨by decide +kernel, rfl⟩
theorem dX10_flowThrough_26 : decode cX10_flowThrough 26 = .ok (.lstore 6, 2) ∧ 28 = 26 + 2 := ⟨by decide +kernel, rfl⟩
theorem dX10_flowThrough_28 : decode cX10_flowThrough 28 = .ok (.iload_n 3, 1) ∧ 29 = 28 + 1 := ⟨by decide +kernel, rfl⟩
theorem dX10_flowThrough_29 : decode cX10_flowThrough 29 = .ok (.iconst (-1), 1) ∧ 30 = 29 + 1 := ⟨by decide +kernel, rfl⟩
theorem dX10_flowThrough_30 : decode cX10_flowThrough 30 = .ok (.if_icmp .ne 11, 3) ∧ 33 = 30 + 3 := ⟨by decide +kernel, rfl⟩
theorem dX10_flowThrough_33 : decode cX10_flowThrough 33 = .ok (.lload 4, 2) ∧ 35 = 33 + 2 := ⟨by decide +kernel, rfl⟩
theorem dX10_flowThrough_35 : decode cX10_flowThrough 35 = .ok (.lload 6, 2) ∧ 37 = 35 + 2 := ⟨by decide +kernel, rfl⟩
theorem dX10_flowThrough_37 : decode cX10_flowThrough 37 = .ok (.lmul, 1) ∧ 38 = 37 + 1 := ⟨by decide +kernel, rfl⟩
theorem dX10_flowThrough_38 : decode cX10_flowThrough 38 = .ok (.goto 23, 3) ∧ 41 = 38 + 3 := ⟨by decide +kernel, rfl⟩
theorem dX10_flowThrough_41 : decode cX10_flowThrough 41 = .ok (.lload 4, 2) ∧ 43 = 41 + 2 := ⟨by decide +kernel, rfl⟩
theorem dX10_flowThrough_43 : decode cX10_flowThrough 43 = .ok (.lload 6, 2) ∧ 45 = 43 + 2 := ⟨by decide +kernel, rfl⟩
theorem dX10_flowThrough_45 : decode cX10_flowThrough 45 = .ok (.lmul, 1) ∧ 46 = 45 + 1 := ⟨by decide +kernel, rfl⟩
theorem dX10_flowThrough_46 : decode cX10_flowThrough 46 = .ok (.aload_n 0, 1) ∧ 47 = 46 + 1 := ⟨by decide +kernel, rfl⟩
theorem dX10_flowThrough_47 : decode cX10_flowThrough 47 = .ok (.iload_n 3, 1) ∧ 48 = 47 + 1 := ⟨by decide +kernel, rfl⟩
theorem dX10_flowThrough_48 : decode cX10_flowThrough 48 = .ok (.invokevirtual 64, 3) ∧ 51 = 48 + 3 := ⟨by decide +kernel, rfl⟩
theorem dX10_flowThrough_51 : decode cX10_flowThrough 51 = .ok (.lmul, 1) ∧ 52 = 51 + 1 := ⟨by decide +kernel, rfl⟩
theorem dX10_flowThrough_52 : decode cX10_flowThrough 52 = .ok (.lload 6, 2) ∧ 54 = 52 + 2 := ⟨by decide +kernel, rfl⟩
theorem dX10_flowThrough_54 : decode cX10_flowThrough 54 = .ok (.aload_n 0, 1) ∧ 55 = 54 + 1 := ⟨by decide +kernel, rfl⟩
theorem dX10_flowThrough_55 : decode cX10_flowThrough 55 = .ok (.iload_n 3, 1) ∧ 56 = 55 + 1 := ⟨by decide +kernel, rfl⟩
theorem dX10_flowThrough_56 : decode cX10_flowThrough 56 = .ok (.invokevirtual 64, 3) ∧ 59 = 56 + 3 := ⟨by decide +kernel, rfl⟩
theorem dX10_flowThrough_59 : decode cX10_flowThrough 59 = .ok (.ladd, 1) ∧ 60 = 59 + 1 := ⟨by decide +kernel, rfl⟩
theorem dX10_flowThrough_60 : decode cX10_flowThrough 60 = .ok (.ldiv, 1) ∧ 61 = 60 + 1 := ⟨by decide +kernel, rfl⟩
theorem dX10_flowThrough_61 : decode cX10_flowThrough 61 = .ok (.lstore 8, 2) ∧ 63 = 61 + 2 := ⟨by decide +kernel, rfl⟩
theorem dX10_flowThrough_63 : decode cX10_flowThrough 63 = .ok (.aload_n 0, 1) ∧ 64 = 63 + 1 := ⟨by decide +kernel, rfl⟩
theorem dX10_flowThrough_64 : decode cX10_flowThrough 64 = .ok (.getfield 7, 3) ∧ 67 = 64 + 3 := ⟨by decide +kernel, rfl⟩
theorem dX10_flowThrough_67 : decode cX10_flowThrough 67 = .ok (.iload_n 1, 1) ∧ 68 = 67 + 1 := ⟨by decide +kernel, rfl⟩
theorem dX10_flowThrough_68 : decode cX10_flowThrough 68 = .ok (.invokestatic 68, 3) ∧ 71 = 68 + 3 := ⟨by decide +kernel, rfl⟩
theorem dX10_flowThrough_71 : decode cX10_flowThrough 71 = .ok (.iconst 2, 1) ∧ 72 = 71 + 1 := ⟨by decide +kernel, rfl⟩
theorem dX10_flowThrough_72 : decode cX10_flowThrough 72 = .ok (.iadd, 1) ∧ 73 = 72 + 1 := ⟨by decide +kernel, rfl⟩
theorem dX10_flowThrough_73 : decode cX10_flowThrough 73 = .ok (.laload, 1) ∧ 74 = 73 + 1 := ⟨by decide +kernel, rfl⟩
theorem dX10_flowThrough_74 : decode cX10_flowThrough 74 = .ok (.lload 4, 2) ∧ 76 = 74 + 2 := ⟨by decide +kernel, rfl⟩
theorem dX10_flowThrough_76 : decode cX10_flowThrough 76 = .ok (.lmul, 1) ∧ 77 = 76 + 1 := ⟨by decide +kernel, rfl⟩
theorem dX10_flowThrough_77 : decode cX10_flowThrough 77 = .ok (.lload 8, 2) ∧ 79 = 77 + 2 := ⟨by decide +kernel, rfl⟩
theorem dX10_flowThrough_79 : decode cX10_flowThrough 79 = .ok (.invokestatic 111, 3) ∧ 82 = 79 + 3 := ⟨by decide +kernel, rfl⟩
theorem dX10_flowThrough_82 : decode cX10_flowThrough 82 = .ok (.lstore 10, 2) ∧ 84 = 82 + 2 := ⟨by decide +kernel, rfl⟩
theorem dX10_flowThrough_84 : decode cX10_flowThrough 84 = .ok (.aload_n 0, 1) ∧ 85 = 84 + 1 := ⟨by decide +kernel, rfl⟩
theorem dX10_flowThrough_85 : decode cX10_flowThrough 85 = .ok (.iload_n 2, 1) ∧ 86 = 85 + 1 := ⟨by decide +kernel, rfl⟩
theorem dX10_flowThrough_86 : decode cX10_flowThrough 86 = .ok (.invokevirtual 78, 3) ∧ 89 = 86 + 3 := ⟨by decide +kernel, rfl⟩
theorem dX10_flowThrough_89 : decode cX10_flowThrough 89 = .ok (.aload_n 0, 1) ∧ 90 = 89 + 1 := ⟨by decide +kernel, rfl⟩
theorem dX10_flowThrough_90 : decode cX10_flowThrough 90 = .ok (.iload_n 3, 1) ∧ 91 = 90 + 1 := ⟨by decide +kernel, rfl⟩
theorem dX10_flowThrough_91 : decode cX10_flowThrough 91 = .ok (.invokevirtual 78, 3) ∧ 94 = 91 + 3 := ⟨by decide +kernel, rfl⟩
theorem dX10_flowThrough_94 : decode cX10_flowThrough 94 = .ok (.lcmp, 1) ∧ 95 = 94 + 1 := ⟨by decide +kernel, rfl⟩
theorem dX10_flowThrough_95 : decode cX10_flowThrough 95 = .ok (.ifCond .le 7, 3) ∧ 98 = 95 + 3 := ⟨by decide +kernel, rfl⟩
theorem dX10_flowThrough_98 : decode cX10_flowThrough 98 = .ok (.iconst 1, 1) ∧ 99 = 98 + 1 := ⟨by decide +kernel, rfl⟩
theorem dX10_flowThrough_99 : decode cX10_flowThrough 99 = .ok (.goto 4, 3) ∧ 102 = 99 + 3 := ⟨by decide +kernel, rfl⟩
theorem dX10_flowThrough_102 : decode cX10_flowThrough 102 = .ok (.iconst 0, 1) ∧ 103 = 102 + 1 := ⟨by decide +kernel, rfl⟩
theorem dX10_flowThrough_103 : decode cX10_flowThrough 103 = .ok (.istore 12, 2) ∧ 105 = 103 + 2 := ⟨by decide +kernel, rfl⟩
theorem dX10_flowThrough_105 : decode cX10_flowThrough 105 = .ok (.aload_n 0, 1) ∧ 106 = 105 + 1 := ⟨by decide +kernel, rfl⟩
theorem dX10_flowThrough_106 : decode cX10_flowThrough 106 = .ok (.iload_n 2, 1) ∧ 107 = 106 + 1 := ⟨by decide +kernel, rfl⟩
theorem dX10_flowThrough_107 : decode cX10_flowThrough 107 = .ok (.iload 12, 2) ∧ 109 = 107 + 2 := ⟨by decide +kernel, rfl⟩
theorem dX10_flowThrough_109 : decode cX10_flowThrough 109 = .ok (.ifCond .eq 9, 3) ∧ 112 = 109 + 3 := ⟨by decide +kernel, rfl⟩
theorem dX10_flowThrough_112 : decode cX10_flowThrough 112 = .ok (.lload 10, 2) ∧ 114 = 112 + 2 := ⟨by decide +kernel, rfl⟩
theorem dX10_flowThrough_114 : decode cX10_flowThrough 114 = .ok (.lneg, 1) ∧ 115 = 114 + 1 := ⟨by decide +kernel, rfl⟩
theorem dX10_flowThrough_115 : decode cX10_flowThrough 115 = .ok (.goto 5, 3) ∧ 118 = 115 + 3 := ⟨by decide +kernel, rfl⟩
theorem dX10_flowThrough_118 : decode cX10_flowThrough 118 = .ok (.lload 10, 2) ∧ 120 = 118 + 2 := ⟨by decide +kernel, rfl⟩
theorem dX10_flowThrough_120 : decode cX10_flowThrough 120 = .ok (.invokevirtual 115, 3) ∧ 123 = 120 + 3 := ⟨by decide +kernel, rfl⟩
theorem dX10_flowThrough_123 : decode cX10_flowThrough 123 = .ok (.aload_n 0, 1) ∧ 124 = 123 + 1 := ⟨by decide +kernel, rfl⟩
theorem dX10_flowThrough_124 : decode cX10_flowThrough 124 = .ok (.iload_n 3, 1) ∧ 125 = 124 + 1 := ⟨by decide +kernel, rfl⟩
theorem dX10_flowThrough_125 : decode cX10_flowThrough 125 = .ok (.iload 12, 2) ∧ 127 = 125 + 2 := ⟨by decide +kernel, rfl⟩
theorem dX10_flowThrough_127 : decode cX10_flowThrough 127 = .ok (.ifCond .eq 8, 3) ∧ 130 = 127 + 3 := ⟨by decide +kernel, rfl⟩
theorem dX10_flowThrough_130 : decode cX10_flowThrough 130 = .ok (.lload 10, 2) ∧ 132 = 130 + 2 := ⟨by decide +kernel, rfl⟩
theorem dX10_flowThrough_132 : decode cX10_flowThrough 132 = .ok (.goto 6, 3) ∧ 135 = 132 + 3 := ⟨by decide +kernel, rfl⟩
theorem dX10_flowThrough_135 : decode cX10_flowThrough 135 = .ok (.lload 10, 2) ∧ 137 = 135 + 2 := ⟨by decide +kernel, rfl⟩
theorem dX10_flowThrough_137 : decode cX10_flowThrough 137 = .ok (.lneg, 1) ∧ 138 = 137 + 1 := ⟨by decide +kernel, rfl⟩
theorem dX10_flowThrough_138 : decode cX10_flowThrough 138 = .ok (.invokevirtual 115, 3) ∧ 141 = 138 + 3 := ⟨by decide +kernel, rfl⟩
theorem dX10_flowThrough_141 : decode cX10_flowThrough 141 = .ok (.return_, 1) ∧ 142 = 141 + 1 := ⟨by decide +kernel, rfl⟩
theorem dX10_pumpOut_0 : decode cX10_pumpOut 0 = .ok (.aload_n 0, 1) ∧ 1 = 0 + 1 := ⟨by decide +kernel, rfl⟩
theorem dX10_pumpOut_1 : decode cX10_pumpOut 1 = .ok (.iload_n 1, 1) ∧ 2 = 1 + 1 := ⟨by decide +kernel, rfl⟩
theorem dX10_pumpOut_2 : decode cX10_pumpOut 2 = .ok (.iconst 0, 1) ∧ 3 = 2 + 1 := ⟨by decide +kernel, rfl⟩
theorem dX10_pumpOut_3 : decode cX10_pumpOut 3 = .ok (.invokevirtual 87, 3) ∧ 6 = 3 + 3 := ⟨by decide +kernel, rfl⟩
theorem dX10_pumpOut_6 : decode cX10_pumpOut 6 = .ok (.istore_n 2, 1) ∧ 7 = 6 + 1 := ⟨by decide +kernel, rfl⟩
theorem dX10_pumpOut_7 : decode cX10_pumpOut 7 = .ok (.aload_n 0, 1) ∧ 8 = 7 + 1 := ⟨by decide +kernel, rfl⟩
theorem dX10_pumpOut_8 : decode cX10_pumpOut 8 = .ok (.iload_n 1, 1) ∧ 9 = 8 + 1 := ⟨by decide +kernel, rfl⟩
theorem dX10_pumpOut_9 : decode cX10_pumpOut 9 = .ok (.invokevirtual 119, 3) ∧ 12 = 9 + 3 := ⟨by decide +kernel, rfl⟩
theorem dX10_pumpOut_12 : decode cX10_pumpOut 12 = .ok (.ifCond .eq 11, 3) ∧ 15 = 12 + 3 := ⟨by decide +kernel, rfl⟩
theorem dX10_pumpOut_15 : decode cX10_pumpOut 15 = .ok (.aload_n 0, 1) ∧ 16 = 15 + 1 := ⟨by decide +kernel, rfl⟩
theorem dX10_pumpOut_16 : decode cX10_pumpOut 16 = .ok (.iload_n 1, 1) ∧ 17 = 16 + 1 := ⟨by decide +kernel, rfl⟩
theorem dX10_pumpOut_17 : decode cX10_pumpOut 17 = .ok (.invokevirtual 122, 3) ∧ 20 = 17 + 3 := ⟨by decide +kernel, rfl⟩
theorem dX10_pumpOut_20 : decode cX10_pumpOut 20 = .ok (.ifCond .ne 44, 3) ∧ 23 = 20 + 3 := ⟨by decide +kernel, rfl⟩
theorem dX10_pumpOut_23 : decode cX10_pumpOut 23 = .ok (.aload_n 0, 1) ∧ 24 = 23 + 1 := ⟨by decide +kernel, rfl⟩
theorem dX10_pumpOut_24 : decode cX10_pumpOut 24 = .ok (.getfield 7, 3) ∧ 27 = 24 + 3 := ⟨by decide +kernel, rfl⟩
theorem dX10_pumpOut_27 : decode cX10_pumpOut 27 = .ok (.iload_n 1, 1) ∧ 28 = 27 + 1 := ⟨by decide +kernel, rfl⟩
theorem dX10_pumpOut_28 : decode cX10_pumpOut 28 = .ok (.invokestatic 71, 3) ∧ 31 = 28 + 3 := ⟨by decide +kernel, rfl⟩
theorem dX10_pumpOut_31 : decode cX10_pumpOut 31 = .ok (.bipush 6, 2) ∧ 33 = 31 + 2 := ⟨by decide +kernel, rfl⟩
theorem dX10_pumpOut_33 : decode cX10_pumpOut 33 = .ok (.iadd, 1) ∧ 34 = 33 + 1 := ⟨by decide +kernel, rfl⟩
theorem dX10_pumpOut_34 : decode cX10_pumpOut 34 = .ok (.lconst 0, 1) ∧ 35 = 34 + 1 := ⟨by decide +kernel, rfl⟩
theorem dX10_pumpOut_35 : decode cX10_pumpOut 35 = .ok (.lastore, 1) ∧ 36 = 35 + 1 := ⟨by decide +kernel, rfl⟩
theorem dX10_pumpOut_36 : decode cX10_pumpOut 36 = .ok (.aload_n 0, 1) ∧ 37 = 36 + 1 := ⟨by decide +kernel, rfl⟩
theorem dX10_pumpOut_37 : decode cX10_pumpOut 37 = .ok (.getfield 7, 3) ∧ 40 = 37 + 3 := ⟨by decide +kernel, rfl⟩
theorem dX10_pumpOut_40 : decode cX10_pumpOut 40 = .ok (.iload_n 1, 1) ∧ 41 = 40 + 1 := ⟨by decide +kernel, rfl⟩
theorem dX10_pumpOut_41 : decode cX10_pumpOut 41 = .ok (.invokestatic 71, 3) ∧ 44 = 41 + 3 := ⟨by decide +kernel, rfl⟩
theorem dX10_pumpOut_44 : decode cX10_pumpOut 44 = .ok (.bipush 7, 2) ∧ 46 = 44 + 2 := ⟨by decide +kernel, rfl⟩
theorem dX10_pumpOut_46 : decode cX10_pumpOut 46 = .ok (.iadd, 1) ∧ 47 = 46 + 1 := ⟨by decide +kernel, rfl⟩
theorem dX10_pumpOut_47 : decode cX10_pumpOut 47 = .ok (.dup2, 1) ∧ 48 = 47 + 1 := ⟨by decide +kernel, rfl⟩
theorem dX10_pumpOut_48 : decode cX10_pumpOut 48 = .ok (.laload, 1) ∧ 49 = 48 + 1 := ⟨by decide +kernel, rfl⟩
theorem dX10_pumpOut_49 : decode cX10_pumpOut 49 = .ok (.lconst 1, 1) ∧ 50 = 49 + 1 := ⟨by decide +kernel, rfl⟩
theorem dX10_pumpOut_50 : decode cX10_pumpOut 50 = .ok (.ladd, 1) ∧ 51 = 50 + 1 := ⟨by decide +kernel, rfl⟩
theorem dX10_pumpOut_51 : decode cX10_pumpOut 51 = .ok (.lastore, 1) ∧ 52 = 51 + 1 := ⟨by decide +kernel, rfl⟩
theorem dX10_pumpOut_52 : decode cX10_pumpOut 52 = .ok (.aload_n 0, 1) ∧ 53 = 52 + 1 := ⟨by decide +kernel, rfl⟩
theorem dX10_pumpOut_53 : decode cX10_pumpOut 53 = .ok (.getfield 7, 3) ∧ 56 = 53 + 3 := ⟨by decide +kernel, rfl⟩
theorem dX10_pumpOut_56 : decode cX10_pumpOut 56 = .ok (.bipush 6, 2) ∧ 58 = 56 + 2 := ⟨by decide +kernel, rfl⟩
theorem dX10_pumpOut_58 : decode cX10_pumpOut 58 = .ok (.dup2, 1) ∧ 59 = 58 + 1 := ⟨by decide +kernel, rfl⟩
theorem dX10_pumpOut_59 : decode cX10_pumpOut 59 = .ok (.laload, 1) ∧ 60 = 59 + 1 := ⟨by decide +kernel, rfl⟩
theorem dX10_pumpOut_60 : decode cX10_pumpOut 60 = .ok (.lconst 1, 1) ∧ 61 = 60 + 1 := ⟨by decide +kernel, rfl⟩
theorem dX10_pumpOut_61 : decode cX10_pumpOut 61 = .ok (.ladd, 1) ∧ 62 = 61 + 1 := ⟨by decide +kernel, rfl⟩
theorem dX10_pumpOut_62 : decode cX10_pumpOut 62 = .ok (.lastore, 1) ∧ 63 = 62 + 1 := ⟨by decide +kernel, rfl⟩
theorem dX10_pumpOut_63 : decode cX10_pumpOut 63 = .ok (.return_, 1) ∧ 64 = 63 + 1 := ⟨by decide +kernel, rfl⟩
theorem dX10_pumpOut_64 : decode cX10_pumpOut 64 = .ok (.aload_n 0, 1) ∧ 65 = 64 + 1 := ⟨by decide +kernel, rfl⟩
theorem dX10_pumpOut_65 : decode cX10_pumpOut 65 = .ok (.iload_n 2, 1) ∧ 66 = 65 + 1 := ⟨by decide +kernel, rfl⟩
theorem dX10_pumpOut_66 : decode cX10_pumpOut 66 = .ok (.invokevirtual 78, 3) ∧ 69 = 66 + 3 := ⟨by decide +kernel, rfl⟩
theorem dX10_pumpOut_69 : decode cX10_pumpOut 69 = .ok (.aload_n 0, 1) ∧ 70 = 69 + 1 := ⟨by decide +kernel, rfl⟩
theorem dX10_pumpOut_70 : decode cX10_pumpOut 70 = .ok (.getfield 7, 3) ∧ 73 = 70 + 3 := ⟨by decide +kernel, rfl⟩
theorem dX10_pumpOut_73 : decode cX10_pumpOut 73 = .ok (.iload_n 1, 1) ∧ 74 = 73 + 1 := ⟨by decide +kernel, rfl⟩
theorem dX10_pumpOut_74 : decode cX10_pumpOut 74 = .ok (.invokestatic 71, 3) ∧ 77 = 74 + 3 := ⟨by decide +kernel, rfl⟩
theorem dX10_pumpOut_77 : decode cX10_pumpOut 77 = .ok (.iconst 3, 1) ∧ 78 = 77 + 1 := ⟨by decide +kernel, rfl⟩
theorem dX10_pumpOut_78 : decode cX10_pumpOut 78 = .ok (.iadd, 1) ∧ 79 = 78 + 1 := ⟨by decide +kernel, rfl⟩
theorem dX10_pumpOut_79 : decode cX10_pumpOut 79 = .ok (.laload, 1) ∧ 80 = 79 + 1 := ⟨by decide +kernel, rfl⟩
theorem dX10_pumpOut_80 : decode cX10_pumpOut 80 = .ok (.lsub, 1) ∧ 81 = 80 + 1 := ⟨by decide +kernel, rfl⟩
theorem dX10_pumpOut_81 : decode cX10_pumpOut 81 = .ok (.lstore_n 3, 1) ∧ 82 = 81 + 1 := ⟨by decide +kernel, rfl⟩
theorem dX10_pumpOut_82 : decode cX10_pumpOut 82 = .ok (.lload_n 3, 1) ∧ 83 = 82 + 1 := ⟨by decide +kernel, rfl⟩
theorem dX10_pumpOut_83 : decode cX10_pumpOut 83 = .ok (.lconst 0, 1) ∧ 84 = 83 + 1 := ⟨by decide +kernel, rfl⟩
theorem dX10_pumpOut_84 : decode cX10_pumpOut 84 = .ok (.lcmp, 1) ∧ 85 = 84 + 1 := ⟨by decide +kernel, rfl⟩
theorem dX10_pumpOut_85 : decode cX10_pumpOut 85 = .ok (.ifCond .gt 4, 3) ∧ 88 = 85 + 3 := ⟨by decide +kernel, rfl⟩
theorem dX10_pumpOut_88 : decode cX10_pumpOut 88 = .ok (.return_, 1) ∧ 89 = 88 + 1 := ⟨by decide +kernel, rfl⟩
theorem dX10_pumpOut_89 : decode cX10_pumpOut 89 = .ok (.aload_n 0, 1) ∧ 90 = 89 + 1 := ⟨by decide +kernel, rfl⟩
theorem dX10_pumpOut_90 : decode cX10_pumpOut 90 = .ok (.getfield 7, 3) ∧ 93 = 90 + 3 := ⟨by decide +kernel, rfl⟩
theorem dX10_pumpOut_93 : decode cX10_pumpOut 93 = .ok (.iload_n 1, 1) ∧ 94 = 93 + 1 := ⟨by decide +kernel, rfl⟩
theorem dX10_pumpOut_94 : decode cX10_pumpOut 94 = .ok (.invokestatic 71, 3) ∧ 97 = 94 + 3 := ⟨by decide +kernel, rfl⟩
theorem dX10_pumpOut_97 : decode cX10_pumpOut 97 = .ok (.iconst 2, 1) ∧ 98 = 97 + 1 := ⟨by decide +kernel, rfl⟩
theorem dX10_pumpOut_98 : decode cX10_pumpOut 98 = .ok (.iadd, 1) ∧ 99 = 98 + 1 := ⟨by decide +kernel, rfl⟩
theorem dX10_pumpOut_99 : decode cX10_pumpOut 99 = .ok (.laload, 1) ∧ 100 = 99 + 1 := ⟨by decide +kernel, rfl⟩
theorem dX10_pumpOut_100 : decode cX10_pumpOut 100 = .ok (.lload_n 3, 1) ∧ 101 = 100 + 1 := ⟨by decide +kernel, rfl⟩
theorem dX10_pumpOut_101 : decode cX10_pumpOut 101 = .ok (.lmul, 1) ∧ 102 = 101 + 1 := ⟨by decide +kernel, rfl⟩
theorem dX10_pumpOut_102 : decode cX10_pumpOut 102 = .ok (.aload_n 0, 1) ∧ 103 = 102 + 1 := ⟨by decide +kernel, rfl⟩
theorem dX10_pumpOut_103 : decode cX10_pumpOut 103 = .ok (.getfield 7, 3) ∧ 106 = 103 + 3 := ⟨by decide +kernel, rfl⟩
theorem dX10_pumpOut_106 : decode cX10_pumpOut 106 = .ok (.iload_n 2, 1) ∧ 107 = 106 + 1 := ⟨by decide +kernel, rfl⟩
theorem dX10_pumpOut_107 : decode cX10_pumpOut 107 = .ok (.invokestatic 61, 3) ∧ 110 = 107 + 3 := ⟨by decide +kernel, rfl⟩
theorem dX10_pumpOut_110 : decode cX10_pumpOut 110 = .ok (.iconst 3, 1) ∧ 111 = 110 + 1 := ⟨by decide +kernel, rfl⟩
theorem dX10_pumpOut_111 : decode cX10_pumpOut 111 = .ok (.iadd, 1) ∧ 112 = 111 + 1 := ⟨by decide +kernel, rfl⟩
theorem dX10_pumpOut_112 : decode cX10_pumpOut 112 = .ok (.laload, 1) ∧ 113 = 112 + 1 := ⟨by decide +kernel, rfl⟩
theorem dX10_pumpOut_113 : decode cX10_pumpOut 113 = .ok (.invokestatic 111, 3) ∧ 116 = 113 + 3 := ⟨by decide +kernel, rfl⟩
theorem dX10_pumpOut_116 : decode cX10_pumpOut 116 = .ok (.lstore 5, 2) ∧ 118 = 116 + 2 := ⟨by decide +kernel, rfl⟩
theorem dX10_pumpOut_118 : decode cX10_pumpOut 118 = .ok (.aload_n 0, 1) ∧ 119 = 118 + 1 := ⟨by decide +kernel, rfl⟩
theorem dX10_pumpOut_119 : decode cX10_pumpOut 119 = .ok (.iload_n 2, 1) ∧ 120 = 119 + 1 := ⟨by decide +kernel, rfl⟩
theorem dX10_pumpOut_120 : decode cX10_pumpOut 120 = .ok (.lload 5, 2) ∧ 122 = 120 + 2 := ⟨by decide +kernel, rfl⟩
theorem dX10_pumpOut_122 : decode cX10_pumpOut 122 = .ok (.lneg, 1) ∧ 123 = 122 + 1 := ⟨by decide +kernel, rfl⟩
theorem dX10_pumpOut_123 : decode cX10_pumpOut 123 = .ok (.invokevirtual 115, 3) ∧ 126 = 123 + 3 := ⟨by decide +kernel, rfl⟩
theorem dX10_pumpOut_126 : decode cX10_pumpOut 126 = .ok (.aload_n 0, 1) ∧ 127 = 126 + 1 := ⟨by decide +kernel, rfl⟩
theorem dX10_pumpOut_127 : decode cX10_pumpOut 127 = .ok (.aload_n 0, 1) ∧ 128 = 127 + 1 := ⟨by decide +kernel, rfl⟩
theorem dX10_pumpOut_128 : decode cX10_pumpOut 128 = .ok (.iload_n 1, 1) ∧ 129 = 128 + 1 := ⟨by decide +kernel, rfl⟩
theorem dX10_pumpOut_129 : decode cX10_pumpOut 129 = .ok (.iconst 1, 1) ∧ 130 = 129 + 1 := ⟨by decide +kernel, rfl⟩
theorem dX10_pumpOut_130 : decode cX10_pumpOut 130 = .ok (.invokevirtual 87, 3) ∧ 133 = 130 + 3 := ⟨by decide +kernel, rfl⟩
theorem dX10_pumpOut_133 : decode cX10_pumpOut 133 = .ok (.lload 5, 2) ∧ 135 = 133 + 2 := ⟨by decide +kernel, rfl⟩
theorem dX10_pumpOut_135 : decode cX10_pumpOut 135 = .ok (.invokevirtual 115, 3) ∧ 138 = 135 + 3 := ⟨by decide +kernel, rfl⟩
theorem dX10_pumpOut_138 : decode cX10_pumpOut 138 = .ok (.return_, 1) ∧ 139 = 138 + 1 := ⟨by decide +kernel, rfl⟩
theorem dX10_tick_0 : decode cX10_tick 0 = .ok (.aload_n 0, 1) ∧ 1 = 0 + 1 := ⟨by decide +kernel, rfl⟩
theorem dX10_tick_1 : decode cX10_tick 1 = .ok (.invokevirtual 125, 3) ∧ 4 = 1 + 3 := ⟨by decide +kernel, rfl⟩
theorem dX10_tick_4 : decode cX10_tick 4 = .ok (.aload_n 0, 1) ∧ 5 = 4 + 1 := ⟨by decide +kernel, rfl⟩
theorem dX10_tick_5 : decode cX10_tick 5 = .ok (.invokevirtual 128, 3) ∧ 8 = 5 + 3 := ⟨by decide +kernel, rfl⟩
theorem dX10_tick_8 : decode cX10_tick 8 = .ok (.iconst 0, 1) ∧ 9 = 8 + 1 := ⟨by decide +kernel, rfl⟩
theorem dX10_tick_9 : decode cX10_tick 9 = .ok (.istore_n 1, 1) ∧ 10 = 9 + 1 := ⟨by decide +kernel, rfl⟩
theorem dX10_tick_10 : decode cX10_tick 10 = .ok (.iload_n 1, 1) ∧ 11 = 10 + 1 := ⟨by decide +kernel, rfl⟩
theorem dX10_tick_11 : decode cX10_tick 11 = .ok (.aload_n 0, 1) ∧ 12 = 11 + 1 := ⟨by decide +kernel, rfl⟩
theorem dX10_tick_12 : decode cX10_tick 12 = .ok (.iconst 2, 1) ∧ 13 = 12 + 1 := ⟨by decide +kernel, rfl⟩
theorem dX10_tick_13 : decode cX10_tick 13 = .ok (.invokevirtual 93, 3) ∧ 16 = 13 + 3 := ⟨by decide +kernel, rfl⟩
theorem dX10_tick_16 : decode cX10_tick 16 = .ok (.if_icmp .ge 22, 3) ∧ 19 = 16 + 3 := ⟨by decide +kernel, rfl⟩
theorem dX10_tick_19 : decode cX10_tick 19 = .ok (.aload_n 0, 1) ∧ 20 = 19 + 1 := ⟨by decide +kernel, rfl⟩
theorem dX10_tick_20 : decode cX10_tick 20 = .ok (.iload_n 1, 1) ∧ 21 = 20 + 1 := ⟨by decide +kernel, rfl⟩
theorem dX10_tick_21 : decode cX10_tick 21 = .ok (.invokevirtual 99, 3) ∧ 24 = 21 + 3 := ⟨by decide +kernel, rfl⟩
theorem dX10_tick_24 : decode cX10_tick 24 = .ok (.ifCond .eq 8, 3) ∧ 27 = 24 + 3 := ⟨by decide +kernel, rfl⟩
theorem dX10_tick_27 : decode cX10_tick 27 = .ok (.aload_n 0, 1) ∧ 28 = 27 + 1 := ⟨by decide +kernel, rfl⟩
theorem dX10_tick_28 : decode cX10_tick 28 = .ok (.iload_n 1, 1) ∧ 29 = 28 + 1 := ⟨by decide +kernel, rfl⟩
theorem dX10_tick_29 : decode cX10_tick 29 = .ok (.invokevirtual 131, 3) ∧ 32 = 29 + 3 := ⟨by decide +kernel, rfl⟩
theorem dX10_tick_32 : decode cX10_tick 32 = .ok (.iinc 1 1, 3) ∧ 35 = 32 + 3 := ⟨by decide +kernel, rfl⟩
theorem dX10_tick_35 : decode cX10_tick 35 = .ok (.goto (-25), 3) ∧ 38 = 35 + 3 := ⟨by decide +kernel, rfl⟩
theorem dX10_tick_38 : decode cX10_tick 38 = .ok (.iconst 0, 1) ∧ 39 = 38 + 1 := ⟨by decide +kernel, rfl⟩
theorem dX10_tick_39 : decode cX10_tick 39 = .ok (.istore_n 1, 1) ∧ 40 = 39 + 1 := ⟨by decide +kernel, rfl⟩
theorem dX10_tick_40 : decode cX10_tick 40 = .ok (.iload_n 1, 1) ∧ 41 = 40 + 1 := ⟨by decide +kernel, rfl⟩
theorem dX10_tick_41 : decode cX10_tick 41 = .ok (.aload_n 0, 1) ∧ 42 = 41 + 1 := ⟨by decide +kernel, rfl⟩
theorem dX10_tick_42 : decode cX10_tick 42 = .ok (.iconst 1, 1) ∧ 43 = 42 + 1 := ⟨by decide +kernel, rfl⟩
theorem dX10_tick_43 : decode cX10_tick 43 = .ok (.invokevirtual 93, 3) ∧ 46 = 43 + 3 := ⟨by decide +kernel, rfl⟩
theorem dX10_tick_46 : decode cX10_tick 46 = .ok (.if_icmp .ge 22, 3) ∧ 49 = 46 + 3 := ⟨by decide +kernel, rfl⟩
theorem dX10_tick_49 : decode cX10_tick 49 = .ok (.aload_n 0, 1) ∧ 50 = 49 + 1 := ⟨by decide +kernel, rfl⟩
theorem dX10_tick_50 : decode cX10_tick 50 = .ok (.iload_n 1, 1) ∧ 51 = 50 + 1 := ⟨by decide +kernel, rfl⟩
theorem dX10_tick_51 : decode cX10_tick 51 = .ok (.invokevirtual 135, 3) ∧ 54 = 51 + 3 := ⟨by decide +kernel, rfl⟩
theorem dX10_tick_54 : decode cX10_tick 54 = .ok (.ifCond .eq 8, 3) ∧ 57 = 54 + 3 := ⟨by decide +kernel, rfl⟩
theorem dX10_tick_57 : decode cX10_tick 57 = .ok (.aload_n 0, 1) ∧ 58 = 57 + 1 := ⟨by decide +kernel, rfl⟩
theorem dX10_tick_58 : decode cX10_tick 58 = .ok (.iload_n 1, 1) ∧ 59 = 58 + 1 := ⟨by decide +kernel, rfl⟩
theorem dX10_tick_59 : decode cX10_tick 59 = .ok (.invokevirtual 138, 3) ∧ 62 = 59 + 3 := ⟨by decide +kernel, rfl⟩
theorem dX10_tick_62 : decode cX10_tick 62 = .ok (.iinc 1 1, 3) ∧ 65 = 62 + 3 := ⟨by decide +kernel, rfl⟩
theorem dX10_tick_65 : decode cX10_tick 65 = .ok (.goto (-25), 3) ∧ 68 = 65 + 3 := ⟨by decide +kernel, rfl⟩
theorem dX10_tick_68 : decode cX10_tick 68 = .ok (.aload_n 0, 1) ∧ 69 = 68 + 1 := ⟨by decide +kernel, rfl⟩
theorem dX10_tick_69 : decode cX10_tick 69 = .ok (.getfield 7, 3) ∧ 72 = 69 + 3 := ⟨by decide +kernel, rfl⟩
theorem dX10_tick_72 : decode cX10_tick 72 = .ok (.iconst 4, 1) ∧ 73 = 72 + 1 := ⟨by decide +kernel, rfl⟩
theorem dX10_tick_73 : decode cX10_tick 73 = .ok (.dup2, 1) ∧ 74 = 73 + 1 := ⟨by decide +kernel, rfl⟩
theorem dX10_tick_74 : decode cX10_tick 74 = .ok (.laload, 1) ∧ 75 = 74 + 1 := ⟨by decide +kernel, rfl⟩
theorem dX10_tick_75 : decode cX10_tick 75 = .ok (.lconst 1, 1) ∧ 76 = 75 + 1 := ⟨by decide +kernel, rfl⟩
theorem dX10_tick_76 : decode cX10_tick 76 = .ok (.ladd, 1) ∧ 77 = 76 + 1 := ⟨by decide +kernel, rfl⟩
theorem dX10_tick_77 : decode cX10_tick 77 = .ok (.lastore, 1) ∧ 78 = 77 + 1 := ⟨by decide +kernel, rfl⟩
theorem dX10_tick_78 : decode cX10_tick 78 = .ok (.return_, 1) ∧ 79 = 78 + 1 := ⟨by decide +kernel, rfl⟩
theorem dX10_trips_0 : decode cX10_trips 0 = .ok (.aload_n 0, 1) ∧ 1 = 0 + 1 := ⟨by decide +kernel, rfl⟩
theorem dX10_trips_1 : decode cX10_trips 1 = .ok (.getfield 7, 3) ∧ 4 = 1 + 3 := ⟨by decide +kernel, rfl⟩
theorem dX10_trips_4 : decode cX10_trips 4 = .ok (.iconst 5, 1) ∧ 5 = 4 + 1 := ⟨by decide +kernel, rfl⟩
theorem dX10_trips_5 : decode cX10_trips 5 = .ok (.laload, 1) ∧ 6 = 5 + 1 := ⟨by decide +kernel, rfl⟩
theorem dX10_trips_6 : decode cX10_trips 6 = .ok (.aload_n 0, 1) ∧ 7 = 6 + 1 := ⟨by decide +kernel, rfl⟩
theorem dX10_trips_7 : decode cX10_trips 7 = .ok (.getfield 7, 3) ∧ 10 = 7 + 3 := ⟨by decide +kernel, rfl⟩
theorem dX10_trips_10 : decode cX10_trips 10 = .ok (.bipush 6, 2) ∧ 12 = 10 + 2 := ⟨by decide +kernel, rfl⟩
theorem dX10_trips_12 : decode cX10_trips 12 = .ok (.laload, 1) ∧ 13 = 12 + 1 := ⟨by decide +kernel, rfl⟩
theorem dX10_trips_13 : decode cX10_trips 13 = .ok (.ladd, 1) ∧ 14 = 13 + 1 := ⟨by decide +kernel, rfl⟩
theorem dX10_trips_14 : decode cX10_trips 14 = .ok (.l2i, 1) ∧ 15 = 14 + 1 := ⟨by decide +kernel, rfl⟩
theorem dX10_trips_15 : decode cX10_trips 15 = .ok (.ireturn, 1) ∧ 16 = 15 + 1 := ⟨by decide +kernel, rfl⟩
theorem dX10_passNow_0 : decode cX10_passNow 0 = .ok (.aload_n 0, 1) ∧ 1 = 0 + 1 := ⟨by decide +kernel, rfl⟩
theorem dX10_passNow_1 : decode cX10_passNow 1 = .ok (.invokevirtual 141, 3) ∧ 4 = 1 + 3 := ⟨by decide +kernel, rfl⟩
theorem dX10_passNow_4 : decode cX10_passNow 4 = .ok (.istore_n 2, 1) ∧ 5 = 4 + 1 := ⟨by decide +kernel, rfl⟩
theorem dX10_passNow_5 : decode cX10_passNow 5 = .ok (.iconst 0, 1) ∧ 6 = 5 + 1 := ⟨by decide +kernel, rfl⟩
theorem dX10_passNow_6 : decode cX10_passNow 6 = .ok (.istore_n 3, 1) ∧ 7 = 6 + 1 := ⟨by decide +kernel, rfl⟩
theorem dX10_passNow_7 : decode cX10_passNow 7 = .ok (.iload_n 3, 1) ∧ 8 = 7 + 1 := ⟨by decide +kernel, rfl⟩
theorem dX10_passNow_8 : decode cX10_passNow 8 = .ok (.iload_n 1, 1) ∧ 9 = 8 + 1 := ⟨by decide +kernel, rfl⟩
theorem dX10_passNow_9 : decode cX10_passNow 9 = .ok (.if_icmp .ge 13, 3) ∧ 12 = 9 + 3 := ⟨by decide +kernel, rfl⟩
theorem dX10_passNow_12 : decode cX10_passNow 12 = .ok (.aload_n 0, 1) ∧ 13 = 12 + 1 := ⟨by decide +kernel, rfl⟩
theorem dX10_passNow_13 : decode cX10_passNow 13 = .ok (.invokevirtual 145, 3) ∧ 16 = 13 + 3 := ⟨by decide +kernel, rfl⟩
theorem dX10_passNow_16 : decode cX10_passNow 16 = .ok (.iinc 3 1, 3) ∧ 19 = 16 + 3 := ⟨by decide +kernel, rfl⟩
theorem dX10_passNow_19 : decode cX10_passNow 19 = .ok (.goto (-12), 3) ∧ 22 = 19 + 3 := ⟨by decide +kernel, rfl⟩
theorem dX10_passNow_22 : decode cX10_passNow 22 = .ok (.aload_n 0, 1) ∧ 23 = 22 + 1 := ⟨by decide +kernel, rfl⟩
theorem dX10_passNow_23 : decode cX10_passNow 23 = .ok (.invokevirtual 141, 3) ∧ 26 = 23 + 3 := ⟨by decide +kernel, rfl⟩
theorem dX10_passNow_26 : decode cX10_passNow 26 = .ok (.iload_n 2, 1) ∧ 27 = 26 + 1 := ⟨by decide +kernel, rfl⟩
theorem dX10_passNow_27 : decode cX10_passNow 27 = .ok (.isub, 1) ∧ 28 = 27 + 1 := ⟨by decide +kernel, rfl⟩
theorem dX10_passNow_28 : decode cX10_passNow 28 = .ok (.ireturn, 1) ∧ 29 = 28 + 1 := ⟨by decide +kernel, rfl⟩
theorem dX10_goDown_0 : decode cX10_goDown 0 = .ok (.iconst 0, 1) ∧ 1 = 0 + 1 := ⟨by decide +kernel, rfl⟩
theorem dX10_goDown_1 : decode cX10_goDown 1 = .ok (.istore_n 3, 1) ∧ 2 = 1 + 1 := ⟨by decide +kernel, rfl⟩
theorem dX10_goDown_2 : decode cX10_goDown 2 = .ok (.iload_n 3, 1) ∧ 3 = 2 + 1 := ⟨by decide +kernel, rfl⟩
theorem dX10_goDown_3 : decode cX10_goDown 3 = .ok (.sipush 999, 3) ∧ 6 = 3 + 3 := ⟨by decide +kernel, rfl⟩
theorem dX10_goDown_6 : decode cX10_goDown 6 = .ok (.if_icmp .ge 24, 3) ∧ 9 = 6 + 3 := ⟨by decide +kernel, rfl⟩
theorem dX10_goDown_9 : decode cX10_goDown 9 = .ok (.aload_n 0, 1) ∧ 10 = 9 + 1 := ⟨by decide +kernel, rfl⟩
theorem dX10_goDown_10 : decode cX10_goDown 10 = .ok (.iload_n 1, 1) ∧ 11 = 10 + 1 := ⟨by decide +kernel, rfl⟩
theorem dX10_goDown_11 : decode cX10_goDown 11 = .ok (.invokevirtual 78, 3) ∧ 14 = 11 + 3 := ⟨by decide +kernel, rfl⟩
theorem dX10_goDown_14 : decode cX10_goDown 14 = .ok (.iload_n 2, 1) ∧ 15 = 14 + 1 := ⟨by decide +kernel, rfl⟩
theorem dX10_goDown_15 : decode cX10_goDown 15 = .ok (.i2l, 1) ∧ 16 = 15 + 1 := ⟨by decide +kernel, rfl⟩
theorem dX10_goDown_16 : decode cX10_goDown 16 = .ok (.lcmp, 1) ∧ 17 = 16 + 1 := ⟨by decide +kernel, rfl⟩
theorem dX10_goDown_17 : decode cX10_goDown 17 = .ok (.ifCond .le 13, 3) ∧ 20 = 17 + 3 := ⟨by decide +kernel, rfl⟩
theorem dX10_goDown_20 : decode cX10_goDown 20 = .ok (.aload_n 0, 1) ∧ 21 = 20 + 1 := ⟨by decide +kernel, rfl⟩
theorem dX10_goDown_21 : decode cX10_goDown 21 = .ok (.invokevirtual 145, 3) ∧ 24 = 21 + 3 := ⟨by decide +kernel, rfl⟩
theorem dX10_goDown_24 : decode cX10_goDown 24 = .ok (.iinc 3 1, 3) ∧ 27 = 24 + 3 := ⟨by decide +kernel, rfl⟩
theorem dX10_goDown_27 : decode cX10_goDown 27 = .ok (.goto (-25), 3) ∧ 30 = 27 + 3 := ⟨by decide +kernel, rfl⟩
theorem dX10_goDown_30 : decode cX10_goDown 30 = .ok (.aload_n 0, 1) ∧ 31 = 30 + 1 := ⟨by decide +kernel, rfl⟩
theorem dX10_goDown_31 : decode cX10_goDown 31 = .ok (.iload_n 1, 1) ∧ 32 = 31 + 1 := ⟨by decide +kernel, rfl⟩
theorem dX10_goDown_32 : decode cX10_goDown 32 = .ok (.invokevirtual 78, 3) ∧ 35 = 32 + 3 := ⟨by decide +kernel, rfl⟩
theorem dX10_goDown_35 : decode cX10_goDown 35 = .ok (.iload_n 2, 1) ∧ 36 = 35 + 1 := ⟨by decide +kernel, rfl⟩
theorem dX10_goDown_36 : decode cX10_goDown 36 = .ok (.i2l, 1) ∧ 37 = 36 + 1 := ⟨by decide +kernel, rfl⟩
theorem dX10_goDown_37 : decode cX10_goDown 37 = .ok (.lcmp, 1) ∧ 38 = 37 + 1 := ⟨by decide +kernel, rfl⟩
theorem dX10_goDown_38 : decode cX10_goDown 38 = .ok (.ifCond .gt 7, 3) ∧ 41 = 38 + 3 := ⟨by decide +kernel, rfl⟩
theorem dX10_goDown_41 : decode cX10_goDown 41 = .ok (.iload_n 3, 1) ∧ 42 = 41 + 1 := ⟨by decide +kernel, rfl⟩
theorem dX10_goDown_42 : decode cX10_goDown 42 = .ok (.goto 4, 3) ∧ 45 = 42 + 3 := ⟨by decide +kernel, rfl⟩
theorem dX10_goDown_45 : decode cX10_goDown 45 = .ok (.iconst (-1), 1) ∧ 46 = 45 + 1 := ⟨by decide +kernel, rfl⟩
theorem dX10_goDown_46 : decode cX10_goDown 46 = .ok (.ireturn, 1) ∧ 47 = 46 + 1 := ⟨by decide +kernel, rfl⟩
theorem dX10_canOpen_0 : decode cX10_canOpen 0 = .ok (.aload_n 0, 1) ∧ 1 = 0 + 1 := ⟨by decide +kernel, rfl⟩
theorem dX10_canOpen_1 : decode cX10_canOpen 1 = .ok (.iload_n 1, 1) ∧ 2 = 1 + 1 := ⟨by decide +kernel, rfl⟩
theorem dX10_canOpen_2 : decode cX10_canOpen 2 = .ok (.invokevirtual 99, 3) ∧ 5 = 2 + 3 := ⟨by decide +kernel, rfl⟩
theorem dX10_canOpen_5 : decode cX10_canOpen 5 = .ok (.ifCond .ne 15, 3) ∧ 8 = 5 + 3 := ⟨by decide +kernel, rfl⟩
theorem dX10_canOpen_8 : decode cX10_canOpen 8 = .ok (.aload_n 0, 1) ∧ 9 = 8 + 1 := ⟨by decide +kernel, rfl⟩
theorem dX10_canOpen_9 : decode cX10_canOpen 9 = .ok (.iload_n 1, 1) ∧ 10 = 9 + 1 := ⟨by decide +kernel, rfl⟩
theorem dX10_canOpen_10 : decode cX10_canOpen 10 = .ok (.invokevirtual 103, 3) ∧ 13 = 10 + 3 := ⟨by decide +kernel, rfl⟩
theorem dX10_canOpen_13 : decode cX10_canOpen 13 = .ok (.ifCond .eq 7, 3) ∧ 16 = 13 + 3 := ⟨by decide +kernel, rfl⟩
theorem dX10_canOpen_16 : decode cX10_canOpen 16 = .ok (.iconst 1, 1) ∧ 17 = 16 + 1 := ⟨by decide +kernel, rfl⟩
theorem dX10_canOpen_17 : decode cX10_canOpen 17 = .ok (.goto 4, 3) ∧ 20 = 17 + 3 := ⟨by decide +kernel, rfl⟩
theorem dX10_canOpen_20 : decode cX10_canOpen 20 = .ok (.iconst 0, 1) ∧ 21 = 20 + 1 := ⟨by decide +kernel, rfl⟩
theorem dX10_canOpen_21 : decode cX10_canOpen 21 = .ok (.ireturn, 1) ∧ 22 = 21 + 1 := ⟨by decide +kernel, rfl⟩
theorem dX10_turn_0 : decode cX10_turn 0 = .ok (.aload_n 0, 1) ∧ 1 = 0 + 1 := ⟨by decide +kernel, rfl⟩
theorem dX10_turn_1 : decode cX10_turn 1 = .ok (.getfield 7, 3) ∧ 4 = 1 + 3 := ⟨by decide +kernel, rfl⟩
theorem dX10_turn_4 : decode cX10_turn 4 = .ok (.iload_n 1, 1) ∧ 5 = 4 + 1 := ⟨by decide +kernel, rfl⟩
theorem dX10_turn_5 : decode cX10_turn 5 = .ok (.invokestatic 68, 3) ∧ 8 = 5 + 3 := ⟨by decide +kernel, rfl⟩
theorem dX10_turn_8 : decode cX10_turn 8 = .ok (.iconst 4, 1) ∧ 9 = 8 + 1 := ⟨by decide +kernel, rfl⟩
theorem dX10_turn_9 : decode cX10_turn 9 = .ok (.iadd, 1) ∧ 10 = 9 + 1 := ⟨by decide +kernel, rfl⟩
theorem dX10_turn_10 : decode cX10_turn 10 = .ok (.iload_n 2, 1) ∧ 11 = 10 + 1 := ⟨by decide +kernel, rfl⟩
theorem dX10_turn_11 : decode cX10_turn 11 = .ok (.i2l, 1) ∧ 12 = 11 + 1 := ⟨by decide +kernel, rfl⟩
theorem dX10_turn_12 : decode cX10_turn 12 = .ok (.lastore, 1) ∧ 13 = 12 + 1 := ⟨by decide +kernel, rfl⟩
theorem dX10_turn_13 : decode cX10_turn 13 = .ok (.aload_n 0, 1) ∧ 14 = 13 + 1 := ⟨by decide +kernel, rfl⟩
theorem dX10_turn_14 : decode cX10_turn 14 = .ok (.iload_n 1, 1) ∧ 15 = 14 + 1 := ⟨by decide +kernel, rfl⟩
theorem dX10_turn_15 : decode cX10_turn 15 = .ok (.invokevirtual 90, 3) ∧ 18 = 15 + 3 := ⟨by decide +kernel, rfl⟩
theorem dX10_turn_18 : decode cX10_turn 18 = .ok (.l2i, 1) ∧ 19 = 18 + 1 := ⟨by decide +kernel, rfl⟩
theorem dX10_turn_19 : decode cX10_turn 19 = .ok (.ireturn, 1) ∧ 20 = 19 + 1 := ⟨by decide +kernel, rfl⟩
theorem dX10_open_0 : decode cX10_open 0 = .ok (.aload_n 0, 1) ∧ 1 = 0 + 1 := ⟨by decide +kernel, rfl⟩
theorem dX10_open_1 : decode cX10_open 1 = .ok (.aload_n 0, 1) ∧ 2 = 1 + 1 := ⟨by decide +kernel, rfl⟩
theorem dX10_open_2 : decode cX10_open 2 = .ok (.iload_n 1, 1) ∧ 3 = 2 + 1 := ⟨by decide +kernel, rfl⟩
theorem dX10_open_3 : decode cX10_open 3 = .ok (.invokevirtual 148, 3) ∧ 6 = 3 + 3 := ⟨by decide +kernel, rfl⟩
theorem dX10_open_6 : decode cX10_open 6 = .ok (.ifCond .ne 7, 3) ∧ 9 = 6 + 3 := ⟨by decide +kernel, rfl⟩
theorem dX10_open_9 : decode cX10_open 9 = .ok (.iconst 1, 1) ∧ 10 = 9 + 1 := ⟨by decide +kernel, rfl⟩
theorem dX10_open_10 : decode cX10_open 10 = .ok (.goto 4, 3) ∧ 13 = 10 + 3 := ⟨by decide +kernel, rfl⟩
theorem dX10_open_13 : decode cX10_open 13 = .ok (.iconst 0, 1) ∧ 14 = 13 + 1 := ⟨by decide +kernel, rfl⟩
theorem dX10_open_14 : decode cX10_open 14 = .ok (.iconst 1, 1) ∧ 15 = 14 + 1 := ⟨by decide +kernel, rfl⟩
theorem dX10_open_15 : decode cX10_open 15 = .ok (.invokevirtual 151, 3) ∧ 18 = 15 + 3 := ⟨by decide +kernel, rfl⟩
theorem dX10_open_18 : decode cX10_open 18 = .ok (.ifCond .ne 24, 3) ∧ 21 = 18 + 3 := ⟨by decide +kernel, rfl⟩
theorem dX10_open_21 : decode cX10_open 21 = .ok (.aload_n 0, 1) ∧ 22 = 21 + 1 := ⟨by decide +kernel, rfl⟩
theorem dX10_open_22 : decode cX10_open 22 = .ok (.aload_n 0, 1) ∧ 23 = 22 + 1 := ⟨by decide +kernel, rfl⟩
theorem dX10_open_23 : decode cX10_open 23 = .ok (.iload_n 1, 1) ∧ 24 = 23 + 1 := ⟨by decide +kernel, rfl⟩
theorem dX10_open_24 : decode cX10_open 24 = .ok (.invokevirtual 155, 3) ∧ 27 = 24 + 3 := ⟨by decide +kernel, rfl⟩
theorem dX10_open_27 : decode cX10_open 27 = .ok (.ifCond .ne 7, 3) ∧ 30 = 27 + 3 := ⟨by decide +kernel, rfl⟩
theorem dX10_open_30 : decode cX10_open 30 = .ok (.iconst 1, 1) ∧ 31 = 30 + 1 := ⟨by decide +kernel, rfl⟩
theorem dX10_open_31 : decode cX10_open 31 = .ok (.goto 4, 3) ∧ 34 = 31 + 3 := ⟨by decide +kernel, rfl⟩
theorem dX10_open_34 : decode cX10_open 34 = .ok (.iconst 0, 1) ∧ 35 = 34 + 1 := ⟨by decide +kernel, rfl⟩
theorem dX10_open_35 : decode cX10_open 35 = .ok (.iconst 2, 1) ∧ 36 = 35 + 1 := ⟨by decide +kernel, rfl⟩
theorem dX10_open_36 : decode cX10_open 36 = .ok (.invokevirtual 151, 3) ∧ 39 = 36 + 3 := ⟨by decide +kernel, rfl⟩
theorem dX10_open_39 : decode cX10_open 39 = .ok (.ifCond .eq 5, 3) ∧ 42 = 39 + 3 := ⟨by decide +kernel, rfl⟩
theorem dX10_open_42 : decode cX10_open 42 = .ok (.iconst 0, 1) ∧ 43 = 42 + 1 := ⟨by decide +kernel, rfl⟩
theorem dX10_open_43 : decode cX10_open 43 = .ok (.ireturn, 1) ∧ 44 = 43 + 1 := ⟨by decide +kernel, rfl⟩
theorem dX10_open_44 : decode cX10_open 44 = .ok (.aload_n 0, 1) ∧ 45 = 44 + 1 := ⟨by decide +kernel, rfl⟩
theorem dX10_open_45 : decode cX10_open 45 = .ok (.invokevirtual 158, 3) ∧ 48 = 45 + 3 := ⟨by decide +kernel, rfl⟩
theorem dX10_open_48 : decode cX10_open 48 = .ok (.aload_n 0, 1) ∧ 49 = 48 + 1 := ⟨by decide +kernel, rfl⟩
theorem dX10_open_49 : decode cX10_open 49 = .ok (.iload_n 1, 1) ∧ 50 = 49 + 1 := ⟨by decide +kernel, rfl⟩
theorem dX10_open_50 : decode cX10_open 50 = .ok (.iconst 1, 1) ∧ 51 = 50 + 1 := ⟨by decide +kernel, rfl⟩
theorem dX10_open_51 : decode cX10_open 51 = .ok (.invokevirtual 161, 3) ∧ 54 = 51 + 3 := ⟨by decide +kernel, rfl⟩
theorem dX10_open_54 : decode cX10_open 54 = .ok (.ireturn, 1) ∧ 55 = 54 + 1 := ⟨by decide +kernel, rfl⟩
theorem dX10_close_0 : decode cX10_close 0 = .ok (.aload_n 0, 1) ∧ 1 = 0 + 1 := ⟨by decide +kernel, rfl⟩
theorem dX10_close_1 : decode cX10_close 1 = .ok (.aload_n 0, 1) ∧ 2 = 1 + 1 := ⟨by decide +kernel, rfl⟩
theorem dX10_close_2 : decode cX10_close 2 = .ok (.iload_n 1, 1) ∧ 3 = 2 + 1 := ⟨by decide +kernel, rfl⟩
theorem dX10_close_3 : decode cX10_close 3 = .ok (.invokevirtual 148, 3) ∧ 6 = 3 + 3 := ⟨by decide +kernel, rfl⟩
theorem dX10_close_6 : decode cX10_close 6 = .ok (.ifCond .ne 7, 3) ∧ 9 = 6 + 3 := ⟨by decide +kernel, rfl⟩
theorem dX10_close_9 : decode cX10_close 9 = .ok (.iconst 1, 1) ∧ 10 = 9 + 1 := ⟨by decide +kernel, rfl⟩
theorem dX10_close_10 : decode cX10_close 10 = .ok (.goto 4, 3) ∧ 13 = 10 + 3 := ⟨by decide +kernel, rfl⟩
theorem dX10_close_13 : decode cX10_close 13 = .ok (.iconst 0, 1) ∧ 14 = 13 + 1 := ⟨by decide +kernel, rfl⟩
theorem dX10_close_14 : decode cX10_close 14 = .ok (.iconst 1, 1) ∧ 15 = 14 + 1 := ⟨by decide +kernel, rfl⟩
theorem dX10_close_15 : decode cX10_close 15 = .ok (.invokevirtual 151, 3) ∧ 18 = 15 + 3 := ⟨by decide +kernel, rfl⟩
theorem dX10_close_18 : decode cX10_close 18 = .ok (.ifCond .ne 24, 3) ∧ 21 = 18 + 3 := ⟨by decide +kernel, rfl⟩
theorem dX10_close_21 : decode cX10_close 21 = .ok (.aload_n 0, 1) ∧ 22 = 21 + 1 := ⟨by decide +kernel, rfl⟩
theorem dX10_close_22 : decode cX10_close 22 = .ok (.aload_n 0, 1) ∧ 23 = 22 + 1 := ⟨by decide +kernel, rfl⟩
theorem dX10_close_23 : decode cX10_close 23 = .ok (.iload_n 1, 1) ∧ 24 = 23 + 1 := ⟨by decide +kernel, rfl⟩
theorem dX10_close_24 : decode cX10_close 24 = .ok (.invokevirtual 99, 3) ∧ 27 = 24 + 3 := ⟨by decide +kernel, rfl⟩
theorem dX10_close_27 : decode cX10_close 27 = .ok (.ifCond .ne 7, 3) ∧ 30 = 27 + 3 := ⟨by decide +kernel, rfl⟩
theorem dX10_close_30 : decode cX10_close 30 = .ok (.iconst 1, 1) ∧ 31 = 30 + 1 := ⟨by decide +kernel, rfl⟩
theorem dX10_close_31 : decode cX10_close 31 = .ok (.goto 4, 3) ∧ 34 = 31 + 3 := ⟨by decide +kernel, rfl⟩
theorem dX10_close_34 : decode cX10_close 34 = .ok (.iconst 0, 1) ∧ 35 = 34 + 1 := ⟨by decide +kernel, rfl⟩
theorem dX10_close_35 : decode cX10_close 35 = .ok (.iconst 2, 1) ∧ 36 = 35 + 1 := ⟨by decide +kernel, rfl⟩
theorem dX10_close_36 : decode cX10_close 36 = .ok (.invokevirtual 151, 3) ∧ 39 = 36 + 3 := ⟨by decide +kernel, rfl⟩
theorem dX10_close_39 : decode cX10_close 39 = .ok (.ifCond .eq 5, 3) ∧ 42 = 39 + 3 := ⟨by decide +kernel, rfl⟩
theorem dX10_close_42 : decode cX10_close 42 = .ok (.iconst 0, 1) ∧ 43 = 42 + 1 := ⟨by decide +kernel, rfl⟩
theorem dX10_close_43 : decode cX10_close 43 = .ok (.ireturn, 1) ∧ 44 = 43 + 1 := ⟨by decide +kernel, rfl⟩
theorem dX10_close_44 : decode cX10_close 44 = .ok (.aload_n 0, 1) ∧ 45 = 44 + 1 := ⟨by decide +kernel, rfl⟩
theorem dX10_close_45 : decode cX10_close 45 = .ok (.invokevirtual 158, 3) ∧ 48 = 45 + 3 := ⟨by decide +kernel, rfl⟩
theorem dX10_close_48 : decode cX10_close 48 = .ok (.aload_n 0, 1) ∧ 49 = 48 + 1 := ⟨by decide +kernel, rfl⟩
theorem dX10_close_49 : decode cX10_close 49 = .ok (.iload_n 1, 1) ∧ 50 = 49 + 1 := ⟨by decide +kernel, rfl⟩
theorem dX10_close_50 : decode cX10_close 50 = .ok (.iconst 0, 1) ∧ 51 = 50 + 1 := ⟨by decide +kernel, rfl⟩
theorem dX10_close_51 : decode cX10_close 51 = .ok (.invokevirtual 161, 3) ∧ 54 = 51 + 3 := ⟨by decide +kernel, rfl⟩
theorem dX10_close_54 : decode cX10_close 54 = .ok (.ireturn, 1) ∧ 55 = 54 + 1 := ⟨by decide +kernel, rfl⟩
theorem dX10_canStart_0 : decode cX10_canStart 0 = .ok (.aload_n 0, 1) ∧ 1 = 0 + 1 := ⟨by decide +kernel, rfl⟩
theorem dX10_canStart_1 : decode cX10_canStart 1 = .ok (.iload_n 1, 1) ∧ 2 = 1 + 1 := ⟨by decide +kernel, rfl⟩
theorem dX10_canStart_2 : decode cX10_canStart 2 = .ok (.invokevirtual 135, 3) ∧ 5 = 2 + 3 := ⟨by decide +kernel, rfl⟩
theorem dX10_canStart_5 : decode cX10_canStart 5 = .ok (.ifCond .ne 23, 3) ∧ 8 = 5 + 3 := ⟨by decide +kernel, rfl⟩
theorem dX10_canStart_8 : decode cX10_canStart 8 = .ok (.aload_n 0, 1) ∧ 9 = 8 + 1 := ⟨by decide +kernel, rfl⟩
theorem dX10_canStart_9 : decode cX10_canStart 9 = .ok (.iload_n 1, 1) ∧ 10 = 9 + 1 := ⟨by decide +kernel, rfl⟩
theorem dX10_canStart_10 : decode cX10_canStart 10 = .ok (.invokevirtual 119, 3) ∧ 13 = 10 + 3 := ⟨by decide +kernel, rfl⟩
theorem dX10_canStart_13 : decode cX10_canStart 13 = .ok (.ifCond .eq 15, 3) ∧ 16 = 13 + 3 := ⟨by decide +kernel, rfl⟩
theorem dX10_canStart_16 : decode cX10_canStart 16 = .ok (.aload_n 0, 1) ∧ 17 = 16 + 1 := ⟨by decide +kernel, rfl⟩
theorem dX10_canStart_17 : decode cX10_canStart 17 = .ok (.iload_n 1, 1) ∧ 18 = 17 + 1 := ⟨by decide +kernel, rfl⟩
theorem dX10_canStart_18 : decode cX10_canStart 18 = .ok (.invokevirtual 122, 3) ∧ 21 = 18 + 3 := ⟨by decide +kernel, rfl⟩
theorem dX10_canStart_21 : decode cX10_canStart 21 = .ok (.ifCond .eq 7, 3) ∧ 24 = 21 + 3 := ⟨by decide +kernel, rfl⟩
theorem dX10_canStart_24 : decode cX10_canStart 24 = .ok (.iconst 1, 1) ∧ 25 = 24 + 1 := ⟨by decide +kernel, rfl⟩
theorem dX10_canStart_25 : decode cX10_canStart 25 = .ok (.goto 4, 3) ∧ 28 = 25 + 3 := ⟨by decide +kernel, rfl⟩
theorem dX10_canStart_28 : decode cX10_canStart 28 = .ok (.iconst 0, 1) ∧ 29 = 28 + 1 := ⟨by decide +kernel, rfl⟩
theorem dX10_canStart_29 : decode cX10_canStart 29 = .ok (.ireturn, 1) ∧ 30 = 29 + 1 := ⟨by decide +kernel, rfl⟩
theorem dX10_run_0 : decode cX10_run 0 = .ok (.aload_n 0, 1) ∧ 1 = 0 + 1 := ⟨by decide +kernel, rfl⟩
theorem dX10_run_1 : decode cX10_run 1 = .ok (.getfield 7, 3) ∧ 4 = 1 + 3 := ⟨by decide +kernel, rfl⟩
theorem dX10_run_4 : decode cX10_run 4 = .ok (.iload_n 1, 1) ∧ 5 = 4 + 1 := ⟨by decide +kernel, rfl⟩
theorem dX10_run_5 : decode cX10_run 5 = .ok (.invokestatic 71, 3) ∧ 8 = 5 + 3 := ⟨by decide +kernel, rfl⟩
theorem dX10_run_8 : decode cX10_run 8 = .ok (.bipush 6, 2) ∧ 10 = 8 + 2 := ⟨by decide +kernel, rfl⟩
theorem dX10_run_10 : decode cX10_run 10 = .ok (.iadd, 1) ∧ 11 = 10 + 1 := ⟨by decide +kernel, rfl⟩
theorem dX10_run_11 : decode cX10_run 11 = .ok (.iload_n 2, 1) ∧ 12 = 11 + 1 := ⟨by decide +kernel, rfl⟩
theorem dX10_run_12 : decode cX10_run 12 = .ok (.i2l, 1) ∧ 13 = 12 + 1 := ⟨by decide +kernel, rfl⟩
theorem dX10_run_13 : decode cX10_run 13 = .ok (.lastore, 1) ∧ 14 = 13 + 1 := ⟨by decide +kernel, rfl⟩
theorem dX10_run_14 : decode cX10_run 14 = .ok (.aload_n 0, 1) ∧ 15 = 14 + 1 := ⟨by decide +kernel, rfl⟩
theorem dX10_run_15 : decode cX10_run 15 = .ok (.aload_n 0, 1) ∧ 16 = 15 + 1 := ⟨by decide +kernel, rfl⟩
theorem dX10_run_16 : decode cX10_run 16 = .ok (.iload_n 1, 1) ∧ 17 = 16 + 1 := ⟨by decide +kernel, rfl⟩
theorem dX10_run_17 : decode cX10_run 17 = .ok (.iconst 0, 1) ∧ 18 = 17 + 1 := ⟨by decide +kernel, rfl⟩
theorem dX10_run_18 : decode cX10_run 18 = .ok (.invokevirtual 87, 3) ∧ 21 = 18 + 3 := ⟨by decide +kernel, rfl⟩
theorem dX10_run_21 : decode cX10_run 21 = .ok (.invokevirtual 78, 3) ∧ 24 = 21 + 3 := ⟨by decide +kernel, rfl⟩
theorem dX10_run_24 : decode cX10_run 24 = .ok (.l2i, 1) ∧ 25 = 24 + 1 := ⟨by decide +kernel, rfl⟩
theorem dX10_run_25 : decode cX10_run 25 = .ok (.ireturn, 1) ∧ 26 = 25 + 1 := ⟨by decide +kernel, rfl⟩
theorem dX10_start_0 : decode cX10_start 0 = .ok (.aload_n 0, 1) ∧ 1 = 0 + 1 := ⟨by decide +kernel, rfl⟩
theorem dX10_start_1 : decode cX10_start 1 = .ok (.aload_n 0, 1) ∧ 2 = 1 + 1 := ⟨by decide +kernel, rfl⟩
theorem dX10_start_2 : decode cX10_start 2 = .ok (.iload_n 1, 1) ∧ 3 = 2 + 1 := ⟨by decide +kernel, rfl⟩
theorem dX10_start_3 : decode cX10_start 3 = .ok (.invokevirtual 164, 3) ∧ 6 = 3 + 3 := ⟨by decide +kernel, rfl⟩
theorem dX10_start_6 : decode cX10_start 6 = .ok (.ifCond .ne 7, 3) ∧ 9 = 6 + 3 := ⟨by decide +kernel, rfl⟩
theorem dX10_start_9 : decode cX10_start 9 = .ok (.iconst 1, 1) ∧ 10 = 9 + 1 := ⟨by decide +kernel, rfl⟩
theorem dX10_start_10 : decode cX10_start 10 = .ok (.goto 4, 3) ∧ 13 = 10 + 3 := ⟨by decide +kernel, rfl⟩
theorem dX10_start_13 : decode cX10_start 13 = .ok (.iconst 0, 1) ∧ 14 = 13 + 1 := ⟨by decide +kernel, rfl⟩
theorem dX10_start_14 : decode cX10_start 14 = .ok (.iconst 1, 1) ∧ 15 = 14 + 1 := ⟨by decide +kernel, rfl⟩
theorem dX10_start_15 : decode cX10_start 15 = .ok (.invokevirtual 151, 3) ∧ 18 = 15 + 3 := ⟨by decide +kernel, rfl⟩
theorem dX10_start_18 : decode cX10_start 18 = .ok (.ifCond .ne 24, 3) ∧ 21 = 18 + 3 := ⟨by decide +kernel, rfl⟩
theorem dX10_start_21 : decode cX10_start 21 = .ok (.aload_n 0, 1) ∧ 22 = 21 + 1 := ⟨by decide +kernel, rfl⟩
theorem dX10_start_22 : decode cX10_start 22 = .ok (.aload_n 0, 1) ∧ 23 = 22 + 1 := ⟨by decide +kernel, rfl⟩
theorem dX10_start_23 : decode cX10_start 23 = .ok (.iload_n 1, 1) ∧ 24 = 23 + 1 := ⟨by decide +kernel, rfl⟩
theorem dX10_start_24 : decode cX10_start 24 = .ok (.invokevirtual 167, 3) ∧ 27 = 24 + 3 := ⟨by decide +kernel, rfl⟩
theorem dX10_start_27 : decode cX10_start 27 = .ok (.ifCond .ne 7, 3) ∧ 30 = 27 + 3 := ⟨by decide +kernel, rfl⟩
theorem dX10_start_30 : decode cX10_start 30 = .ok (.iconst 1, 1) ∧ 31 = 30 + 1 := ⟨by decide +kernel, rfl⟩
theorem dX10_start_31 : decode cX10_start 31 = .ok (.goto 4, 3) ∧ 34 = 31 + 3 := ⟨by decide +kernel, rfl⟩
theorem dX10_start_34 : decode cX10_start 34 = .ok (.iconst 0, 1) ∧ 35 = 34 + 1 := ⟨by decide +kernel, rfl⟩
theorem dX10_start_35 : decode cX10_start 35 = .ok (.iconst 2, 1) ∧ 36 = 35 + 1 := ⟨by decide +kernel, rfl⟩
theorem dX10_start_36 : decode cX10_start 36 = .ok (.invokevirtual 151, 3) ∧ 39 = 36 + 3 := ⟨by decide +kernel, rfl⟩
theorem dX10_start_39 : decode cX10_start 39 = .ok (.ifCond .eq 5, 3) ∧ 42 = 39 + 3 := ⟨by decide +kernel, rfl⟩
theorem dX10_start_42 : decode cX10_start 42 = .ok (.iconst 0, 1) ∧ 43 = 42 + 1 := ⟨by decide +kernel, rfl⟩
theorem dX10_start_43 : decode cX10_start 43 = .ok (.ireturn, 1) ∧ 44 = 43 + 1 := ⟨by decide +kernel, rfl⟩
theorem dX10_start_44 : decode cX10_start 44 = .ok (.aload_n 0, 1) ∧ 45 = 44 + 1 := ⟨by decide +kernel, rfl⟩
theorem dX10_start_45 : decode cX10_start 45 = .ok (.invokevirtual 158, 3) ∧ 48 = 45 + 3 := ⟨by decide +kernel, rfl⟩
theorem dX10_start_48 : decode cX10_start 48 = .ok (.aload_n 0, 1) ∧ 49 = 48 + 1 := ⟨by decide +kernel, rfl⟩
theorem dX10_start_49 : decode cX10_start 49 = .ok (.iload_n 1, 1) ∧ 50 = 49 + 1 := ⟨by decide +kernel, rfl⟩
theorem dX10_start_50 : decode cX10_start 50 = .ok (.iconst 1, 1) ∧ 51 = 50 + 1 := ⟨by decide +kernel, rfl⟩
theorem dX10_start_51 : decode cX10_start 51 = .ok (.invokevirtual 170, 3) ∧ 54 = 51 + 3 := ⟨by decide +kernel, rfl⟩
theorem dX10_start_54 : decode cX10_start 54 = .ok (.ireturn, 1) ∧ 55 = 54 + 1 := ⟨by decide +kernel, rfl⟩
theorem dX10_stop_0 : decode cX10_stop 0 = .ok (.aload_n 0, 1) ∧ 1 = 0 + 1 := ⟨by decide +kernel, rfl⟩
theorem dX10_stop_1 : decode cX10_stop 1 = .ok (.aload_n 0, 1) ∧ 2 = 1 + 1 := ⟨by decide +kernel, rfl⟩
theorem dX10_stop_2 : decode cX10_stop 2 = .ok (.iload_n 1, 1) ∧ 3 = 2 + 1 := ⟨by decide +kernel, rfl⟩
theorem dX10_stop_3 : decode cX10_stop 3 = .ok (.invokevirtual 164, 3) ∧ 6 = 3 + 3 := ⟨by decide +kernel, rfl⟩
theorem dX10_stop_6 : decode cX10_stop 6 = .ok (.ifCond .ne 7, 3) ∧ 9 = 6 + 3 := ⟨by decide +kernel, rfl⟩
theorem dX10_stop_9 : decode cX10_stop 9 = .ok (.iconst 1, 1) ∧ 10 = 9 + 1 := ⟨by decide +kernel, rfl⟩
theorem dX10_stop_10 : decode cX10_stop 10 = .ok (.goto 4, 3) ∧ 13 = 10 + 3 := ⟨by decide +kernel, rfl⟩
theorem dX10_stop_13 : decode cX10_stop 13 = .ok (.iconst 0, 1) ∧ 14 = 13 + 1 := ⟨by decide +kernel, rfl⟩
theorem dX10_stop_14 : decode cX10_stop 14 = .ok (.iconst 1, 1) ∧ 15 = 14 + 1 := ⟨by decide +kernel, rfl⟩
theorem dX10_stop_15 : decode cX10_stop 15 = .ok (.invokevirtual 151, 3) ∧ 18 = 15 + 3 := ⟨by decide +kernel, rfl⟩
theorem dX10_stop_18 : decode cX10_stop 18 = .ok (.ifCond .ne 24, 3) ∧ 21 = 18 + 3 := ⟨by decide +kernel, rfl⟩
theorem dX10_stop_21 : decode cX10_stop 21 = .ok (.aload_n 0, 1) ∧ 22 = 21 + 1 := ⟨by decide +kernel, rfl⟩
theorem dX10_stop_22 : decode cX10_stop 22 = .ok (.aload_n 0, 1) ∧ 23 = 22 + 1 := ⟨by decide +kernel, rfl⟩
theorem dX10_stop_23 : decode cX10_stop 23 = .ok (.iload_n 1, 1) ∧ 24 = 23 + 1 := ⟨by decide +kernel, rfl⟩
theorem dX10_stop_24 : decode cX10_stop 24 = .ok (.invokevirtual 135, 3) ∧ 27 = 24 + 3 := ⟨by decide +kernel, rfl⟩
theorem dX10_stop_27 : decode cX10_stop 27 = .ok (.ifCond .ne 7, 3) ∧ 30 = 27 + 3 := ⟨by decide +kernel, rfl⟩
theorem dX10_stop_30 : decode cX10_stop 30 = .ok (.iconst 1, 1) ∧ 31 = 30 + 1 := ⟨by decide +kernel, rfl⟩
theorem dX10_stop_31 : decode cX10_stop 31 = .ok (.goto 4, 3) ∧ 34 = 31 + 3 := ⟨by decide +kernel, rfl⟩
theorem dX10_stop_34 : decode cX10_stop 34 = .ok (.iconst 0, 1) ∧ 35 = 34 + 1 := ⟨by decide +kernel, rfl⟩
theorem dX10_stop_35 : decode cX10_stop 35 = .ok (.iconst 2, 1) ∧ 36 = 35 + 1 := ⟨by decide +kernel, rfl⟩
theorem dX10_stop_36 : decode cX10_stop 36 = .ok (.invokevirtual 151, 3) ∧ 39 = 36 + 3 := ⟨by decide +kernel, rfl⟩
theorem dX10_stop_39 : decode cX10_stop 39 = .ok (.ifCond .eq 5, 3) ∧ 42 = 39 + 3 := ⟨by decide +kernel, rfl⟩
theorem dX10_stop_42 : decode cX10_stop 42 = .ok (.iconst 0, 1) ∧ 43 = 42 + 1 := ⟨by decide +kernel, rfl⟩
theorem dX10_stop_43 : decode cX10_stop 43 = .ok (.ireturn, 1) ∧ 44 = 43 + 1 := ⟨by decide +kernel, rfl⟩
theorem dX10_stop_44 : decode cX10_stop 44 = .ok (.aload_n 0, 1) ∧ 45 = 44 + 1 := ⟨by decide +kernel, rfl⟩
theorem dX10_stop_45 : decode cX10_stop 45 = .ok (.invokevirtual 158, 3) ∧ 48 = 45 + 3 := ⟨by decide +kernel, rfl⟩
theorem dX10_stop_48 : decode cX10_stop 48 = .ok (.aload_n 0, 1) ∧ 49 = 48 + 1 := ⟨by decide +kernel, rfl⟩
theorem dX10_stop_49 : decode cX10_stop 49 = .ok (.iload_n 1, 1) ∧ 50 = 49 + 1 := ⟨by decide +kernel, rfl⟩
theorem dX10_stop_50 : decode cX10_stop 50 = .ok (.iconst 0, 1) ∧ 51 = 50 + 1 := ⟨by decide +kernel, rfl⟩
theorem dX10_stop_51 : decode cX10_stop 51 = .ok (.invokevirtual 170, 3) ∧ 54 = 51 + 3 := ⟨by decide +kernel, rfl⟩
theorem dX10_stop_54 : decode cX10_stop 54 = .ok (.ireturn, 1) ∧ 55 = 54 + 1 := ⟨by decide +kernel, rfl⟩
theorem dX10_pass_0 : decode cX10_pass 0 = .ok (.aload_n 0, 1) ∧ 1 = 0 + 1 := ⟨by decide +kernel, rfl⟩
theorem dX10_pass_1 : decode cX10_pass 1 = .ok (.iload_n 1, 1) ∧ 2 = 1 + 1 := ⟨by decide +kernel, rfl⟩
theorem dX10_pass_2 : decode cX10_pass 2 = .ok (.invokestatic 173, 3) ∧ 5 = 2 + 3 := ⟨by decide +kernel, rfl⟩
theorem dX10_pass_5 : decode cX10_pass 5 = .ok (.ifCond .ne 7, 3) ∧ 8 = 5 + 3 := ⟨by decide +kernel, rfl⟩
theorem dX10_pass_8 : decode cX10_pass 8 = .ok (.iconst 1, 1) ∧ 9 = 8 + 1 := ⟨by decide +kernel, rfl⟩
theorem dX10_pass_9 : decode cX10_pass 9 = .ok (.goto 4, 3) ∧ 12 = 9 + 3 := ⟨by decide +kernel, rfl⟩
theorem dX10_pass_12 : decode cX10_pass 12 = .ok (.iconst 0, 1) ∧ 13 = 12 + 1 := ⟨by decide +kernel, rfl⟩
theorem dX10_pass_13 : decode cX10_pass 13 = .ok (.iconst 1, 1) ∧ 14 = 13 + 1 := ⟨by decide +kernel, rfl⟩
theorem dX10_pass_14 : decode cX10_pass 14 = .ok (.invokevirtual 151, 3) ∧ 17 = 14 + 3 := ⟨by decide +kernel, rfl⟩
theorem dX10_pass_17 : decode cX10_pass 17 = .ok (.ifCond .eq 5, 3) ∧ 20 = 17 + 3 := ⟨by decide +kernel, rfl⟩
theorem dX10_pass_20 : decode cX10_pass 20 = .ok (.iconst 0, 1) ∧ 21 = 20 + 1 := ⟨by decide +kernel, rfl⟩
theorem dX10_pass_21 : decode cX10_pass 21 = .ok (.ireturn, 1) ∧ 22 = 21 + 1 := ⟨by decide +kernel, rfl⟩
theorem dX10_pass_22 : decode cX10_pass 22 = .ok (.aload_n 0, 1) ∧ 23 = 22 + 1 := ⟨by decide +kernel, rfl⟩
theorem dX10_pass_23 : decode cX10_pass 23 = .ok (.invokevirtual 158, 3) ∧ 26 = 23 + 3 := ⟨by decide +kernel, rfl⟩
theorem dX10_pass_26 : decode cX10_pass 26 = .ok (.aload_n 0, 1) ∧ 27 = 26 + 1 := ⟨by decide +kernel, rfl⟩
theorem dX10_pass_27 : decode cX10_pass 27 = .ok (.iload_n 1, 1) ∧ 28 = 27 + 1 := ⟨by decide +kernel, rfl⟩
theorem dX10_pass_28 : decode cX10_pass 28 = .ok (.invokevirtual 176, 3) ∧ 31 = 28 + 3 := ⟨by decide +kernel, rfl⟩
theorem dX10_pass_31 : decode cX10_pass 31 = .ok (.ireturn, 1) ∧ 32 = 31 + 1 := ⟨by decide +kernel, rfl⟩
theorem dX10_passUntil_0 : decode cX10_passUntil 0 = .ok (.aload_n 0, 1) ∧ 1 = 0 + 1 := ⟨by decide +kernel, rfl⟩
theorem dX10_passUntil_1 : decode cX10_passUntil 1 = .ok (.aload_n 0, 1) ∧ 2 = 1 + 1 := ⟨by decide +kernel, rfl⟩
theorem dX10_passUntil_2 : decode cX10_passUntil 2 = .ok (.iload_n 1, 1) ∧ 3 = 2 + 1 := ⟨by decide +kernel, rfl⟩
theorem dX10_passUntil_3 : decode cX10_passUntil 3 = .ok (.invokevirtual 179, 3) ∧ 6 = 3 + 3 := ⟨by decide +kernel, rfl⟩
theorem dX10_passUntil_6 : decode cX10_passUntil 6 = .ok (.ifCond .ne 7, 3) ∧ 9 = 6 + 3 := ⟨by decide +kernel, rfl⟩
theorem dX10_passUntil_9 : decode cX10_passUntil 9 = .ok (.iconst 1, 1) ∧ 10 = 9 + 1 := ⟨by decide +kernel, rfl⟩
theorem dX10_passUntil_10 : decode cX10_passUntil 10 = .ok (.goto 4, 3) ∧ 13 = 10 + 3 := ⟨by decide +kernel, rfl⟩
theorem dX10_passUntil_13 : decode cX10_passUntil 13 = .ok (.iconst 0, 1) ∧ 14 = 13 + 1 := ⟨by decide +kernel, rfl⟩
theorem dX10_passUntil_14 : decode cX10_passUntil 14 = .ok (.iconst 1, 1) ∧ 15 = 14 + 1 := ⟨by decide +kernel, rfl⟩
theorem dX10_passUntil_15 : decode cX10_passUntil 15 = .ok (.invokevirtual 151, 3) ∧ 18 = 15 + 3 := ⟨by decide +kernel, rfl⟩
theorem dX10_passUntil_18 : decode cX10_passUntil 18 = .ok (.ifCond .ne 23, 3) ∧ 21 = 18 + 3 := ⟨by decide +kernel, rfl⟩
theorem dX10_passUntil_21 : decode cX10_passUntil 21 = .ok (.aload_n 0, 1) ∧ 22 = 21 + 1 := ⟨by decide +kernel, rfl⟩
theorem dX10_passUntil_22 : decode cX10_passUntil 22 = .ok (.iload_n 2, 1) ∧ 23 = 22 + 1 := ⟨by decide +kernel, rfl⟩
theorem dX10_passUntil_23 : decode cX10_passUntil 23 = .ok (.invokestatic 182, 3) ∧ 26 = 23 + 3 := ⟨by decide +kernel, rfl⟩
theorem dX10_passUntil_26 : decode cX10_passUntil 26 = .ok (.ifCond .ne 7, 3) ∧ 29 = 26 + 3 := ⟨by decide +kernel, rfl⟩
theorem dX10_passUntil_29 : decode cX10_passUntil 29 = .ok (.iconst 1, 1) ∧ 30 = 29 + 1 := ⟨by decide +kernel, rfl⟩
theorem dX10_passUntil_30 : decode cX10_passUntil 30 = .ok (.goto 4, 3) ∧ 33 = 30 + 3 := ⟨by decide +kernel, rfl⟩
theorem dX10_passUntil_33 : decode cX10_passUntil 33 = .ok (.iconst 0, 1) ∧ 34 = 33 + 1 := ⟨by decide +kernel, rfl⟩
theorem dX10_passUntil_34 : decode cX10_passUntil 34 = .ok (.iconst 2, 1) ∧ 35 = 34 + 1 := ⟨by decide +kernel, rfl⟩
theorem dX10_passUntil_35 : decode cX10_passUntil 35 = .ok (.invokevirtual 151, 3) ∧ 38 = 35 + 3 := ⟨by decide +kernel, rfl⟩
theorem dX10_passUntil_38 : decode cX10_passUntil 38 = .ok (.ifCond .eq 5, 3) ∧ 41 = 38 + 3 := ⟨by decide +kernel, rfl⟩
theorem dX10_passUntil_41 : decode cX10_passUntil 41 = .ok (.iconst 0, 1) ∧ 42 = 41 + 1 := ⟨by decide +kernel, rfl⟩
theorem dX10_passUntil_42 : decode cX10_passUntil 42 = .ok (.ireturn, 1) ∧ 43 = 42 + 1 := ⟨by decide +kernel, rfl⟩
theorem dX10_passUntil_43 : decode cX10_passUntil 43 = .ok (.aload_n 0, 1) ∧ 44 = 43 + 1 := ⟨by decide +kernel, rfl⟩
theorem dX10_passUntil_44 : decode cX10_passUntil 44 = .ok (.getfield 7, 3) ∧ 47 = 44 + 3 := ⟨by decide +kernel, rfl⟩
theorem dX10_passUntil_47 : decode cX10_passUntil 47 = .ok (.aload_n 0, 1) ∧ 48 = 47 + 1 := ⟨by decide +kernel, rfl⟩
theorem dX10_passUntil_48 : decode cX10_passUntil 48 = .ok (.getfield 13, 3) ∧ 51 = 48 + 3 := ⟨by decide +kernel, rfl⟩
theorem dX10_passUntil_51 : decode cX10_passUntil 51 = .ok (.invokestatic 50, 3) ∧ 54 = 51 + 3 := ⟨by decide +kernel, rfl⟩
theorem dX10_passUntil_54 : decode cX10_passUntil 54 = .ok (.aload_n 0, 1) ∧ 55 = 54 + 1 := ⟨by decide +kernel, rfl⟩
theorem dX10_passUntil_55 : decode cX10_passUntil 55 = .ok (.iload_n 1, 1) ∧ 56 = 55 + 1 := ⟨by decide +kernel, rfl⟩
theorem dX10_passUntil_56 : decode cX10_passUntil 56 = .ok (.iload_n 2, 1) ∧ 57 = 56 + 1 := ⟨by decide +kernel, rfl⟩
theorem dX10_passUntil_57 : decode cX10_passUntil 57 = .ok (.invokevirtual 185, 3) ∧ 60 = 57 + 3 := ⟨by decide +kernel, rfl⟩
theorem dX10_passUntil_60 : decode cX10_passUntil 60 = .ok (.istore_n 3, 1) ∧ 61 = 60 + 1 := ⟨by decide +kernel, rfl⟩
theorem dX10_passUntil_61 : decode cX10_passUntil 61 = .ok (.iload_n 3, 1) ∧ 62 = 61 + 1 := ⟨by decide +kernel, rfl⟩
theorem dX10_passUntil_62 : decode cX10_passUntil 62 = .ok (.iconst (-1), 1) ∧ 63 = 62 + 1 := ⟨by decide +kernel, rfl⟩
theorem dX10_passUntil_63 : decode cX10_passUntil 63 = .ok (.if_icmp .ne 20, 3) ∧ 66 = 63 + 3 := ⟨by decide +kernel, rfl⟩
theorem dX10_passUntil_66 : decode cX10_passUntil 66 = .ok (.aload_n 0, 1) ∧ 67 = 66 + 1 := ⟨by decide +kernel, rfl⟩
theorem dX10_passUntil_67 : decode cX10_passUntil 67 = .ok (.getfield 13, 3) ∧ 70 = 67 + 3 := ⟨by decide +kernel, rfl⟩
theorem dX10_passUntil_70 : decode cX10_passUntil 70 = .ok (.aload_n 0, 1) ∧ 71 = 70 + 1 := ⟨by decide +kernel, rfl⟩
theorem dX10_passUntil_71 : decode cX10_passUntil 71 = .ok (.getfield 7, 3) ∧ 74 = 71 + 3 := ⟨by decide +kernel, rfl⟩
theorem dX10_passUntil_74 : decode cX10_passUntil 74 = .ok (.invokestatic 50, 3) ∧ 77 = 74 + 3 := ⟨by decide +kernel, rfl⟩
theorem dX10_passUntil_77 : decode cX10_passUntil 77 = .ok (.aload_n 0, 1) ∧ 78 = 77 + 1 := ⟨by decide +kernel, rfl⟩
theorem dX10_passUntil_78 : decode cX10_passUntil 78 = .ok (.iconst 3, 1) ∧ 79 = 78 + 1 := ⟨by decide +kernel, rfl⟩
theorem dX10_passUntil_79 : decode cX10_passUntil 79 = .ok (.invokevirtual 57, 3) ∧ 82 = 79 + 3 := ⟨by decide +kernel, rfl⟩
theorem dX10_passUntil_82 : decode cX10_passUntil 82 = .ok (.ireturn, 1) ∧ 83 = 82 + 1 := ⟨by decide +kernel, rfl⟩
theorem dX10_passUntil_83 : decode cX10_passUntil 83 = .ok (.aload_n 0, 1) ∧ 84 = 83 + 1 := ⟨by decide +kernel, rfl⟩
theorem dX10_passUntil_84 : decode cX10_passUntil 84 = .ok (.invokevirtual 54, 3) ∧ 87 = 84 + 3 := ⟨by decide +kernel, rfl⟩
theorem dX10_passUntil_87 : decode cX10_passUntil 87 = .ok (.iload_n 3, 1) ∧ 88 = 87 + 1 := ⟨by decide +kernel, rfl⟩
theorem dX10_passUntil_88 : decode cX10_passUntil 88 = .ok (.ireturn, 1) ∧ 89 = 88 + 1 := ⟨by decide +kernel, rfl⟩
theorem dX10_setNow_0 : decode cX10_setNow 0 = .ok (.aload_n 0, 1) ∧ 1 = 0 + 1 := ⟨by decide +kernel, rfl⟩
theorem dX10_setNow_1 : decode cX10_setNow 1 = .ok (.getfield 7, 3) ∧ 4 = 1 + 3 := ⟨by decide +kernel, rfl⟩
theorem dX10_setNow_4 : decode cX10_setNow 4 = .ok (.iload_n 1, 1) ∧ 5 = 4 + 1 := ⟨by decide +kernel, rfl⟩
theorem dX10_setNow_5 : decode cX10_setNow 5 = .ok (.laload, 1) ∧ 6 = 5 + 1 := ⟨by decide +kernel, rfl⟩
theorem dX10_setNow_6 : decode cX10_setNow 6 = .ok (.l2i, 1) ∧ 7 = 6 + 1 := ⟨by decide +kernel, rfl⟩
theorem dX10_setNow_7 : decode cX10_setNow 7 = .ok (.istore_n 3, 1) ∧ 8 = 7 + 1 := ⟨by decide +kernel, rfl⟩
theorem dX10_setNow_8 : decode cX10_setNow 8 = .ok (.aload_n 0, 1) ∧ 9 = 8 + 1 := ⟨by decide +kernel, rfl⟩
theorem dX10_setNow_9 : decode cX10_setNow 9 = .ok (.getfield 7, 3) ∧ 12 = 9 + 3 := ⟨by decide +kernel, rfl⟩
theorem dX10_setNow_12 : decode cX10_setNow 12 = .ok (.iload_n 1, 1) ∧ 13 = 12 + 1 := ⟨by decide +kernel, rfl⟩
theorem dX10_setNow_13 : decode cX10_setNow 13 = .ok (.iload_n 2, 1) ∧ 14 = 13 + 1 := ⟨by decide +kernel, rfl⟩
theorem dX10_setNow_14 : decode cX10_setNow 14 = .ok (.i2l, 1) ∧ 15 = 14 + 1 := ⟨by decide +kernel, rfl⟩
theorem dX10_setNow_15 : decode cX10_setNow 15 = .ok (.lastore, 1) ∧ 16 = 15 + 1 := ⟨by decide +kernel, rfl⟩
theorem dX10_setNow_16 : decode cX10_setNow 16 = .ok (.iload_n 3, 1) ∧ 17 = 16 + 1 := ⟨by decide +kernel, rfl⟩
theorem dX10_setNow_17 : decode cX10_setNow 17 = .ok (.ireturn, 1) ∧ 18 = 17 + 1 := ⟨by decide +kernel, rfl⟩
theorem dX10_sets_0 : decode cX10_sets 0 = .ok (.aload_n 0, 1) ∧ 1 = 0 + 1 := ⟨by decide +kernel, rfl⟩
theorem dX10_sets_1 : decode cX10_sets 1 = .ok (.invokevirtual 158, 3) ∧ 4 = 1 + 3 := ⟨by decide +kernel, rfl⟩
theorem dX10_sets_4 : decode cX10_sets 4 = .ok (.aload_n 0, 1) ∧ 5 = 4 + 1 := ⟨by decide +kernel, rfl⟩
theorem dX10_sets_5 : decode cX10_sets 5 = .ok (.iload_n 1, 1) ∧ 6 = 5 + 1 := ⟨by decide +kernel, rfl⟩
theorem dX10_sets_6 : decode cX10_sets 6 = .ok (.iload_n 2, 1) ∧ 7 = 6 + 1 := ⟨by decide +kernel, rfl⟩
theorem dX10_sets_7 : decode cX10_sets 7 = .ok (.invokevirtual 188, 3) ∧ 10 = 7 + 3 := ⟨by decide +kernel, rfl⟩
theorem dX10_sets_10 : decode cX10_sets 10 = .ok (.ireturn, 1) ∧ 11 = 10 + 1 := ⟨by decide +kernel, rfl⟩
theorem dX10_seal_0 : decode cX10_seal 0 = .ok (.aload_n 0, 1) ∧ 1 = 0 + 1 := ⟨by decide +kernel, rfl⟩
theorem dX10_seal_1 : decode cX10_seal 1 = .ok (.aload_n 0, 1) ∧ 2 = 1 + 1 := ⟨by decide +kernel, rfl⟩
theorem dX10_seal_2 : decode cX10_seal 2 = .ok (.iload_n 1, 1) ∧ 3 = 2 + 1 := ⟨by decide +kernel, rfl⟩
theorem dX10_seal_3 : decode cX10_seal 3 = .ok (.invokevirtual 191, 3) ∧ 6 = 3 + 3 := ⟨by decide +kernel, rfl⟩
theorem dX10_seal_6 : decode cX10_seal 6 = .ok (.ifCond .ne 7, 3) ∧ 9 = 6 + 3 := ⟨by decide +kernel, rfl⟩
theorem dX10_seal_9 : decode cX10_seal 9 = .ok (.iconst 1, 1) ∧ 10 = 9 + 1 := ⟨by decide +kernel, rfl⟩
theorem dX10_seal_10 : decode cX10_seal 10 = .ok (.goto 4, 3) ∧ 13 = 10 + 3 := ⟨by decide +kernel, rfl⟩
theorem dX10_seal_13 : decode cX10_seal 13 = .ok (.iconst 0, 1) ∧ 14 = 13 + 1 := ⟨by decide +kernel, rfl⟩
theorem dX10_seal_14 : decode cX10_seal 14 = .ok (.iconst 1, 1) ∧ 15 = 14 + 1 := ⟨by decide +kernel, rfl⟩
theorem dX10_seal_15 : decode cX10_seal 15 = .ok (.invokevirtual 151, 3) ∧ 18 = 15 + 3 := ⟨by decide +kernel, rfl⟩
theorem dX10_seal_18 : decode cX10_seal 18 = .ok (.ifCond .eq 7, 3) ∧ 21 = 18 + 3 := ⟨by decide +kernel, rfl⟩
theorem dX10_seal_21 : decode cX10_seal 21 = .ok (.iconst 0, 1) ∧ 22 = 21 + 1 := ⟨by decide +kernel, rfl⟩
theorem dX10_seal_22 : decode cX10_seal 22 = .ok (.goto 14, 3) ∧ 25 = 22 + 3 := ⟨by decide +kernel, rfl⟩
theorem dX10_seal_25 : decode cX10_seal 25 = .ok (.aload_n 0, 1) ∧ 26 = 25 + 1 := ⟨by decide +kernel, rfl⟩
theorem dX10_seal_26 : decode cX10_seal 26 = .ok (.iload_n 1, 1) ∧ 27 = 26 + 1 := ⟨by decide +kernel, rfl⟩
theorem dX10_seal_27 : decode cX10_seal 27 = .ok (.invokestatic 96, 3) ∧ 30 = 27 + 3 := ⟨by decide +kernel, rfl⟩
theorem dX10_seal_30 : decode cX10_seal 30 = .ok (.iconst 1, 1) ∧ 31 = 30 + 1 := ⟨by decide +kernel, rfl⟩
theorem dX10_seal_31 : decode cX10_seal 31 = .ok (.iadd, 1) ∧ 32 = 31 + 1 := ⟨by decide +kernel, rfl⟩
theorem dX10_seal_32 : decode cX10_seal 32 = .ok (.iconst 0, 1) ∧ 33 = 32 + 1 := ⟨by decide +kernel, rfl⟩
theorem dX10_seal_33 : decode cX10_seal 33 = .ok (.invokevirtual 194, 3) ∧ 36 = 33 + 3 := ⟨by decide +kernel, rfl⟩
theorem dX10_seal_36 : decode cX10_seal 36 = .ok (.ireturn, 1) ∧ 37 = 36 + 1 := ⟨by decide +kernel, rfl⟩
theorem dX10_setLeak_0 : decode cX10_setLeak 0 = .ok (.aload_n 0, 1) ∧ 1 = 0 + 1 := ⟨by decide +kernel, rfl⟩
theorem dX10_setLeak_1 : decode cX10_setLeak 1 = .ok (.aload_n 0, 1) ∧ 2 = 1 + 1 := ⟨by decide +kernel, rfl⟩
theorem dX10_setLeak_2 : decode cX10_setLeak 2 = .ok (.iload_n 1, 1) ∧ 3 = 2 + 1 := ⟨by decide +kernel, rfl⟩
theorem dX10_setLeak_3 : decode cX10_setLeak 3 = .ok (.invokevirtual 191, 3) ∧ 6 = 3 + 3 := ⟨by decide +kernel, rfl⟩
theorem dX10_setLeak_6 : decode cX10_setLeak 6 = .ok (.ifCond .ne 7, 3) ∧ 9 = 6 + 3 := ⟨by decide +kernel, rfl⟩
theorem dX10_setLeak_9 : decode cX10_setLeak 9 = .ok (.iconst 1, 1) ∧ 10 = 9 + 1 := ⟨by decide +kernel, rfl⟩
theorem dX10_setLeak_10 : decode cX10_setLeak 10 = .ok (.goto 4, 3) ∧ 13 = 10 + 3 := ⟨by decide +kernel, rfl⟩
theorem dX10_setLeak_13 : decode cX10_setLeak 13 = .ok (.iconst 0, 1) ∧ 14 = 13 + 1 := ⟨by decide +kernel, rfl⟩
theorem dX10_setLeak_14 : decode cX10_setLeak 14 = .ok (.iconst 1, 1) ∧ 15 = 14 + 1 := ⟨by decide +kernel, rfl⟩
theorem dX10_setLeak_15 : decode cX10_setLeak 15 = .ok (.invokevirtual 151, 3) ∧ 18 = 15 + 3 := ⟨by decide +kernel, rfl⟩
theorem dX10_setLeak_18 : decode cX10_setLeak 18 = .ok (.ifCond .ne 28, 3) ∧ 21 = 18 + 3 := ⟨by decide +kernel, rfl⟩
theorem dX10_setLeak_21 : decode cX10_setLeak 21 = .ok (.aload_n 0, 1) ∧ 22 = 21 + 1 := ⟨by decide +kernel, rfl⟩
theorem dX10_setLeak_22 : decode cX10_setLeak 22 = .ok (.iload_n 2, 1) ∧ 23 = 22 + 1 := ⟨by decide +kernel, rfl⟩
theorem dX10_setLeak_23 : decode cX10_setLeak 23 = .ok (.i2l, 1) ∧ 24 = 23 + 1 := ⟨by decide +kernel, rfl⟩
theorem dX10_setLeak_24 : decode cX10_setLeak 24 = .ok (.lconst 0, 1) ∧ 25 = 24 + 1 := ⟨by decide +kernel, rfl⟩
theorem dX10_setLeak_25 : decode cX10_setLeak 25 = .ok (.ldc2_w 197, 3) ∧ 28 = 25 + 3 := ⟨by decide +kernel, rfl⟩
theorem dX10_setLeak_28 : decode cX10_setLeak 28 = .ok (.invokestatic 39, 3) ∧ 31 = 28 + 3 := ⟨by decide +kernel, rfl⟩
theorem dX10_setLeak_31 : decode cX10_setLeak 31 = .ok (.ifCond .ne 7, 3) ∧ 34 = 31 + 3 := ⟨by decide +kernel, rfl⟩
theorem dX10_setLeak_34 : decode cX10_setLeak 34 = .ok (.iconst 1, 1) ∧ 35 = 34 + 1 := ⟨by decide +kernel, rfl⟩
theorem dX10_setLeak_35 : decode cX10_setLeak 35 = .ok (.goto 4, 3) ∧ 38 = 35 + 3 := ⟨by decide +kernel, rfl⟩
theorem dX10_setLeak_38 : decode cX10_setLeak 38 = .ok (.iconst 0, 1) ∧ 39 = 38 + 1 := ⟨by decide +kernel, rfl⟩
theorem dX10_setLeak_39 : decode cX10_setLeak 39 = .ok (.iconst 2, 1) ∧ 40 = 39 + 1 := ⟨by decide +kernel, rfl⟩
theorem dX10_setLeak_40 : decode cX10_setLeak 40 = .ok (.invokevirtual 151, 3) ∧ 43 = 40 + 3 := ⟨by decide +kernel, rfl⟩
theorem dX10_setLeak_43 : decode cX10_setLeak 43 = .ok (.ifCond .eq 7, 3) ∧ 46 = 43 + 3 := ⟨by decide +kernel, rfl⟩
theorem dX10_setLeak_46 : decode cX10_setLeak 46 = .ok (.iconst 0, 1) ∧ 47 = 46 + 1 := ⟨by decide +kernel, rfl⟩
theorem dX10_setLeak_47 : decode cX10_setLeak 47 = .ok (.goto 14, 3) ∧ 50 = 47 + 3 := ⟨by decide +kernel, rfl⟩
theorem dX10_setLeak_50 : decode cX10_setLeak 50 = .ok (.aload_n 0, 1) ∧ 51 = 50 + 1 := ⟨by decide +kernel, rfl⟩
theorem dX10_setLeak_51 : decode cX10_setLeak 51 = .ok (.iload_n 1, 1) ∧ 52 = 51 + 1 := ⟨by decide +kernel, rfl⟩
theorem dX10_setLeak_52 : decode cX10_setLeak 52 = .ok (.invokestatic 96, 3) ∧ 55 = 52 + 3 := ⟨by decide +kernel, rfl⟩
theorem dX10_setLeak_55 : decode cX10_setLeak 55 = .ok (.iconst 1, 1) ∧ 56 = 55 + 1 := ⟨by decide +kernel, rfl⟩
theorem dX10_setLeak_56 : decode cX10_setLeak 56 = .ok (.iadd, 1) ∧ 57 = 56 + 1 := ⟨by decide +kernel, rfl⟩
theorem dX10_setLeak_57 : decode cX10_setLeak 57 = .ok (.iload_n 2, 1) ∧ 58 = 57 + 1 := ⟨by decide +kernel, rfl⟩
theorem dX10_setLeak_58 : decode cX10_setLeak 58 = .ok (.invokevirtual 194, 3) ∧ 61 = 58 + 3 := ⟨by decide +kernel, rfl⟩
theorem dX10_setLeak_61 : decode cX10_setLeak 61 = .ok (.ireturn, 1) ∧ 62 = 61 + 1 := ⟨by decide +kernel, rfl⟩
theorem dX10_setOutgassing_0 : decode cX10_setOutgassing 0 = .ok (.aload_n 0, 1) ∧ 1 = 0 + 1 := ⟨by decide +kernel, rfl⟩
theorem dX10_setOutgassing_1 : decode cX10_setOutgassing 1 = .ok (.aload_n 0, 1) ∧ 2 = 1 + 1 := ⟨by decide +kernel, rfl⟩
theorem dX10_setOutgassing_2 : decode cX10_setOutgassing 2 = .ok (.iload_n 1, 1) ∧ 3 = 2 + 1 := ⟨by decide +kernel, rfl⟩
theorem dX10_setOutgassing_3 : decode cX10_setOutgassing 3 = .ok (.invokevirtual 179, 3) ∧ 6 = 3 + 3 := ⟨by decide +kernel, rfl⟩
theorem dX10_setOutgassing_6 : decode cX10_setOutgassing 6 = .ok (.ifCond .ne 7, 3) ∧ 9 = 6 + 3 := ⟨by decide +kernel, rfl⟩
theorem dX10_setOutgassing_9 : decode cX10_setOutgassing 9 = .ok (.iconst 1, 1) ∧ 10 = 9 + 1 := ⟨by decide +kernel, rfl⟩
theorem dX10_setOutgassing_10 : decode cX10_setOutgassing 10 = .ok (.goto 4, 3) ∧ 13 = 10 + 3 := ⟨by decide +kernel, rfl⟩
theorem dX10_setOutgassing_13 : decode cX10_setOutgassing 13 = .ok (.iconst 0, 1) ∧ 14 = 13 + 1 := ⟨by decide +kernel, rfl⟩
theorem dX10_setOutgassing_14 : decode cX10_setOutgassing 14 = .ok (.iconst 1, 1) ∧ 15 = 14 + 1 := ⟨by decide +kernel, rfl⟩
theorem dX10_setOutgassing_15 : decode cX10_setOutgassing 15 = .ok (.invokevirtual 151, 3) ∧ 18 = 15 + 3 := ⟨by decide +kernel, rfl⟩
theorem dX10_setOutgassing_18 : decode cX10_setOutgassing 18 = .ok (.ifCond .ne 28, 3) ∧ 21 = 18 + 3 := ⟨by decide +kernel, rfl⟩
theorem dX10_setOutgassing_21 : decode cX10_setOutgassing 21 = .ok (.aload_n 0, 1) ∧ 22 = 21 + 1 := ⟨by decide +kernel, rfl⟩
theorem dX10_setOutgassing_22 : decode cX10_setOutgassing 22 = .ok (.iload_n 2, 1) ∧ 23 = 22 + 1 := ⟨by decide +kernel, rfl⟩
theorem dX10_setOutgassing_23 : decode cX10_setOutgassing 23 = .ok (.i2l, 1) ∧ 24 = 23 + 1 := ⟨by decide +kernel, rfl⟩
theorem dX10_setOutgassing_24 : decode cX10_setOutgassing 24 = .ok (.lconst 0, 1) ∧ 25 = 24 + 1 := ⟨by decide +kernel, rfl⟩
theorem dX10_setOutgassing_25 : decode cX10_setOutgassing 25 = .ok (.ldc2_w 197, 3) ∧ 28 = 25 + 3 := ⟨by decide +kernel, rfl⟩
theorem dX10_setOutgassing_28 : decode cX10_setOutgassing 28 = .ok (.invokestatic 39, 3) ∧ 31 = 28 + 3 := ⟨by decide +kernel, rfl⟩
theorem dX10_setOutgassing_31 : decode cX10_setOutgassing 31 = .ok (.ifCond .ne 7, 3) ∧ 34 = 31 + 3 := ⟨by decide +kernel, rfl⟩
theorem dX10_setOutgassing_34 : decode cX10_setOutgassing 34 = .ok (.iconst 1, 1) ∧ 35 = 34 + 1 := ⟨by decide +kernel, rfl⟩
theorem dX10_setOutgassing_35 : decode cX10_setOutgassing 35 = .ok (.goto 4, 3) ∧ 38 = 35 + 3 := ⟨by decide +kernel, rfl⟩
theorem dX10_setOutgassing_38 : decode cX10_setOutgassing 38 = .ok (.iconst 0, 1) ∧ 39 = 38 + 1 := ⟨by decide +kernel, rfl⟩
theorem dX10_setOutgassing_39 : decode cX10_setOutgassing 39 = .ok (.iconst 2, 1) ∧ 40 = 39 + 1 := ⟨by decide +kernel, rfl⟩
theorem dX10_setOutgassing_40 : decode cX10_setOutgassing 40 = .ok (.invokevirtual 151, 3) ∧ 43 = 40 + 3 := ⟨by decide +kernel, rfl⟩
theorem dX10_setOutgassing_43 : decode cX10_setOutgassing 43 = .ok (.ifCond .eq 7, 3) ∧ 46 = 43 + 3 := ⟨by decide +kernel, rfl⟩
theorem dX10_setOutgassing_46 : decode cX10_setOutgassing 46 = .ok (.iconst 0, 1) ∧ 47 = 46 + 1 := ⟨by decide +kernel, rfl⟩
theorem dX10_setOutgassing_47 : decode cX10_setOutgassing 47 = .ok (.goto 14, 3) ∧ 50 = 47 + 3 := ⟨by decide +kernel, rfl⟩
theorem dX10_setOutgassing_50 : decode cX10_setOutgassing 50 = .ok (.aload_n 0, 1) ∧ 51 = 50 + 1 := ⟨by decide +kernel, rfl⟩
theorem dX10_setOutgassing_51 : decode cX10_setOutgassing 51 = .ok (.iload_n 1, 1) ∧ 52 = 51 + 1 := ⟨by decide +kernel, rfl⟩
theorem dX10_setOutgassing_52 : decode cX10_setOutgassing 52 = .ok (.invokestatic 61, 3) ∧ 55 = 52 + 3 := ⟨by decide +kernel, rfl⟩
theorem dX10_setOutgassing_55 : decode cX10_setOutgassing 55 = .ok (.iconst 1, 1) ∧ 56 = 55 + 1 := ⟨by decide +kernel, rfl⟩
theorem dX10_setOutgassing_56 : decode cX10_setOutgassing 56 = .ok (.iadd, 1) ∧ 57 = 56 + 1 := ⟨by decide +kernel, rfl⟩
theorem dX10_setOutgassing_57 : decode cX10_setOutgassing 57 = .ok (.iload_n 2, 1) ∧ 58 = 57 + 1 := ⟨by decide +kernel, rfl⟩
theorem dX10_setOutgassing_58 : decode cX10_setOutgassing 58 = .ok (.invokevirtual 194, 3) ∧ 61 = 58 + 3 := ⟨by decide +kernel, rfl⟩
theorem dX10_setOutgassing_61 : decode cX10_setOutgassing 61 = .ok (.ireturn, 1) ∧ 62 = 61 + 1 := ⟨by decide +kernel, rfl⟩
theorem dX10_setRule_0 : decode cX10_setRule 0 = .ok (.aload_n 0, 1) ∧ 1 = 0 + 1 := ⟨by decide +kernel, rfl⟩
theorem dX10_setRule_1 : decode cX10_setRule 1 = .ok (.aload_n 0, 1) ∧ 2 = 1 + 1 := ⟨by decide +kernel, rfl⟩
theorem dX10_setRule_2 : decode cX10_setRule 2 = .ok (.iload_n 1, 1) ∧ 3 = 2 + 1 := ⟨by decide +kernel, rfl⟩
theorem dX10_setRule_3 : decode cX10_setRule 3 = .ok (.invokevirtual 148, 3) ∧ 6 = 3 + 3 := ⟨by decide +kernel, rfl⟩
theorem dX10_setRule_6 : decode cX10_setRule 6 = .ok (.ifCond .ne 7, 3) ∧ 9 = 6 + 3 := ⟨by decide +kernel, rfl⟩
theorem dX10_setRule_9 : decode cX10_setRule 9 = .ok (.iconst 1, 1) ∧ 10 = 9 + 1 := ⟨by decide +kernel, rfl⟩
theorem dX10_setRule_10 : decode cX10_setRule 10 = .ok (.goto 4, 3) ∧ 13 = 10 + 3 := ⟨by decide +kernel, rfl⟩
theorem dX10_setRule_13 : decode cX10_setRule 13 = .ok (.iconst 0, 1) ∧ 14 = 13 + 1 := ⟨by decide +kernel, rfl⟩
theorem dX10_setRule_14 : decode cX10_setRule 14 = .ok (.iconst 1, 1) ∧ 15 = 14 + 1 := ⟨by decide +kernel, rfl⟩
theorem dX10_setRule_15 : decode cX10_setRule 15 = .ok (.invokevirtual 151, 3) ∧ 18 = 15 + 3 := ⟨by decide +kernel, rfl⟩
theorem dX10_setRule_18 : decode cX10_setRule 18 = .ok (.ifCond .ne 23, 3) ∧ 21 = 18 + 3 := ⟨by decide +kernel, rfl⟩
theorem dX10_setRule_21 : decode cX10_setRule 21 = .ok (.aload_n 0, 1) ∧ 22 = 21 + 1 := ⟨by decide +kernel, rfl⟩
theorem dX10_setRule_22 : decode cX10_setRule 22 = .ok (.iload_n 2, 1) ∧ 23 = 22 + 1 := ⟨by decide +kernel, rfl⟩
theorem dX10_setRule_23 : decode cX10_setRule 23 = .ok (.invokestatic 182, 3) ∧ 26 = 23 + 3 := ⟨by decide +kernel, rfl⟩
theorem dX10_setRule_26 : decode cX10_setRule 26 = .ok (.ifCond .ne 7, 3) ∧ 29 = 26 + 3 := ⟨by decide +kernel, rfl⟩
theorem dX10_setRule_29 : decode cX10_setRule 29 = .ok (.iconst 1, 1) ∧ 30 = 29 + 1 := ⟨by decide +kernel, rfl⟩
theorem dX10_setRule_30 : decode cX10_setRule 30 = .ok (.goto 4, 3) ∧ 33 = 30 + 3 := ⟨by decide +kernel, rfl⟩
theorem dX10_setRule_33 : decode cX10_setRule 33 = .ok (.iconst 0, 1) ∧ 34 = 33 + 1 := ⟨by decide +kernel, rfl⟩
theorem dX10_setRule_34 : decode cX10_setRule 34 = .ok (.iconst 2, 1) ∧ 35 = 34 + 1 := ⟨by decide +kernel, rfl⟩
theorem dX10_setRule_35 : decode cX10_setRule 35 = .ok (.invokevirtual 151, 3) ∧ 38 = 35 + 3 := ⟨by decide +kernel, rfl⟩
theorem dX10_setRule_38 : decode cX10_setRule 38 = .ok (.ifCond .eq 7, 3) ∧ 41 = 38 + 3 := ⟨by decide +kernel, rfl⟩
theorem dX10_setRule_41 : decode cX10_setRule 41 = .ok (.iconst 0, 1) ∧ 42 = 41 + 1 := ⟨by decide +kernel, rfl⟩
theorem dX10_setRule_42 : decode cX10_setRule 42 = .ok (.goto 14, 3) ∧ 45 = 42 + 3 := ⟨by decide +kernel, rfl⟩
theorem dX10_setRule_45 : decode cX10_setRule 45 = .ok (.aload_n 0, 1) ∧ 46 = 45 + 1 := ⟨by decide +kernel, rfl⟩
theorem dX10_setRule_46 : decode cX10_setRule 46 = .ok (.iload_n 1, 1) ∧ 47 = 46 + 1 := ⟨by decide +kernel, rfl⟩
theorem dX10_setRule_47 : decode cX10_setRule 47 = .ok (.invokestatic 68, 3) ∧ 50 = 47 + 3 := ⟨by decide +kernel, rfl⟩
theorem dX10_setRule_50 : decode cX10_setRule 50 = .ok (.iconst 3, 1) ∧ 51 = 50 + 1 := ⟨by decide +kernel, rfl⟩
theorem dX10_setRule_51 : decode cX10_setRule 51 = .ok (.iadd, 1) ∧ 52 = 51 + 1 := ⟨by decide +kernel, rfl⟩
theorem dX10_setRule_52 : decode cX10_setRule 52 = .ok (.iload_n 2, 1) ∧ 53 = 52 + 1 := ⟨by decide +kernel, rfl⟩
theorem dX10_setRule_53 : decode cX10_setRule 53 = .ok (.invokevirtual 194, 3) ∧ 56 = 53 + 3 := ⟨by decide +kernel, rfl⟩
theorem dX10_setRule_56 : decode cX10_setRule 56 = .ok (.ireturn, 1) ∧ 57 = 56 + 1 := ⟨by decide +kernel, rfl⟩
theorem dX10_isAlone_0 : decode cX10_isAlone 0 = .ok (.iconst 0, 1) ∧ 1 = 0 + 1 := ⟨by decide +kernel, rfl⟩
theorem dX10_isAlone_1 : decode cX10_isAlone 1 = .ok (.istore_n 2, 1) ∧ 2 = 1 + 1 := ⟨by decide +kernel, rfl⟩
theorem dX10_isAlone_2 : decode cX10_isAlone 2 = .ok (.iload_n 2, 1) ∧ 3 = 2 + 1 := ⟨by decide +kernel, rfl⟩
theorem dX10_isAlone_3 : decode cX10_isAlone 3 = .ok (.aload_n 0, 1) ∧ 4 = 3 + 1 := ⟨by decide +kernel, rfl⟩
theorem dX10_isAlone_4 : decode cX10_isAlone 4 = .ok (.iconst 2, 1) ∧ 5 = 4 + 1 := ⟨by decide +kernel, rfl⟩
theorem dX10_isAlone_5 : decode cX10_isAlone 5 = .ok (.invokevirtual 93, 3) ∧ 8 = 5 + 3 := ⟨by decide +kernel, rfl⟩
theorem dX10_isAlone_8 : decode cX10_isAlone 8 = .ok (.if_icmp .ge 39, 3) ∧ 11 = 8 + 3 := ⟨by decide +kernel, rfl⟩
theorem dX10_isAlone_11 : decode cX10_isAlone 11 = .ok (.aload_n 0, 1) ∧ 12 = 11 + 1 := ⟨by decide +kernel, rfl⟩
theorem dX10_isAlone_12 : decode cX10_isAlone 12 = .ok (.iload_n 2, 1) ∧ 13 = 12 + 1 := ⟨by decide +kernel, rfl⟩
theorem dX10_isAlone_13 : decode cX10_isAlone 13 = .ok (.invokevirtual 99, 3) ∧ 16 = 13 + 3 := ⟨by decide +kernel, rfl⟩
theorem dX10_isAlone_16 : decode cX10_isAlone 16 = .ok (.ifCond .eq 25, 3) ∧ 19 = 16 + 3 := ⟨by decide +kernel, rfl⟩
theorem dX10_isAlone_19 : decode cX10_isAlone 19 = .ok (.aload_n 0, 1) ∧ 20 = 19 + 1 := ⟨by decide +kernel, rfl⟩
theorem dX10_isAlone_20 : decode cX10_isAlone 20 = .ok (.iload_n 2, 1) ∧ 21 = 20 + 1 := ⟨by decide +kernel, rfl⟩
theorem dX10_isAlone_21 : decode cX10_isAlone 21 = .ok (.iconst 0, 1) ∧ 22 = 21 + 1 := ⟨by decide +kernel, rfl⟩
theorem dX10_isAlone_22 : decode cX10_isAlone 22 = .ok (.invokevirtual 74, 3) ∧ 25 = 22 + 3 := ⟨by decide +kernel, rfl⟩
theorem dX10_isAlone_25 : decode cX10_isAlone 25 = .ok (.iload_n 1, 1) ∧ 26 = 25 + 1 := ⟨by decide +kernel, rfl⟩
theorem dX10_isAlone_26 : decode cX10_isAlone 26 = .ok (.if_icmp .eq 13, 3) ∧ 29 = 26 + 3 := ⟨by decide +kernel, rfl⟩
theorem dX10_isAlone_29 : decode cX10_isAlone 29 = .ok (.aload_n 0, 1) ∧ 30 = 29 + 1 := ⟨by decide +kernel, rfl⟩
theorem dX10_isAlone_30 : decode cX10_isAlone 30 = .ok (.iload_n 2, 1) ∧ 31 = 30 + 1 := ⟨by decide +kernel, rfl⟩
theorem dX10_isAlone_31 : decode cX10_isAlone 31 = .ok (.iconst 1, 1) ∧ 32 = 31 + 1 := ⟨by decide +kernel, rfl⟩
theorem dX10_isAlone_32 : decode cX10_isAlone 32 = .ok (.invokevirtual 74, 3) ∧ 35 = 32 + 3 := ⟨by decide +kernel, rfl⟩
theorem dX10_isAlone_35 : decode cX10_isAlone 35 = .ok (.iload_n 1, 1) ∧ 36 = 35 + 1 := ⟨by decide +kernel, rfl⟩
theorem dX10_isAlone_36 : decode cX10_isAlone 36 = .ok (.if_icmp .ne 5, 3) ∧ 39 = 36 + 3 := ⟨by decide +kernel, rfl⟩
theorem dX10_isAlone_39 : decode cX10_isAlone 39 = .ok (.iconst 0, 1) ∧ 40 = 39 + 1 := ⟨by decide +kernel, rfl⟩
theorem dX10_isAlone_40 : decode cX10_isAlone 40 = .ok (.ireturn, 1) ∧ 41 = 40 + 1 := ⟨by decide +kernel, rfl⟩
theorem dX10_isAlone_41 : decode cX10_isAlone 41 = .ok (.iinc 2 1, 3) ∧ 44 = 41 + 3 := ⟨by decide +kernel, rfl⟩
theorem dX10_isAlone_44 : decode cX10_isAlone 44 = .ok (.goto (-42), 3) ∧ 47 = 44 + 3 := ⟨by decide +kernel, rfl⟩
theorem dX10_isAlone_47 : decode cX10_isAlone 47 = .ok (.iconst 0, 1) ∧ 48 = 47 + 1 := ⟨by decide +kernel, rfl⟩
theorem dX10_isAlone_48 : decode cX10_isAlone 48 = .ok (.istore_n 2, 1) ∧ 49 = 48 + 1 := ⟨by decide +kernel, rfl⟩
theorem dX10_isAlone_49 : decode cX10_isAlone 49 = .ok (.iload_n 2, 1) ∧ 50 = 49 + 1 := ⟨by decide +kernel, rfl⟩
theorem dX10_isAlone_50 : decode cX10_isAlone 50 = .ok (.aload_n 0, 1) ∧ 51 = 50 + 1 := ⟨by decide +kernel, rfl⟩
theorem dX10_isAlone_51 : decode cX10_isAlone 51 = .ok (.iconst 1, 1) ∧ 52 = 51 + 1 := ⟨by decide +kernel, rfl⟩
theorem dX10_isAlone_52 : decode cX10_isAlone 52 = .ok (.invokevirtual 93, 3) ∧ 55 = 52 + 3 := ⟨by decide +kernel, rfl⟩
theorem dX10_isAlone_55 : decode cX10_isAlone 55 = .ok (.if_icmp .ge 39, 3) ∧ 58 = 55 + 3 := ⟨by decide +kernel, rfl⟩
theorem dX10_isAlone_58 : decode cX10_isAlone 58 = .ok (.aload_n 0, 1) ∧ 59 = 58 + 1 := ⟨by decide +kernel, rfl⟩
theorem dX10_isAlone_59 : decode cX10_isAlone 59 = .ok (.iload_n 2, 1) ∧ 60 = 59 + 1 := ⟨by decide +kernel, rfl⟩
theorem dX10_isAlone_60 : decode cX10_isAlone 60 = .ok (.invokevirtual 135, 3) ∧ 63 = 60 + 3 := ⟨by decide +kernel, rfl⟩
theorem dX10_isAlone_63 : decode cX10_isAlone 63 = .ok (.ifCond .eq 25, 3) ∧ 66 = 63 + 3 := ⟨by decide +kernel, rfl⟩
theorem dX10_isAlone_66 : decode cX10_isAlone 66 = .ok (.aload_n 0, 1) ∧ 67 = 66 + 1 := ⟨by decide +kernel, rfl⟩
theorem dX10_isAlone_67 : decode cX10_isAlone 67 = .ok (.iload_n 2, 1) ∧ 68 = 67 + 1 := ⟨by decide +kernel, rfl⟩
theorem dX10_isAlone_68 : decode cX10_isAlone 68 = .ok (.iconst 0, 1) ∧ 69 = 68 + 1 := ⟨by decide +kernel, rfl⟩
theorem dX10_isAlone_69 : decode cX10_isAlone 69 = .ok (.invokevirtual 87, 3) ∧ 72 = 69 + 3 := ⟨by decide +kernel, rfl⟩
theorem dX10_isAlone_72 : decode cX10_isAlone 72 = .ok (.iload_n 1, 1) ∧ 73 = 72 + 1 := ⟨by decide +kernel, rfl⟩
theorem dX10_isAlone_73 : decode cX10_isAlone 73 = .ok (.if_icmp .eq 13, 3) ∧ 76 = 73 + 3 := ⟨by decide +kernel, rfl⟩
theorem dX10_isAlone_76 : decode cX10_isAlone 76 = .ok (.aload_n 0, 1) ∧ 77 = 76 + 1 := ⟨by decide +kernel, rfl⟩
theorem dX10_isAlone_77 : decode cX10_isAlone 77 = .ok (.iload_n 2, 1) ∧ 78 = 77 + 1 := ⟨by decide +kernel, rfl⟩
theorem dX10_isAlone_78 : decode cX10_isAlone 78 = .ok (.iconst 1, 1) ∧ 79 = 78 + 1 := ⟨by decide +kernel, rfl⟩
theorem dX10_isAlone_79 : decode cX10_isAlone 79 = .ok (.invokevirtual 87, 3) ∧ 82 = 79 + 3 := ⟨by decide +kernel, rfl⟩
theorem dX10_isAlone_82 : decode cX10_isAlone 82 = .ok (.iload_n 1, 1) ∧ 83 = 82 + 1 := ⟨by decide +kernel, rfl⟩
theorem dX10_isAlone_83 : decode cX10_isAlone 83 = .ok (.if_icmp .ne 5, 3) ∧ 86 = 83 + 3 := ⟨by decide +kernel, rfl⟩
theorem dX10_isAlone_86 : decode cX10_isAlone 86 = .ok (.iconst 0, 1) ∧ 87 = 86 + 1 := ⟨by decide +kernel, rfl⟩
theorem dX10_isAlone_87 : decode cX10_isAlone 87 = .ok (.ireturn, 1) ∧ 88 = 87 + 1 := ⟨by decide +kernel, rfl⟩
theorem dX10_isAlone_88 : decode cX10_isAlone 88 = .ok (.iinc 2 1, 3) ∧ 91 = 88 + 3 := ⟨by decide +kernel, rfl⟩
theorem dX10_isAlone_91 : decode cX10_isAlone 91 = .ok (.goto (-42), 3) ∧ 94 = 91 + 3 := ⟨by decide +kernel, rfl⟩
theorem dX10_isAlone_94 : decode cX10_isAlone 94 = .ok (.iconst 1, 1) ∧ 95 = 94 + 1 := ⟨by decide +kernel, rfl⟩
theorem dX10_isAlone_95 : decode cX10_isAlone 95 = .ok (.ireturn, 1) ∧ 96 = 95 + 1 := ⟨by decide +kernel, rfl⟩
theorem dX10_isTestTicks_0 : decode cX10_isTestTicks 0 = .ok (.iload_n 0, 1) ∧ 1 = 0 + 1 := ⟨by decide +kernel, rfl⟩
theorem dX10_isTestTicks_1 : decode cX10_isTestTicks 1 = .ok (.i2l, 1) ∧ 2 = 1 + 1 := ⟨by decide +kernel, rfl⟩
theorem dX10_isTestTicks_2 : decode cX10_isTestTicks 2 = .ok (.ldc2_w 199, 3) ∧ 5 = 2 + 3 := ⟨by decide +kernel, rfl⟩
theorem dX10_isTestTicks_5 : decode cX10_isTestTicks 5 = .ok (.ldc2_w 201, 3) ∧ 8 = 5 + 3 := ⟨by decide +kernel, rfl⟩
theorem dX10_isTestTicks_8 : decode cX10_isTestTicks 8 = .ok (.invokestatic 39, 3) ∧ 11 = 8 + 3 := ⟨by decide +kernel, rfl⟩
theorem dX10_isTestTicks_11 : decode cX10_isTestTicks 11 = .ok (.ifCond .eq 13, 3) ∧ 14 = 11 + 3 := ⟨by decide +kernel, rfl⟩
theorem dX10_isTestTicks_14 : decode cX10_isTestTicks 14 = .ok (.iload_n 0, 1) ∧ 15 = 14 + 1 := ⟨by decide +kernel, rfl⟩
theorem dX10_isTestTicks_15 : decode cX10_isTestTicks 15 = .ok (.iconst 2, 1) ∧ 16 = 15 + 1 := ⟨by decide +kernel, rfl⟩
theorem dX10_isTestTicks_16 : decode cX10_isTestTicks 16 = .ok (.irem, 1) ∧ 17 = 16 + 1 := ⟨by decide +kernel, rfl⟩
theorem dX10_isTestTicks_17 : decode cX10_isTestTicks 17 = .ok (.ifCond .ne 7, 3) ∧ 20 = 17 + 3 := ⟨by decide +kernel, rfl⟩
theorem dX10_isTestTicks_20 : decode cX10_isTestTicks 20 = .ok (.iconst 1, 1) ∧ 21 = 20 + 1 := ⟨by decide +kernel, rfl⟩
theorem dX10_isTestTicks_21 : decode cX10_isTestTicks 21 = .ok (.goto 4, 3) ∧ 24 = 21 + 3 := ⟨by decide +kernel, rfl⟩
theorem dX10_isTestTicks_24 : decode cX10_isTestTicks 24 = .ok (.iconst 0, 1) ∧ 25 = 24 + 1 := ⟨by decide +kernel, rfl⟩
theorem dX10_isTestTicks_25 : decode cX10_isTestTicks 25 = .ok (.ireturn, 1) ∧ 26 = 25 + 1 := ⟨by decide +kernel, rfl⟩
theorem dX10_riseIn_0 : decode cX10_riseIn 0 = .ok (.aload_n 0, 1) ∧ 1 = 0 + 1 := ⟨by decide +kernel, rfl⟩
theorem dX10_riseIn_1 : decode cX10_riseIn 1 = .ok (.getfield 7, 3) ∧ 4 = 1 + 3 := ⟨by decide +kernel, rfl⟩
theorem dX10_riseIn_4 : decode cX10_riseIn 4 = .ok (.iload_n 1, 1) ∧ 5 = 4 + 1 := ⟨by decide +kernel, rfl⟩
theorem dX10_riseIn_5 : decode cX10_riseIn 5 = .ok (.invokestatic 61, 3) ∧ 8 = 5 + 3 := ⟨by decide +kernel, rfl⟩
theorem dX10_riseIn_8 : decode cX10_riseIn 8 = .ok (.iconst 3, 1) ∧ 9 = 8 + 1 := ⟨by decide +kernel, rfl⟩
theorem dX10_riseIn_9 : decode cX10_riseIn 9 = .ok (.iadd, 1) ∧ 10 = 9 + 1 := ⟨by decide +kernel, rfl⟩
theorem dX10_riseIn_10 : decode cX10_riseIn 10 = .ok (.laload, 1) ∧ 11 = 10 + 1 := ⟨by decide +kernel, rfl⟩
theorem dX10_riseIn_11 : decode cX10_riseIn 11 = .ok (.lstore_n 3, 1) ∧ 12 = 11 + 1 := ⟨by decide +kernel, rfl⟩
theorem dX10_riseIn_12 : decode cX10_riseIn 12 = .ok (.aload_n 0, 1) ∧ 13 = 12 + 1 := ⟨by decide +kernel, rfl⟩
theorem dX10_riseIn_13 : decode cX10_riseIn 13 = .ok (.iload_n 2, 1) ∧ 14 = 13 + 1 := ⟨by decide +kernel, rfl⟩
theorem dX10_riseIn_14 : decode cX10_riseIn 14 = .ok (.invokevirtual 176, 3) ∧ 17 = 14 + 3 := ⟨by decide +kernel, rfl⟩
theorem dX10_riseIn_17 : decode cX10_riseIn 17 = .ok (.istore 5, 2) ∧ 19 = 17 + 2 := ⟨by decide +kernel, rfl⟩
theorem dX10_riseIn_19 : decode cX10_riseIn 19 = .ok (.aload_n 0, 1) ∧ 20 = 19 + 1 := ⟨by decide +kernel, rfl⟩
theorem dX10_riseIn_20 : decode cX10_riseIn 20 = .ok (.getfield 7, 3) ∧ 23 = 20 + 3 := ⟨by decide +kernel, rfl⟩
theorem dX10_riseIn_23 : decode cX10_riseIn 23 = .ok (.iload_n 1, 1) ∧ 24 = 23 + 1 := ⟨by decide +kernel, rfl⟩
theorem dX10_riseIn_24 : decode cX10_riseIn 24 = .ok (.invokestatic 61, 3) ∧ 27 = 24 + 3 := ⟨by decide +kernel, rfl⟩
theorem dX10_riseIn_27 : decode cX10_riseIn 27 = .ok (.iconst 3, 1) ∧ 28 = 27 + 1 := ⟨by decide +kernel, rfl⟩
theorem dX10_riseIn_28 : decode cX10_riseIn 28 = .ok (.iadd, 1) ∧ 29 = 28 + 1 := ⟨by decide +kernel, rfl⟩
theorem dX10_riseIn_29 : decode cX10_riseIn 29 = .ok (.laload, 1) ∧ 30 = 29 + 1 := ⟨by decide +kernel, rfl⟩
theorem dX10_riseIn_30 : decode cX10_riseIn 30 = .ok (.lload_n 3, 1) ∧ 31 = 30 + 1 := ⟨by decide +kernel, rfl⟩
theorem dX10_riseIn_31 : decode cX10_riseIn 31 = .ok (.lsub, 1) ∧ 32 = 31 + 1 := ⟨by decide +kernel, rfl⟩
theorem dX10_riseIn_32 : decode cX10_riseIn 32 = .ok (.lreturn, 1) ∧ 33 = 32 + 1 := ⟨by decide +kernel, rfl⟩
theorem dX10_testNow_0 : decode cX10_testNow 0 = .ok (.aload_n 0, 1) ∧ 1 = 0 + 1 := ⟨by decide +kernel, rfl⟩
theorem dX10_testNow_1 : decode cX10_testNow 1 = .ok (.iload_n 1, 1) ∧ 2 = 1 + 1 := ⟨by decide +kernel, rfl⟩
theorem dX10_testNow_2 : decode cX10_testNow 2 = .ok (.iload_n 2, 1) ∧ 3 = 2 + 1 := ⟨by decide +kernel, rfl⟩
theorem dX10_testNow_3 : decode cX10_testNow 3 = .ok (.iconst 2, 1) ∧ 4 = 3 + 1 := ⟨by decide +kernel, rfl⟩
theorem dX10_testNow_4 : decode cX10_testNow 4 = .ok (.idiv, 1) ∧ 5 = 4 + 1 := ⟨by decide +kernel, rfl⟩
theorem dX10_testNow_5 : decode cX10_testNow 5 = .ok (.invokevirtual 203, 3) ∧ 8 = 5 + 3 := ⟨by decide +kernel, rfl⟩
theorem dX10_testNow_8 : decode cX10_testNow 8 = .ok (.lstore_n 3, 1) ∧ 9 = 8 + 1 := ⟨by decide +kernel, rfl⟩
theorem dX10_testNow_9 : decode cX10_testNow 9 = .ok (.aload_n 0, 1) ∧ 10 = 9 + 1 := ⟨by decide +kernel, rfl⟩
theorem dX10_testNow_10 : decode cX10_testNow 10 = .ok (.iload_n 1, 1) ∧ 11 = 10 + 1 := ⟨by decide +kernel, rfl⟩
theorem dX10_testNow_11 : decode cX10_testNow 11 = .ok (.iload_n 2, 1) ∧ 12 = 11 + 1 := ⟨by decide +kernel, rfl⟩
theorem dX10_testNow_12 : decode cX10_testNow 12 = .ok (.iconst 2, 1) ∧ 13 = 12 + 1 := ⟨by decide +kernel, rfl⟩
theorem dX10_testNow_13 : decode cX10_testNow 13 = .ok (.idiv, 1) ∧ 14 = 13 + 1 := ⟨by decide +kernel, rfl⟩
theorem dX10_testNow_14 : decode cX10_testNow 14 = .ok (.invokevirtual 203, 3) ∧ 17 = 14 + 3 := ⟨by decide +kernel, rfl⟩
theorem dX10_testNow_17 : decode cX10_testNow 17 = .ok (.lstore 5, 2) ∧ 19 = 17 + 2 := ⟨by decide +kernel, rfl⟩
theorem dX10_testNow_19 : decode cX10_testNow 19 = .ok (.lload_n 3, 1) ∧ 20 = 19 + 1 := ⟨by decide +kernel, rfl⟩
theorem dX10_testNow_20 : decode cX10_testNow 20 = .ok (.lconst 0, 1) ∧ 21 = 20 + 1 := ⟨by decide +kernel, rfl⟩
theorem dX10_testNow_21 : decode cX10_testNow 21 = .ok (.lcmp, 1) ∧ 22 = 21 + 1 := ⟨by decide +kernel, rfl⟩
theorem dX10_testNow_22 : decode cX10_testNow 22 = .ok (.ifCond .ne 14, 3) ∧ 25 = 22 + 3 := ⟨by decide +kernel, rfl⟩
theorem dX10_testNow_25 : decode cX10_testNow 25 = .ok (.lload 5, 2) ∧ 27 = 25 + 2 := ⟨by decide +kernel, rfl⟩
theorem dX10_testNow_27 : decode cX10_testNow 27 = .ok (.lconst 0, 1) ∧ 28 = 27 + 1 := ⟨by decide +kernel, rfl⟩
theorem dX10_testNow_28 : decode cX10_testNow 28 = .ok (.lcmp, 1) ∧ 29 = 28 + 1 := ⟨by decide +kernel, rfl⟩
theorem dX10_testNow_29 : decode cX10_testNow 29 = .ok (.ifCond .ne 7, 3) ∧ 32 = 29 + 3 := ⟨by decide +kernel, rfl⟩
theorem dX10_testNow_32 : decode cX10_testNow 32 = .ok (.iconst 0, 1) ∧ 33 = 32 + 1 := ⟨by decide +kernel, rfl⟩
theorem dX10_testNow_33 : decode cX10_testNow 33 = .ok (.goto 23, 3) ∧ 36 = 33 + 3 := ⟨by decide +kernel, rfl⟩
theorem dX10_testNow_36 : decode cX10_testNow 36 = .ok (.lload 5, 2) ∧ 38 = 36 + 2 := ⟨by decide +kernel, rfl⟩
theorem dX10_testNow_38 : decode cX10_testNow 38 = .ok (.ldc2_w 207, 3) ∧ 41 = 38 + 3 := ⟨by decide +kernel, rfl⟩
theorem dX10_testNow_41 : decode cX10_testNow 41 = .ok (.lmul, 1) ∧ 42 = 41 + 1 := ⟨by decide +kernel, rfl⟩
theorem dX10_testNow_42 : decode cX10_testNow 42 = .ok (.lload_n 3, 1) ∧ 43 = 42 + 1 := ⟨by decide +kernel, rfl⟩
theorem dX10_testNow_43 : decode cX10_testNow 43 = .ok (.ldc2_w 209, 3) ∧ 46 = 43 + 3 := ⟨by decide +kernel, rfl⟩
theorem dX10_testNow_46 : decode cX10_testNow 46 = .ok (.lmul, 1) ∧ 47 = 46 + 1 := ⟨by decide +kernel, rfl⟩
theorem dX10_testNow_47 : decode cX10_testNow 47 = .ok (.lcmp, 1) ∧ 48 = 47 + 1 := ⟨by decide +kernel, rfl⟩
theorem dX10_testNow_48 : decode cX10_testNow 48 = .ok (.ifCond .lt 7, 3) ∧ 51 = 48 + 3 := ⟨by decide +kernel, rfl⟩
theorem dX10_testNow_51 : decode cX10_testNow 51 = .ok (.iconst 2, 1) ∧ 52 = 51 + 1 := ⟨by decide +kernel, rfl⟩
theorem dX10_testNow_52 : decode cX10_testNow 52 = .ok (.goto 4, 3) ∧ 55 = 52 + 3 := ⟨by decide +kernel, rfl⟩
theorem dX10_testNow_55 : decode cX10_testNow 55 = .ok (.iconst 1, 1) ∧ 56 = 55 + 1 := ⟨by decide +kernel, rfl⟩
theorem dX10_testNow_56 : decode cX10_testNow 56 = .ok (.istore 7, 2) ∧ 58 = 56 + 2 := ⟨by decide +kernel, rfl⟩
theorem dX10_testNow_58 : decode cX10_testNow 58 = .ok (.bipush 10, 2) ∧ 60 = 58 + 2 := ⟨by decide +kernel, rfl⟩
theorem dX10_testNow_60 : decode cX10_testNow 60 = .ok (.invokestatic 211, 3) ∧ 63 = 60 + 3 := ⟨by decide +kernel, rfl⟩
theorem dX10_testNow_63 : decode cX10_testNow 63 = .ok (.iconst 1, 1) ∧ 64 = 63 + 1 := ⟨by decide +kernel, rfl⟩
theorem dX10_testNow_64 : decode cX10_testNow 64 = .ok (.isub, 1) ∧ 65 = 64 + 1 := ⟨by decide +kernel, rfl⟩
theorem dX10_testNow_65 : decode cX10_testNow 65 = .ok (.istore 8, 2) ∧ 67 = 65 + 2 := ⟨by decide +kernel, rfl⟩
theorem dX10_testNow_67 : decode cX10_testNow 67 = .ok (.iload 8, 2) ∧ 69 = 67 + 2 := ⟨by decide +kernel, rfl⟩
theorem dX10_testNow_69 : decode cX10_testNow 69 = .ok (.iconst 1, 1) ∧ 70 = 69 + 1 := ⟨by decide +kernel, rfl⟩
theorem dX10_testNow_70 : decode cX10_testNow 70 = .ok (.invokestatic 211, 3) ∧ 73 = 70 + 3 := ⟨by decide +kernel, rfl⟩
theorem dX10_testNow_73 : decode cX10_testNow 73 = .ok (.if_icmp .lt 26, 3) ∧ 76 = 73 + 3 := ⟨by decide +kernel, rfl⟩
theorem dX10_testNow_76 : decode cX10_testNow 76 = .ok (.aload_n 0, 1) ∧ 77 = 76 + 1 := ⟨by decide +kernel, rfl⟩
theorem dX10_testNow_77 : decode cX10_testNow 77 = .ok (.getfield 7, 3) ∧ 80 = 77 + 3 := ⟨by decide +kernel, rfl⟩
theorem dX10_testNow_80 : decode cX10_testNow 80 = .ok (.iload 8, 2) ∧ 82 = 80 + 2 := ⟨by decide +kernel, rfl⟩
theorem dX10_testNow_82 : decode cX10_testNow 82 = .ok (.aload_n 0, 1) ∧ 83 = 82 + 1 := ⟨by decide +kernel, rfl⟩
theorem dX10_testNow_83 : decode cX10_testNow 83 = .ok (.getfield 7, 3) ∧ 86 = 83 + 3 := ⟨by decide +kernel, rfl⟩
theorem dX10_testNow_86 : decode cX10_testNow 86 = .ok (.iload 8, 2) ∧ 88 = 86 + 2 := ⟨by decide +kernel, rfl⟩
theorem dX10_testNow_88 : decode cX10_testNow 88 = .ok (.bipush 6, 2) ∧ 90 = 88 + 2 := ⟨by decide +kernel, rfl⟩
theorem dX10_testNow_90 : decode cX10_testNow 90 = .ok (.isub, 1) ∧ 91 = 90 + 1 := ⟨by decide +kernel, rfl⟩
theorem dX10_testNow_91 : decode cX10_testNow 91 = .ok (.laload, 1) ∧ 92 = 91 + 1 := ⟨by decide +kernel, rfl⟩
theorem dX10_testNow_92 : decode cX10_testNow 92 = .ok (.lastore, 1) ∧ 93 = 92 + 1 := ⟨by decide +kernel, rfl⟩
theorem dX10_testNow_93 : decode cX10_testNow 93 = .ok (.iinc 8 (-1), 3) ∧ 96 = 93 + 3 := ⟨by decide +kernel, rfl⟩
theorem dX10_testNow_96 : decode cX10_testNow 96 = .ok (.goto (-29), 3) ∧ 99 = 96 + 3 := ⟨by decide +kernel, rfl⟩
theorem dX10_testNow_99 : decode cX10_testNow 99 = .ok (.aload_n 0, 1) ∧ 100 = 99 + 1 := ⟨by decide +kernel, rfl⟩
theorem dX10_testNow_100 : decode cX10_testNow 100 = .ok (.getfield 7, 3) ∧ 103 = 100 + 3 := ⟨by decide +kernel, rfl⟩
theorem dX10_testNow_103 : decode cX10_testNow 103 = .ok (.sipush 196, 3) ∧ 106 = 103 + 3 := ⟨by decide +kernel, rfl⟩
theorem dX10_testNow_106 : decode cX10_testNow 106 = .ok (.iload_n 1, 1) ∧ 107 = 106 + 1 := ⟨by decide +kernel, rfl⟩
theorem dX10_testNow_107 : decode cX10_testNow 107 = .ok (.i2l, 1) ∧ 108 = 107 + 1 := ⟨by decide +kernel, rfl⟩
theorem dX10_testNow_108 : decode cX10_testNow 108 = .ok (.lastore, 1) ∧ 109 = 108 + 1 := ⟨by decide +kernel, rfl⟩
theorem dX10_testNow_109 : decode cX10_testNow 109 = .ok (.aload_n 0, 1) ∧ 110 = 109 + 1 := ⟨by decide +kernel, rfl⟩
theorem dX10_testNow_110 : decode cX10_testNow 110 = .ok (.getfield 7, 3) ∧ 113 = 110 + 3 := ⟨by decide +kernel, rfl⟩
theorem dX10_testNow_113 : decode cX10_testNow 113 = .ok (.sipush 197, 3) ∧ 116 = 113 + 3 := ⟨by decide +kernel, rfl⟩
theorem dX10_testNow_116 : decode cX10_testNow 116 = .ok (.iload 7, 2) ∧ 118 = 116 + 2 := ⟨by decide +kernel, rfl⟩
theorem dX10_testNow_118 : decode cX10_testNow 118 = .ok (.i2l, 1) ∧ 119 = 118 + 1 := ⟨by decide +kernel, rfl⟩
theorem dX10_testNow_119 : decode cX10_testNow 119 = .ok (.lastore, 1) ∧ 120 = 119 + 1 := ⟨by decide +kernel, rfl⟩
theorem dX10_testNow_120 : decode cX10_testNow 120 = .ok (.aload_n 0, 1) ∧ 121 = 120 + 1 := ⟨by decide +kernel, rfl⟩
theorem dX10_testNow_121 : decode cX10_testNow 121 = .ok (.getfield 7, 3) ∧ 124 = 121 + 3 := ⟨by decide +kernel, rfl⟩
theorem dX10_testNow_124 : decode cX10_testNow 124 = .ok (.sipush 198, 3) ∧ 127 = 124 + 3 := ⟨by decide +kernel, rfl⟩
theorem dX10_testNow_127 : decode cX10_testNow 127 = .ok (.aload_n 0, 1) ∧ 128 = 127 + 1 := ⟨by decide +kernel, rfl⟩
theorem dX10_testNow_128 : decode cX10_testNow 128 = .ok (.getfield 7, 3) ∧ 131 = 128 + 3 := ⟨by decide +kernel, rfl⟩
theorem dX10_testNow_131 : decode cX10_testNow 131 = .ok (.iconst 4, 1) ∧ 132 = 131 + 1 := ⟨by decide +kernel, rfl⟩
theorem dX10_testNow_132 : decode cX10_testNow 132 = .ok (.laload, 1) ∧ 133 = 132 + 1 := ⟨by decide +kernel, rfl⟩
theorem dX10_testNow_133 : decode cX10_testNow 133 = .ok (.lastore, 1) ∧ 134 = 133 + 1 := ⟨by decide +kernel, rfl⟩
theorem dX10_testNow_134 : decode cX10_testNow 134 = .ok (.aload_n 0, 1) ∧ 135 = 134 + 1 := ⟨by decide +kernel, rfl⟩
theorem dX10_testNow_135 : decode cX10_testNow 135 = .ok (.getfield 7, 3) ∧ 138 = 135 + 3 := ⟨by decide +kernel, rfl⟩
theorem dX10_testNow_138 : decode cX10_testNow 138 = .ok (.sipush 199, 3) ∧ 141 = 138 + 3 := ⟨by decide +kernel, rfl⟩
theorem dX10_testNow_141 : decode cX10_testNow 141 = .ok (.iload_n 2, 1) ∧ 142 = 141 + 1 := ⟨by decide +kernel, rfl⟩
theorem dX10_testNow_142 : decode cX10_testNow 142 = .ok (.i2l, 1) ∧ 143 = 142 + 1 := ⟨by decide +kernel, rfl⟩
theorem dX10_testNow_143 : decode cX10_testNow 143 = .ok (.lastore, 1) ∧ 144 = 143 + 1 := ⟨by decide +kernel, rfl⟩
theorem dX10_testNow_144 : decode cX10_testNow 144 = .ok (.aload_n 0, 1) ∧ 145 = 144 + 1 := ⟨by decide +kernel, rfl⟩
theorem dX10_testNow_145 : decode cX10_testNow 145 = .ok (.getfield 7, 3) ∧ 148 = 145 + 3 := ⟨by decide +kernel, rfl⟩
theorem dX10_testNow_148 : decode cX10_testNow 148 = .ok (.sipush 200, 3) ∧ 151 = 148 + 3 := ⟨by decide +kernel, rfl⟩
theorem dX10_testNow_151 : decode cX10_testNow 151 = .ok (.lload_n 3, 1) ∧ 152 = 151 + 1 := ⟨by decide +kernel, rfl⟩
theorem dX10_testNow_152 : decode cX10_testNow 152 = .ok (.lastore, 1) ∧ 153 = 152 + 1 := ⟨by decide +kernel, rfl⟩
theorem dX10_testNow_153 : decode cX10_testNow 153 = .ok (.aload_n 0, 1) ∧ 154 = 153 + 1 := ⟨by decide +kernel, rfl⟩
theorem dX10_testNow_154 : decode cX10_testNow 154 = .ok (.getfield 7, 3) ∧ 157 = 154 + 3 := ⟨by decide +kernel, rfl⟩
theorem dX10_testNow_157 : decode cX10_testNow 157 = .ok (.sipush 201, 3) ∧ 160 = 157 + 3 := ⟨by decide +kernel, rfl⟩
theorem dX10_testNow_160 : decode cX10_testNow 160 = .ok (.lload 5, 2) ∧ 162 = 160 + 2 := ⟨by decide +kernel, rfl⟩
theorem dX10_testNow_162 : decode cX10_testNow 162 = .ok (.lastore, 1) ∧ 163 = 162 + 1 := ⟨by decide +kernel, rfl⟩
theorem dX10_testNow_163 : decode cX10_testNow 163 = .ok (.aload_n 0, 1) ∧ 164 = 163 + 1 := ⟨by decide +kernel, rfl⟩
theorem dX10_testNow_164 : decode cX10_testNow 164 = .ok (.getfield 7, 3) ∧ 167 = 164 + 3 := ⟨by decide +kernel, rfl⟩
theorem dX10_testNow_167 : decode cX10_testNow 167 = .ok (.bipush 7, 2) ∧ 169 = 167 + 2 := ⟨by decide +kernel, rfl⟩
theorem dX10_testNow_169 : decode cX10_testNow 169 = .ok (.aload_n 0, 1) ∧ 170 = 169 + 1 := ⟨by decide +kernel, rfl⟩
theorem dX10_testNow_170 : decode cX10_testNow 170 = .ok (.getfield 7, 3) ∧ 173 = 170 + 3 := ⟨by decide +kernel, rfl⟩
theorem dX10_testNow_173 : decode cX10_testNow 173 = .ok (.bipush 7, 2) ∧ 175 = 173 + 2 := ⟨by decide +kernel, rfl⟩
theorem dX10_testNow_175 : decode cX10_testNow 175 = .ok (.laload, 1) ∧ 176 = 175 + 1 := ⟨by decide +kernel, rfl⟩
theorem dX10_testNow_176 : decode cX10_testNow 176 = .ok (.lconst 1, 1) ∧ 177 = 176 + 1 := ⟨by decide +kernel, rfl⟩
theorem dX10_testNow_177 : decode cX10_testNow 177 = .ok (.ladd, 1) ∧ 178 = 177 + 1 := ⟨by decide +kernel, rfl⟩
theorem dX10_testNow_178 : decode cX10_testNow 178 = .ok (.ldc2_w 207, 3) ∧ 181 = 178 + 3 := ⟨by decide +kernel, rfl⟩
theorem dX10_testNow_181 : decode cX10_testNow 181 = .ok (.invokestatic 111, 3) ∧ 184 = 181 + 3 := ⟨by decide +kernel, rfl⟩
theorem dX10_testNow_184 : decode cX10_testNow 184 = .ok (.lastore, 1) ∧ 185 = 184 + 1 := ⟨by decide +kernel, rfl⟩
theorem dX10_testNow_185 : decode cX10_testNow 185 = .ok (.iload 7, 2) ∧ 187 = 185 + 2 := ⟨by decide +kernel, rfl⟩
theorem dX10_testNow_187 : decode cX10_testNow 187 = .ok (.ireturn, 1) ∧ 188 = 187 + 1 := ⟨by decide +kernel, rfl⟩
theorem dX10_test_0 : decode cX10_test 0 = .ok (.aload_n 0, 1) ∧ 1 = 0 + 1 := ⟨by decide +kernel, rfl⟩
theorem dX10_test_1 : decode cX10_test 1 = .ok (.aload_n 0, 1) ∧ 2 = 1 + 1 := ⟨by decide +kernel, rfl⟩
theorem dX10_test_2 : decode cX10_test 2 = .ok (.iload_n 1, 1) ∧ 3 = 2 + 1 := ⟨by decide +kernel, rfl⟩
theorem dX10_test_3 : decode cX10_test 3 = .ok (.invokevirtual 179, 3) ∧ 6 = 3 + 3 := ⟨by decide +kernel, rfl⟩
theorem dX10_test_6 : decode cX10_test 6 = .ok (.ifCond .ne 7, 3) ∧ 9 = 6 + 3 := ⟨by decide +kernel, rfl⟩
theorem dX10_test_9 : decode cX10_test 9 = .ok (.iconst 1, 1) ∧ 10 = 9 + 1 := ⟨by decide +kernel, rfl⟩
theorem dX10_test_10 : decode cX10_test 10 = .ok (.goto 4, 3) ∧ 13 = 10 + 3 := ⟨by decide +kernel, rfl⟩
theorem dX10_test_13 : decode cX10_test 13 = .ok (.iconst 0, 1) ∧ 14 = 13 + 1 := ⟨by decide +kernel, rfl⟩
theorem dX10_test_14 : decode cX10_test 14 = .ok (.iconst 1, 1) ∧ 15 = 14 + 1 := ⟨by decide +kernel, rfl⟩
theorem dX10_test_15 : decode cX10_test 15 = .ok (.invokevirtual 151, 3) ∧ 18 = 15 + 3 := ⟨by decide +kernel, rfl⟩
theorem dX10_test_18 : decode cX10_test 18 = .ok (.ifCond .ne 44, 3) ∧ 21 = 18 + 3 := ⟨by decide +kernel, rfl⟩
theorem dX10_test_21 : decode cX10_test 21 = .ok (.aload_n 0, 1) ∧ 22 = 21 + 1 := ⟨by decide +kernel, rfl⟩
theorem dX10_test_22 : decode cX10_test 22 = .ok (.iload_n 2, 1) ∧ 23 = 22 + 1 := ⟨by decide +kernel, rfl⟩
theorem dX10_test_23 : decode cX10_test 23 = .ok (.invokestatic 214, 3) ∧ 26 = 23 + 3 := ⟨by decide +kernel, rfl⟩
theorem dX10_test_26 : decode cX10_test 26 = .ok (.ifCond .ne 7, 3) ∧ 29 = 26 + 3 := ⟨by decide +kernel, rfl⟩
theorem dX10_test_29 : decode cX10_test 29 = .ok (.iconst 1, 1) ∧ 30 = 29 + 1 := ⟨by decide +kernel, rfl⟩
theorem dX10_test_30 : decode cX10_test 30 = .ok (.goto 4, 3) ∧ 33 = 30 + 3 := ⟨by decide +kernel, rfl⟩
theorem dX10_test_33 : decode cX10_test 33 = .ok (.iconst 0, 1) ∧ 34 = 33 + 1 := ⟨by decide +kernel, rfl⟩
theorem dX10_test_34 : decode cX10_test 34 = .ok (.iconst 2, 1) ∧ 35 = 34 + 1 := ⟨by decide +kernel, rfl⟩
theorem dX10_test_35 : decode cX10_test 35 = .ok (.invokevirtual 151, 3) ∧ 38 = 35 + 3 := ⟨by decide +kernel, rfl⟩
theorem dX10_test_38 : decode cX10_test 38 = .ok (.ifCond .ne 24, 3) ∧ 41 = 38 + 3 := ⟨by decide +kernel, rfl⟩
theorem dX10_test_41 : decode cX10_test 41 = .ok (.aload_n 0, 1) ∧ 42 = 41 + 1 := ⟨by decide +kernel, rfl⟩
theorem dX10_test_42 : decode cX10_test 42 = .ok (.aload_n 0, 1) ∧ 43 = 42 + 1 := ⟨by decide +kernel, rfl⟩
theorem dX10_test_43 : decode cX10_test 43 = .ok (.iload_n 1, 1) ∧ 44 = 43 + 1 := ⟨by decide +kernel, rfl⟩
theorem dX10_test_44 : decode cX10_test 44 = .ok (.invokevirtual 217, 3) ∧ 47 = 44 + 3 := ⟨by decide +kernel, rfl⟩
theorem dX10_test_47 : decode cX10_test 47 = .ok (.ifCond .ne 7, 3) ∧ 50 = 47 + 3 := ⟨by decide +kernel, rfl⟩
theorem dX10_test_50 : decode cX10_test 50 = .ok (.iconst 1, 1) ∧ 51 = 50 + 1 := ⟨by decide +kernel, rfl⟩
theorem dX10_test_51 : decode cX10_test 51 = .ok (.goto 4, 3) ∧ 54 = 51 + 3 := ⟨by decide +kernel, rfl⟩
theorem dX10_test_54 : decode cX10_test 54 = .ok (.iconst 0, 1) ∧ 55 = 54 + 1 := ⟨by decide +kernel, rfl⟩
theorem dX10_test_55 : decode cX10_test 55 = .ok (.iconst 3, 1) ∧ 56 = 55 + 1 := ⟨by decide +kernel, rfl⟩
theorem dX10_test_56 : decode cX10_test 56 = .ok (.invokevirtual 151, 3) ∧ 59 = 56 + 3 := ⟨by decide +kernel, rfl⟩
theorem dX10_test_59 : decode cX10_test 59 = .ok (.ifCond .eq 5, 3) ∧ 62 = 59 + 3 := ⟨by decide +kernel, rfl⟩
theorem dX10_test_62 : decode cX10_test 62 = .ok (.iconst 0, 1) ∧ 63 = 62 + 1 := ⟨by decide +kernel, rfl⟩
theorem dX10_test_63 : decode cX10_test 63 = .ok (.ireturn, 1) ∧ 64 = 63 + 1 := ⟨by decide +kernel, rfl⟩
theorem dX10_test_64 : decode cX10_test 64 = .ok (.aload_n 0, 1) ∧ 65 = 64 + 1 := ⟨by decide +kernel, rfl⟩
theorem dX10_test_65 : decode cX10_test 65 = .ok (.invokevirtual 158, 3) ∧ 68 = 65 + 3 := ⟨by decide +kernel, rfl⟩
theorem dX10_test_68 : decode cX10_test 68 = .ok (.aload_n 0, 1) ∧ 69 = 68 + 1 := ⟨by decide +kernel, rfl⟩
theorem dX10_test_69 : decode cX10_test 69 = .ok (.iload_n 1, 1) ∧ 70 = 69 + 1 := ⟨by decide +kernel, rfl⟩
theorem dX10_test_70 : decode cX10_test 70 = .ok (.iload_n 2, 1) ∧ 71 = 70 + 1 := ⟨by decide +kernel, rfl⟩
theorem dX10_test_71 : decode cX10_test 71 = .ok (.invokevirtual 220, 3) ∧ 74 = 71 + 3 := ⟨by decide +kernel, rfl⟩
theorem dX10_test_74 : decode cX10_test 74 = .ok (.ireturn, 1) ∧ 75 = 74 + 1 := ⟨by decide +kernel, rfl⟩
theorem dX10_bring_0 : decode cX10_bring 0 = .ok (.iconst 3, 1) ∧ 1 = 0 + 1 := ⟨by decide +kernel, rfl⟩
theorem dX10_bring_1 : decode cX10_bring 1 = .ok (.istore_n 2, 1) ∧ 2 = 1 + 1 := ⟨by decide +kernel, rfl⟩
theorem dX10_bring_2 : decode cX10_bring 2 = .ok (.iload_n 2, 1) ∧ 3 = 2 + 1 := ⟨by decide +kernel, rfl⟩
theorem dX10_bring_3 : decode cX10_bring 3 = .ok (.ifCond .lt 32, 3) ∧ 6 = 3 + 3 := ⟨by decide +kernel, rfl⟩
theorem dX10_bring_6 : decode cX10_bring 6 = .ok (.aload_n 0, 1) ∧ 7 = 6 + 1 := ⟨by decide +kernel, rfl⟩
theorem dX10_bring_7 : decode cX10_bring 7 = .ok (.getfield 25, 3) ∧ 10 = 7 + 3 := ⟨by decide +kernel, rfl⟩
theorem dX10_bring_10 : decode cX10_bring 10 = .ok (.aload_n 0, 1) ∧ 11 = 10 + 1 := ⟨by decide +kernel, rfl⟩
theorem dX10_bring_11 : decode cX10_bring 11 = .ok (.dup, 1) ∧ 12 = 11 + 1 := ⟨by decide +kernel, rfl⟩
theorem dX10_bring_12 : decode cX10_bring 12 = .ok (.getfield 223, 3) ∧ 15 = 12 + 3 := ⟨by decide +kernel, rfl⟩
theorem dX10_bring_15 : decode cX10_bring 15 = .ok (.dup_x1, 1) ∧ 16 = 15 + 1 := ⟨by decide +kernel, rfl⟩
theorem dX10_bring_16 : decode cX10_bring 16 = .ok (.iconst 1, 1) ∧ 17 = 16 + 1 := ⟨by decide +kernel, rfl⟩
theorem dX10_bring_17 : decode cX10_bring 17 = .ok (.iadd, 1) ∧ 18 = 17 + 1 := ⟨by decide +kernel, rfl⟩
theorem dX10_bring_18 : decode cX10_bring 18 = .ok (.putfield 223, 3) ∧ 21 = 18 + 3 := ⟨by decide +kernel, rfl⟩
theorem dX10_bring_21 : decode cX10_bring 21 = .ok (.iload_n 1, 1) ∧ 22 = 21 + 1 := ⟨by decide +kernel, rfl⟩
theorem dX10_bring_22 : decode cX10_bring 22 = .ok (.bipush 8, 2) ∧ 24 = 22 + 2 := ⟨by decide +kernel, rfl⟩
theorem dX10_bring_24 : decode cX10_bring 24 = .ok (.iload_n 2, 1) ∧ 25 = 24 + 1 := ⟨by decide +kernel, rfl⟩
theorem dX10_bring_25 : decode cX10_bring 25 = .ok (.imul, 1) ∧ 26 = 25 + 1 := ⟨by decide +kernel, rfl⟩
theorem dX10_bring_26 : decode cX10_bring 26 = .ok (.ishr, 1) ∧ 27 = 26 + 1 := ⟨by decide +kernel, rfl⟩
theorem dX10_bring_27 : decode cX10_bring 27 = .ok (.i2b, 1) ∧ 28 = 27 + 1 := ⟨by decide +kernel, rfl⟩
theorem dX10_bring_28 : decode cX10_bring 28 = .ok (.bastore, 1) ∧ 29 = 28 + 1 := ⟨by decide +kernel, rfl⟩
theorem dX10_bring_29 : decode cX10_bring 29 = .ok (.iinc 2 (-1), 3) ∧ 32 = 29 + 3 := ⟨by decide +kernel, rfl⟩
theorem dX10_bring_32 : decode cX10_bring 32 = .ok (.goto (-30), 3) ∧ 35 = 32 + 3 := ⟨by decide +kernel, rfl⟩
theorem dX10_bring_35 : decode cX10_bring 35 = .ok (.return_, 1) ∧ 36 = 35 + 1 := ⟨by decide +kernel, rfl⟩
theorem dX10_appendText_0 : decode cX10_appendText 0 = .ok (.aload_n 0, 1) ∧ 1 = 0 + 1 := ⟨by decide +kernel, rfl⟩
theorem dX10_appendText_1 : decode cX10_appendText 1 = .ok (.getfield 223, 3) ∧ 4 = 1 + 3 := ⟨by decide +kernel, rfl⟩
theorem dX10_appendText_4 : decode cX10_appendText 4 = .ok (.bipush 20, 2) ∧ 6 = 4 + 2 := ⟨by decide +kernel, rfl⟩
theorem dX10_appendText_6 : decode cX10_appendText 6 = .ok (.iadd, 1) ∧ 7 = 6 + 1 := ⟨by decide +kernel, rfl⟩
theorem dX10_appendText_7 : decode cX10_appendText 7 = .ok (.sipush 900, 3) ∧ 10 = 7 + 3 := ⟨by decide +kernel, rfl⟩
theorem dX10_appendText_10 : decode cX10_appendText 10 = .ok (.if_icmp .le 9, 3) ∧ 13 = 10 + 3 := ⟨by decide +kernel, rfl⟩
theorem dX10_appendText_13 : decode cX10_appendText 13 = .ok (.aload_n 0, 1) ∧ 14 = 13 + 1 := ⟨by decide +kernel, rfl⟩
theorem dX10_appendText_14 : decode cX10_appendText 14 = .ok (.iconst 1, 1) ∧ 15 = 14 + 1 := ⟨by decide +kernel, rfl⟩
theorem dX10_appendText_15 : decode cX10_appendText 15 = .ok (.invokevirtual 57, 3) ∧ 18 = 15 + 3 := ⟨by decide +kernel, rfl⟩
theorem dX10_appendText_18 : decode cX10_appendText 18 = .ok (.ireturn, 1) ∧ 19 = 18 + 1 := ⟨by decide +kernel, rfl⟩
theorem dX10_appendText_19 : decode cX10_appendText 19 = .ok (.aload_n 0, 1) ∧ 20 = 19 + 1 := ⟨by decide +kernel, rfl⟩
theorem dX10_appendText_20 : decode cX10_appendText 20 = .ok (.iconst 0, 1) ∧ 21 = 20 + 1 := ⟨by decide +kernel, rfl⟩
theorem dX10_appendText_21 : decode cX10_appendText 21 = .ok (.putfield 36, 3) ∧ 24 = 21 + 3 := ⟨by decide +kernel, rfl⟩
theorem dX10_appendText_24 : decode cX10_appendText 24 = .ok (.aload_n 0, 1) ∧ 25 = 24 + 1 := ⟨by decide +kernel, rfl⟩
theorem dX10_appendText_25 : decode cX10_appendText 25 = .ok (.iload_n 1, 1) ∧ 26 = 25 + 1 := ⟨by decide +kernel, rfl⟩
theorem dX10_appendText_26 : decode cX10_appendText 26 = .ok (.invokevirtual 226, 3) ∧ 29 = 26 + 3 := ⟨by decide +kernel, rfl⟩
theorem dX10_appendText_29 : decode cX10_appendText 29 = .ok (.aload_n 0, 1) ∧ 30 = 29 + 1 := ⟨by decide +kernel, rfl⟩
theorem dX10_appendText_30 : decode cX10_appendText 30 = .ok (.iload_n 2, 1) ∧ 31 = 30 + 1 := ⟨by decide +kernel, rfl⟩
theorem dX10_appendText_31 : decode cX10_appendText 31 = .ok (.invokevirtual 226, 3) ∧ 34 = 31 + 3 := ⟨by decide +kernel, rfl⟩
theorem dX10_appendText_34 : decode cX10_appendText 34 = .ok (.aload_n 0, 1) ∧ 35 = 34 + 1 := ⟨by decide +kernel, rfl⟩
theorem dX10_appendText_35 : decode cX10_appendText 35 = .ok (.iload_n 3, 1) ∧ 36 = 35 + 1 := ⟨by decide +kernel, rfl⟩
theorem dX10_appendText_36 : decode cX10_appendText 36 = .ok (.invokevirtual 226, 3) ∧ 39 = 36 + 3 := ⟨by decide +kernel, rfl⟩
theorem dX10_appendText_39 : decode cX10_appendText 39 = .ok (.aload_n 0, 1) ∧ 40 = 39 + 1 := ⟨by decide +kernel, rfl⟩
theorem dX10_appendText_40 : decode cX10_appendText 40 = .ok (.iload 4, 2) ∧ 42 = 40 + 2 := ⟨by decide +kernel, rfl⟩
theorem dX10_appendText_42 : decode cX10_appendText 42 = .ok (.invokevirtual 226, 3) ∧ 45 = 42 + 3 := ⟨by decide +kernel, rfl⟩
theorem dX10_appendText_45 : decode cX10_appendText 45 = .ok (.aload_n 0, 1) ∧ 46 = 45 + 1 := ⟨by decide +kernel, rfl⟩
theorem dX10_appendText_46 : decode cX10_appendText 46 = .ok (.iload 5, 2) ∧ 48 = 46 + 2 := ⟨by decide +kernel, rfl⟩
theorem dX10_appendText_48 : decode cX10_appendText 48 = .ok (.invokevirtual 226, 3) ∧ 51 = 48 + 3 := ⟨by decide +kernel, rfl⟩
theorem dX10_appendText_51 : decode cX10_appendText 51 = .ok (.aload_n 0, 1) ∧ 52 = 51 + 1 := ⟨by decide +kernel, rfl⟩
theorem dX10_appendText_52 : decode cX10_appendText 52 = .ok (.getfield 223, 3) ∧ 55 = 52 + 3 := ⟨by decide +kernel, rfl⟩
theorem dX10_appendText_55 : decode cX10_appendText 55 = .ok (.ireturn, 1) ∧ 56 = 55 + 1 := ⟨by decide +kernel, rfl⟩
theorem dX10_truncateText_0 : decode cX10_truncateText 0 = .ok (.iload_n 1, 1) ∧ 1 = 0 + 1 := ⟨by decide +kernel, rfl⟩
theorem dX10_truncateText_1 : decode cX10_truncateText 1 = .ok (.i2l, 1) ∧ 2 = 1 + 1 := ⟨by decide +kernel, rfl⟩
theorem dX10_truncateText_2 : decode cX10_truncateText 2 = .ok (.lconst 0, 1) ∧ 3 = 2 + 1 := ⟨by decide +kernel, rfl⟩
theorem dX10_truncateText_3 : decode cX10_truncateText 3 = .ok (.aload_n 0, 1) ∧ 4 = 3 + 1 := ⟨by decide +kernel, rfl⟩
theorem dX10_truncateText_4 : decode cX10_truncateText 4 = .ok (.getfield 223, 3) ∧ 7 = 4 + 3 := ⟨by decide +kernel, rfl⟩
theorem dX10_truncateText_7 : decode cX10_truncateText 7 = .ok (.i2l, 1) ∧ 8 = 7 + 1 := ⟨by decide +kernel, rfl⟩
theorem dX10_truncateText_8 : decode cX10_truncateText 8 = .ok (.invokestatic 39, 3) ∧ 11 = 8 + 3 := ⟨by decide +kernel, rfl⟩
theorem dX10_truncateText_11 : decode cX10_truncateText 11 = .ok (.ifCond .ne 9, 3) ∧ 14 = 11 + 3 := ⟨by decide +kernel, rfl⟩
theorem dX10_truncateText_14 : decode cX10_truncateText 14 = .ok (.aload_n 0, 1) ∧ 15 = 14 + 1 := ⟨by decide +kernel, rfl⟩
theorem dX10_truncateText_15 : decode cX10_truncateText 15 = .ok (.iconst 1, 1) ∧ 16 = 15 + 1 := ⟨by decide +kernel, rfl⟩
theorem dX10_truncateText_16 : decode cX10_truncateText 16 = .ok (.invokevirtual 57, 3) ∧ 19 = 16 + 3 := ⟨by decide +kernel, rfl⟩
theorem dX10_truncateText_19 : decode cX10_truncateText 19 = .ok (.ireturn, 1) ∧ 20 = 19 + 1 := ⟨by decide +kernel, rfl⟩
theorem dX10_truncateText_20 : decode cX10_truncateText 20 = .ok (.aload_n 0, 1) ∧ 21 = 20 + 1 := ⟨by decide +kernel, rfl⟩
theorem dX10_truncateText_21 : decode cX10_truncateText 21 = .ok (.iconst 0, 1) ∧ 22 = 21 + 1 := ⟨by decide +kernel, rfl⟩
theorem dX10_truncateText_22 : decode cX10_truncateText 22 = .ok (.putfield 36, 3) ∧ 25 = 22 + 3 := ⟨by decide +kernel, rfl⟩
theorem dX10_truncateText_25 : decode cX10_truncateText 25 = .ok (.aload_n 0, 1) ∧ 26 = 25 + 1 := ⟨by decide +kernel, rfl⟩
theorem dX10_truncateText_26 : decode cX10_truncateText 26 = .ok (.iload_n 1, 1) ∧ 27 = 26 + 1 := ⟨by decide +kernel, rfl⟩
theorem dX10_truncateText_27 : decode cX10_truncateText 27 = .ok (.putfield 223, 3) ∧ 30 = 27 + 3 := ⟨by decide +kernel, rfl⟩
theorem dX10_truncateText_30 : decode cX10_truncateText 30 = .ok (.iload_n 1, 1) ∧ 31 = 30 + 1 := ⟨by decide +kernel, rfl⟩
theorem dX10_truncateText_31 : decode cX10_truncateText 31 = .ok (.ireturn, 1) ∧ 32 = 31 + 1 := ⟨by decide +kernel, rfl⟩
theorem dX10_byteAt_0 : decode cX10_byteAt 0 = .ok (.iload_n 1, 1) ∧ 1 = 0 + 1 := ⟨by decide +kernel, rfl⟩
theorem dX10_byteAt_1 : decode cX10_byteAt 1 = .ok (.aload_n 0, 1) ∧ 2 = 1 + 1 := ⟨by decide +kernel, rfl⟩
theorem dX10_byteAt_2 : decode cX10_byteAt 2 = .ok (.getfield 229, 3) ∧ 5 = 2 + 3 := ⟨by decide +kernel, rfl⟩
theorem dX10_byteAt_5 : decode cX10_byteAt 5 = .ok (.if_icmp .ge 16, 3) ∧ 8 = 5 + 3 := ⟨by decide +kernel, rfl⟩
theorem dX10_byteAt_8 : decode cX10_byteAt 8 = .ok (.aload_n 0, 1) ∧ 9 = 8 + 1 := ⟨by decide +kernel, rfl⟩
theorem dX10_byteAt_9 : decode cX10_byteAt 9 = .ok (.getfield 25, 3) ∧ 12 = 9 + 3 := ⟨by decide +kernel, rfl⟩
theorem dX10_byteAt_12 : decode cX10_byteAt 12 = .ok (.iload_n 1, 1) ∧ 13 = 12 + 1 := ⟨by decide +kernel, rfl⟩
theorem dX10_byteAt_13 : decode cX10_byteAt 13 = .ok (.baload, 1) ∧ 14 = 13 + 1 := ⟨by decide +kernel, rfl⟩
theorem dX10_byteAt_14 : decode cX10_byteAt 14 = .ok (.sipush 255, 3) ∧ 17 = 14 + 3 := ⟨by decide +kernel, rfl⟩
theorem dX10_byteAt_17 : decode cX10_byteAt 17 = .ok (.iand, 1) ∧ 18 = 17 + 1 := ⟨by decide +kernel, rfl⟩
theorem dX10_byteAt_18 : decode cX10_byteAt 18 = .ok (.goto 4, 3) ∧ 21 = 18 + 3 := ⟨by decide +kernel, rfl⟩
theorem dX10_byteAt_21 : decode cX10_byteAt 21 = .ok (.iconst (-1), 1) ∧ 22 = 21 + 1 := ⟨by decide +kernel, rfl⟩
theorem dX10_byteAt_22 : decode cX10_byteAt 22 = .ok (.ireturn, 1) ∧ 23 = 22 + 1 := ⟨by decide +kernel, rfl⟩
theorem dX10_isLetterAt_0 : decode cX10_isLetterAt 0 = .ok (.aload_n 0, 1) ∧ 1 = 0 + 1 := ⟨by decide +kernel, rfl⟩
theorem dX10_isLetterAt_1 : decode cX10_isLetterAt 1 = .ok (.iload_n 1, 1) ∧ 2 = 1 + 1 := ⟨by decide +kernel, rfl⟩
theorem dX10_isLetterAt_2 : decode cX10_isLetterAt 2 = .ok (.invokevirtual 232, 3) ∧ 5 = 2 + 3 := ⟨by decide +kernel, rfl⟩
theorem dX10_isLetterAt_5 : decode cX10_isLetterAt 5 = .ok (.i2l, 1) ∧ 6 = 5 + 1 := ⟨by decide +kernel, rfl⟩
theorem dX10_isLetterAt_6 : decode cX10_isLetterAt 6 = .ok (.ldc2_w 235, 3) ∧ 9 = 6 + 3 := ⟨by decide +kernel, rfl⟩
theorem dX10_isLetterAt_9 : decode cX10_isLetterAt 9 = .ok (.ldc2_w 237, 3) ∧ 12 = 9 + 3 := ⟨by decide +kernel, rfl⟩
theorem dX10_isLetterAt_12 : decode cX10_isLetterAt 12 = .ok (.invokestatic 39, 3) ∧ 15 = 12 + 3 := ⟨by decide +kernel, rfl⟩
theorem dX10_isLetterAt_15 : decode cX10_isLetterAt 15 = .ok (.ireturn, 1) ∧ 16 = 15 + 1 := ⟨by decide +kernel, rfl⟩
theorem dX10_isDigitAt_0 : decode cX10_isDigitAt 0 = .ok (.aload_n 0, 1) ∧ 1 = 0 + 1 := ⟨by decide +kernel, rfl⟩
theorem dX10_isDigitAt_1 : decode cX10_isDigitAt 1 = .ok (.iload_n 1, 1) ∧ 2 = 1 + 1 := ⟨by decide +kernel, rfl⟩
theorem dX10_isDigitAt_2 : decode cX10_isDigitAt 2 = .ok (.invokevirtual 232, 3) ∧ 5 = 2 + 3 := ⟨by decide +kernel, rfl⟩
theorem dX10_isDigitAt_5 : decode cX10_isDigitAt 5 = .ok (.i2l, 1) ∧ 6 = 5 + 1 := ⟨by decide +kernel, rfl⟩
theorem dX10_isDigitAt_6 : decode cX10_isDigitAt 6 = .ok (.ldc2_w 239, 3) ∧ 9 = 6 + 3 := ⟨by decide +kernel, rfl⟩
theorem dX10_isDigitAt_9 : decode cX10_isDigitAt 9 = .ok (.ldc2_w 241, 3) ∧ 12 = 9 + 3 := ⟨by decide +kernel, rfl⟩
theorem dX10_isDigitAt_12 : decode cX10_isDigitAt 12 = .ok (.invokestatic 39, 3) ∧ 15 = 12 + 3 := ⟨by decide +kernel, rfl⟩
theorem dX10_isDigitAt_15 : decode cX10_isDigitAt 15 = .ok (.ireturn, 1) ∧ 16 = 15 + 1 := ⟨by decide +kernel, rfl⟩
theorem dX10_next_0 : decode cX10_next 0 = .ok (.aload_n 0, 1) ∧ 1 = 0 + 1 := ⟨by decide +kernel, rfl⟩
theorem dX10_next_1 : decode cX10_next 1 = .ok (.aload_n 0, 1) ∧ 2 = 1 + 1 := ⟨by decide +kernel, rfl⟩
theorem dX10_next_2 : decode cX10_next 2 = .ok (.getfield 243, 3) ∧ 5 = 2 + 3 := ⟨by decide +kernel, rfl⟩
theorem dX10_next_5 : decode cX10_next 5 = .ok (.putfield 246, 3) ∧ 8 = 5 + 3 := ⟨by decide +kernel, rfl⟩
theorem dX10_next_8 : decode cX10_next 8 = .ok (.aload_n 0, 1) ∧ 9 = 8 + 1 := ⟨by decide +kernel, rfl⟩
theorem dX10_next_9 : decode cX10_next 9 = .ok (.aload_n 0, 1) ∧ 10 = 9 + 1 := ⟨by decide +kernel, rfl⟩
theorem dX10_next_10 : decode cX10_next 10 = .ok (.getfield 246, 3) ∧ 13 = 10 + 3 := ⟨by decide +kernel, rfl⟩
theorem dX10_next_13 : decode cX10_next 13 = .ok (.invokevirtual 232, 3) ∧ 16 = 13 + 3 := ⟨by decide +kernel, rfl⟩
theorem dX10_next_16 : decode cX10_next 16 = .ok (.bipush 32, 2) ∧ 18 = 16 + 2 := ⟨by decide +kernel, rfl⟩
theorem dX10_next_18 : decode cX10_next 18 = .ok (.if_icmp .eq 16, 3) ∧ 21 = 18 + 3 := ⟨by decide +kernel, rfl⟩
theorem dX10_next_21 : decode cX10_next 21 = .ok (.aload_n 0, 1) ∧ 22 = 21 + 1 := ⟨by decide +kernel, rfl⟩
theorem dX10_next_22 : decode cX10_next 22 = .ok (.aload_n 0, 1) ∧ 23 = 22 + 1 := ⟨by decide +kernel, rfl⟩
theorem dX10_next_23 : decode cX10_next 23 = .ok (.getfield 246, 3) ∧ 26 = 23 + 3 := ⟨by decide +kernel, rfl⟩
theorem dX10_next_26 : decode cX10_next 26 = .ok (.invokevirtual 232, 3) ∧ 29 = 26 + 3 := ⟨by decide +kernel, rfl⟩
theorem dX10_next_29 : decode cX10_next 29 = .ok (.bipush 10, 2) ∧ 31 = 29 + 2 := ⟨by decide +kernel, rfl⟩
theorem dX10_next_31 : decode cX10_next 31 = .ok (.if_icmp .ne 16, 3) ∧ 34 = 31 + 3 := ⟨by decide +kernel, rfl⟩
theorem dX10_next_34 : decode cX10_next 34 = .ok (.aload_n 0, 1) ∧ 35 = 34 + 1 := ⟨by decide +kernel, rfl⟩
theorem dX10_next_35 : decode cX10_next 35 = .ok (.dup, 1) ∧ 36 = 35 + 1 := ⟨by decide +kernel, rfl⟩
theorem dX10_next_36 : decode cX10_next 36 = .ok (.getfield 246, 3) ∧ 39 = 36 + 3 := ⟨by decide +kernel, rfl⟩
theorem dX10_next_39 : decode cX10_next 39 = .ok (.iconst 1, 1) ∧ 40 = 39 + 1 := ⟨by decide +kernel, rfl⟩
theorem dX10_next_40 : decode cX10_next 40 = .ok (.iadd, 1) ∧ 41 = 40 + 1 := ⟨by decide +kernel, rfl⟩
theorem dX10_next_41 : decode cX10_next 41 = .ok (.putfield 246, 3) ∧ 44 = 41 + 3 := ⟨by decide +kernel, rfl⟩
theorem dX10_next_44 : decode cX10_next 44 = .ok (.goto (-36), 3) ∧ 47 = 44 + 3 := ⟨by decide +kernel, rfl⟩
theorem dX10_next_47 : decode cX10_next 47 = .ok (.aload_n 0, 1) ∧ 48 = 47 + 1 := ⟨by decide +kernel, rfl⟩
theorem dX10_next_48 : decode cX10_next 48 = .ok (.aload_n 0, 1) ∧ 49 = 48 + 1 := ⟨by decide +kernel, rfl⟩
theorem dX10_next_49 : decode cX10_next 49 = .ok (.getfield 246, 3) ∧ 52 = 49 + 3 := ⟨by decide +kernel, rfl⟩
theorem dX10_next_52 : decode cX10_next 52 = .ok (.putfield 243, 3) ∧ 55 = 52 + 3 := ⟨by decide +kernel, rfl⟩
theorem dX10_next_55 : decode cX10_next 55 = .ok (.aload_n 0, 1) ∧ 56 = 55 + 1 := ⟨by decide +kernel, rfl⟩
theorem dX10_next_56 : decode cX10_next 56 = .ok (.aload_n 0, 1) ∧ 57 = 56 + 1 := ⟨by decide +kernel, rfl⟩
theorem dX10_next_57 : decode cX10_next 57 = .ok (.getfield 243, 3) ∧ 60 = 57 + 3 := ⟨by decide +kernel, rfl⟩
theorem dX10_next_60 : decode cX10_next 60 = .ok (.invokevirtual 249, 3) ∧ 63 = 60 + 3 := ⟨by decide +kernel, rfl⟩
theorem dX10_next_63 : decode cX10_next 63 = .ok (.ifCond .eq 27, 3) ∧ 66 = 63 + 3 := ⟨by decide +kernel, rfl⟩
theorem dX10_next_66 : decode cX10_next 66 = .ok (.aload_n 0, 1) ∧ 67 = 66 + 1 := ⟨by decide +kernel, rfl⟩
theorem dX10_next_67 : decode cX10_next 67 = .ok (.aload_n 0, 1) ∧ 68 = 67 + 1 := ⟨by decide +kernel, rfl⟩
theorem dX10_next_68 : decode cX10_next 68 = .ok (.getfield 243, 3) ∧ 71 = 68 + 3 := ⟨by decide +kernel, rfl⟩
theorem dX10_next_71 : decode cX10_next 71 = .ok (.invokevirtual 249, 3) ∧ 74 = 71 + 3 := ⟨by decide +kernel, rfl⟩
theorem dX10_next_74 : decode cX10_next 74 = .ok (.ifCond .eq 72, 3) ∧ 77 = 74 + 3 := ⟨by decide +kernel, rfl⟩
theorem dX10_next_77 : decode cX10_next 77 = .ok (.aload_n 0, 1) ∧ 78 = 77 + 1 := ⟨by decide +kernel, rfl⟩
theorem dX10_next_78 : decode cX10_next 78 = .ok (.dup, 1) ∧ 79 = 78 + 1 := ⟨by decide +kernel, rfl⟩
theorem dX10_next_79 : decode cX10_next 79 = .ok (.getfield 243, 3) ∧ 82 = 79 + 3 := ⟨by decide +kernel, rfl⟩
theorem dX10_next_82 : decode cX10_next 82 = .ok (.iconst 1, 1) ∧ 83 = 82 + 1 := ⟨by decide +kernel, rfl⟩
theorem dX10_next_83 : decode cX10_next 83 = .ok (.iadd, 1) ∧ 84 = 83 + 1 := ⟨by decide +kernel, rfl⟩
theorem dX10_next_84 : decode cX10_next 84 = .ok (.putfield 243, 3) ∧ 87 = 84 + 3 := ⟨by decide +kernel, rfl⟩
theorem dX10_next_87 : decode cX10_next 87 = .ok (.goto (-21), 3) ∧ 90 = 87 + 3 := ⟨by decide +kernel, rfl⟩
theorem dX10_next_90 : decode cX10_next 90 = .ok (.aload_n 0, 1) ∧ 91 = 90 + 1 := ⟨by decide +kernel, rfl⟩
theorem dX10_next_91 : decode cX10_next 91 = .ok (.aload_n 0, 1) ∧ 92 = 91 + 1 := ⟨by decide +kernel, rfl⟩
theorem dX10_next_92 : decode cX10_next 92 = .ok (.getfield 243, 3) ∧ 95 = 92 + 3 := ⟨by decide +kernel, rfl⟩
theorem dX10_next_95 : decode cX10_next 95 = .ok (.invokevirtual 252, 3) ∧ 98 = 95 + 3 := ⟨by decide +kernel, rfl⟩
theorem dX10_next_98 : decode cX10_next 98 = .ok (.ifCond .eq 27, 3) ∧ 101 = 98 + 3 := ⟨by decide +kernel, rfl⟩
theorem dX10_next_101 : decode cX10_next 101 = .ok (.aload_n 0, 1) ∧ 102 = 101 + 1 := ⟨by decide +kernel, rfl⟩
theorem dX10_next_102 : decode cX10_next 102 = .ok (.aload_n 0, 1) ∧ 103 = 102 + 1 := ⟨by decide +kernel, rfl⟩
theorem dX10_next_103 : decode cX10_next 103 = .ok (.getfield 243, 3) ∧ 106 = 103 + 3 := ⟨by decide +kernel, rfl⟩
theorem dX10_next_106 : decode cX10_next 106 = .ok (.invokevirtual 252, 3) ∧ 109 = 106 + 3 := ⟨by decide +kernel, rfl⟩
theorem dX10_next_109 : decode cX10_next 109 = .ok (.ifCond .eq 37, 3) ∧ 112 = 109 + 3 := ⟨by decide +kernel, rfl⟩
theorem dX10_next_112 : decode cX10_next 112 = .ok (.aload_n 0, 1) ∧ 113 = 112 + 1 := ⟨by decide +kernel, rfl⟩
theorem dX10_next_113 : decode cX10_next 113 = .ok (.dup, 1) ∧ 114 = 113 + 1 := ⟨by decide +kernel, rfl⟩
theorem dX10_next_114 : decode cX10_next 114 = .ok (.getfield 243, 3) ∧ 117 = 114 + 3 := ⟨by decide +kernel, rfl⟩
theorem dX10_next_117 : decode cX10_next 117 = .ok (.iconst 1, 1) ∧ 118 = 117 + 1 := ⟨by decide +kernel, rfl⟩
theorem dX10_next_118 : decode cX10_next 118 = .ok (.iadd, 1) ∧ 119 = 118 + 1 := ⟨by decide +kernel, rfl⟩
theorem dX10_next_119 : decode cX10_next 119 = .ok (.putfield 243, 3) ∧ 122 = 119 + 3 := ⟨by decide +kernel, rfl⟩
theorem dX10_next_122 : decode cX10_next 122 = .ok (.goto (-21), 3) ∧ 125 = 122 + 3 := ⟨by decide +kernel, rfl⟩
theorem dX10_next_125 : decode cX10_next 125 = .ok (.aload_n 0, 1) ∧ 126 = 125 + 1 := ⟨by decide +kernel, rfl⟩
theorem dX10_next_126 : decode cX10_next 126 = .ok (.getfield 243, 3) ∧ 129 = 126 + 3 := ⟨by decide +kernel, rfl⟩
theorem dX10_next_129 : decode cX10_next 129 = .ok (.aload_n 0, 1) ∧ 130 = 129 + 1 := ⟨by decide +kernel, rfl⟩
theorem dX10_next_130 : decode cX10_next 130 = .ok (.getfield 229, 3) ∧ 133 = 130 + 3 := ⟨by decide +kernel, rfl⟩
theorem dX10_next_133 : decode cX10_next 133 = .ok (.if_icmp .ge 13, 3) ∧ 136 = 133 + 3 := ⟨by decide +kernel, rfl⟩
theorem dX10_next_136 : decode cX10_next 136 = .ok (.aload_n 0, 1) ∧ 137 = 136 + 1 := ⟨by decide +kernel, rfl⟩
theorem dX10_next_137 : decode cX10_next 137 = .ok (.dup, 1) ∧ 138 = 137 + 1 := ⟨by decide +kernel, rfl⟩
theorem dX10_next_138 : decode cX10_next 138 = .ok (.getfield 243, 3) ∧ 141 = 138 + 3 := ⟨by decide +kernel, rfl⟩
theorem dX10_next_141 : decode cX10_next 141 = .ok (.iconst 1, 1) ∧ 142 = 141 + 1 := ⟨by decide +kernel, rfl⟩
theorem dX10_next_142 : decode cX10_next 142 = .ok (.iadd, 1) ∧ 143 = 142 + 1 := ⟨by decide +kernel, rfl⟩
theorem dX10_next_143 : decode cX10_next 143 = .ok (.putfield 243, 3) ∧ 146 = 143 + 3 := ⟨by decide +kernel, rfl⟩
theorem dX10_next_146 : decode cX10_next 146 = .ok (.return_, 1) ∧ 147 = 146 + 1 := ⟨by decide +kernel, rfl⟩
theorem dX10_wrong_0 : decode cX10_wrong 0 = .ok (.aload_n 0, 1) ∧ 1 = 0 + 1 := ⟨by decide +kernel, rfl⟩
theorem dX10_wrong_1 : decode cX10_wrong 1 = .ok (.getfield 255, 3) ∧ 4 = 1 + 3 := ⟨by decide +kernel, rfl⟩
theorem dX10_wrong_4 : decode cX10_wrong 4 = .ok (.ifCond .le 4, 3) ∧ 7 = 4 + 3 := ⟨by decide +kernel, rfl⟩
theorem dX10_wrong_7 : decode cX10_wrong 7 = .ok (.return_, 1) ∧ 8 = 7 + 1 := ⟨by decide +kernel, rfl⟩
theorem dX10_wrong_8 : decode cX10_wrong 8 = .ok (.aload_n 0, 1) ∧ 9 = 8 + 1 := ⟨by decide +kernel, rfl⟩
theorem dX10_wrong_9 : decode cX10_wrong 9 = .ok (.iload_n 1, 1) ∧ 10 = 9 + 1 := ⟨by decide +kernel, rfl⟩
theorem dX10_wrong_10 : decode cX10_wrong 10 = .ok (.putfield 255, 3) ∧ 13 = 10 + 3 := ⟨by decide +kernel, rfl⟩
theorem dX10_wrong_13 : decode cX10_wrong 13 = .ok (.aload_n 0, 1) ∧ 14 = 13 + 1 := ⟨by decide +kernel, rfl⟩
theorem dX10_wrong_14 : decode cX10_wrong 14 = .ok (.aload_n 0, 1) ∧ 15 = 14 + 1 := ⟨by decide +kernel, rfl⟩
theorem dX10_wrong_15 : decode cX10_wrong 15 = .ok (.getfield 246, 3) ∧ 18 = 15 + 3 := ⟨by decide +kernel, rfl⟩
theorem dX10_wrong_18 : decode cX10_wrong 18 = .ok (.putfield 29, 3) ∧ 21 = 18 + 3 := ⟨by decide +kernel, rfl⟩
theorem dX10_wrong_21 : decode cX10_wrong 21 = .ok (.return_, 1) ∧ 22 = 21 + 1 := ⟨by decide +kernel, rfl⟩
theorem dX10_isWord_0 : decode cX10_isWord 0 = .ok (.aload_n 0, 1) ∧ 1 = 0 + 1 := ⟨by decide +kernel, rfl⟩
theorem dX10_isWord_1 : decode cX10_isWord 1 = .ok (.getfield 243, 3) ∧ 4 = 1 + 3 := ⟨by decide +kernel, rfl⟩
theorem dX10_isWord_4 : decode cX10_isWord 4 = .ok (.aload_n 0, 1) ∧ 5 = 4 + 1 := ⟨by decide +kernel, rfl⟩
theorem dX10_isWord_5 : decode cX10_isWord 5 = .ok (.getfield 246, 3) ∧ 8 = 5 + 3 := ⟨by decide +kernel, rfl⟩
theorem dX10_isWord_8 : decode cX10_isWord 8 = .ok (.isub, 1) ∧ 9 = 8 + 1 := ⟨by decide +kernel, rfl⟩
theorem dX10_isWord_9 : decode cX10_isWord 9 = .ok (.aload_n 1, 1) ∧ 10 = 9 + 1 := ⟨by decide +kernel, rfl⟩
theorem dX10_isWord_10 : decode cX10_isWord 10 = .ok (.invokevirtual 258, 3) ∧ 13 = 10 + 3 := ⟨by decide +kernel, rfl⟩
theorem dX10_isWord_13 : decode cX10_isWord 13 = .ok (.if_icmp .ne 7, 3) ∧ 16 = 13 + 3 := ⟨by decide +kernel, rfl⟩
theorem dX10_isWord_16 : decode cX10_isWord 16 = .ok (.iconst 1, 1) ∧ 17 = 16 + 1 := ⟨by decide +kernel, rfl⟩
theorem dX10_isWord_17 : decode cX10_isWord 17 = .ok (.goto 4, 3) ∧ 20 = 17 + 3 := ⟨by decide +kernel, rfl⟩
theorem dX10_isWord_20 : decode cX10_isWord 20 = .ok (.iconst 0, 1) ∧ 21 = 20 + 1 := ⟨by decide +kernel, rfl⟩
theorem dX10_isWord_21 : decode cX10_isWord 21 = .ok (.istore_n 2, 1) ∧ 22 = 21 + 1 := ⟨by decide +kernel, rfl⟩
theorem dX10_isWord_22 : decode cX10_isWord 22 = .ok (.iconst 0, 1) ∧ 23 = 22 + 1 := ⟨by decide +kernel, rfl⟩
theorem dX10_isWord_23 : decode cX10_isWord 23 = .ok (.istore_n 3, 1) ∧ 24 = 23 + 1 := ⟨by decide +kernel, rfl⟩
theorem dX10_isWord_24 : decode cX10_isWord 24 = .ok (.iload_n 3, 1) ∧ 25 = 24 + 1 := ⟨by decide +kernel, rfl⟩
theorem dX10_isWord_25 : decode cX10_isWord 25 = .ok (.aload_n 1, 1) ∧ 26 = 25 + 1 := ⟨by decide +kernel, rfl⟩
theorem dX10_isWord_26 : decode cX10_isWord 26 = .ok (.invokevirtual 258, 3) ∧ 29 = 26 + 3 := ⟨by decide +kernel, rfl⟩
theorem dX10_isWord_29 : decode cX10_isWord 29 = .ok (.if_icmp .ge 37, 3) ∧ 32 = 29 + 3 := ⟨by decide +kernel, rfl⟩
theorem dX10_isWord_32 : decode cX10_isWord 32 = .ok (.iload_n 2, 1) ∧ 33 = 32 + 1 := ⟨by decide +kernel, rfl⟩
theorem dX10_isWord_33 : decode cX10_isWord 33 = .ok (.ifCond .eq 33, 3) ∧ 36 = 33 + 3 := ⟨by decide +kernel, rfl⟩
theorem dX10_isWord_36 : decode cX10_isWord 36 = .ok (.aload_n 0, 1) ∧ 37 = 36 + 1 := ⟨by decide +kernel, rfl⟩
theorem dX10_isWord_37 : decode cX10_isWord 37 = .ok (.aload_n 0, 1) ∧ 38 = 37 + 1 := ⟨by decide +kernel, rfl⟩
theorem dX10_isWord_38 : decode cX10_isWord 38 = .ok (.getfield 246, 3) ∧ 41 = 38 + 3 := ⟨by decide +kernel, rfl⟩
theorem dX10_isWord_41 : decode cX10_isWord 41 = .ok (.iload_n 3, 1) ∧ 42 = 41 + 1 := ⟨by decide +kernel, rfl⟩
theorem dX10_isWord_42 : decode cX10_isWord 42 = .ok (.iadd, 1) ∧ 43 = 42 + 1 := ⟨by decide +kernel, rfl⟩
theorem dX10_isWord_43 : decode cX10_isWord 43 = .ok (.invokevirtual 232, 3) ∧ 46 = 43 + 3 := ⟨by decide +kernel, rfl⟩
theorem dX10_isWord_46 : decode cX10_isWord 46 = .ok (.aload_n 1, 1) ∧ 47 = 46 + 1 := ⟨by decide +kernel, rfl⟩
theorem dX10_isWord_47 : decode cX10_isWord 47 = .ok (.iload_n 3, 1) ∧ 48 = 47 + 1 := ⟨by decide +kernel, rfl⟩
theorem dX10_isWord_48 : decode cX10_isWord 48 = .ok (.invokevirtual 262, 3) ∧ 51 = 48 + 3 := ⟨by decide +kernel, rfl⟩
theorem dX10_isWord_51 : decode cX10_isWord 51 = .ok (.if_icmp .ne 7, 3) ∧ 54 = 51 + 3 := ⟨by decide +kernel, rfl⟩
theorem dX10_isWord_54 : decode cX10_isWord 54 = .ok (.iconst 1, 1) ∧ 55 = 54 + 1 := ⟨by decide +kernel, rfl⟩
theorem dX10_isWord_55 : decode cX10_isWord 55 = .ok (.goto 4, 3) ∧ 58 = 55 + 3 := ⟨by decide +kernel, rfl⟩
theorem dX10_isWord_58 : decode cX10_isWord 58 = .ok (.iconst 0, 1) ∧ 59 = 58 + 1 := ⟨by decide +kernel, rfl⟩
theorem dX10_isWord_59 : decode cX10_isWord 59 = .ok (.istore_n 2, 1) ∧ 60 = 59 + 1 := ⟨by decide +kernel, rfl⟩
theorem dX10_isWord_60 : decode cX10_isWord 60 = .ok (.iinc 3 1, 3) ∧ 63 = 60 + 3 := ⟨by decide +kernel, rfl⟩
theorem dX10_isWord_63 : decode cX10_isWord 63 = .ok (.goto (-39), 3) ∧ 66 = 63 + 3 := ⟨by decide +kernel, rfl⟩
theorem dX10_isWord_66 : decode cX10_isWord 66 = .ok (.iload_n 2, 1) ∧ 67 = 66 + 1 := ⟨by decide +kernel, rfl⟩
theorem dX10_isWord_67 : decode cX10_isWord 67 = .ok (.ireturn, 1) ∧ 68 = 67 + 1 := ⟨by decide +kernel, rfl⟩
theorem dX10_goOn_0 : decode cX10_goOn 0 = .ok (.aload_n 0, 1) ∧ 1 = 0 + 1 := ⟨by decide +kernel, rfl⟩
theorem dX10_goOn_1 : decode cX10_goOn 1 = .ok (.getfield 255, 3) ∧ 4 = 1 + 3 := ⟨by decide +kernel, rfl⟩
theorem dX10_goOn_4 : decode cX10_goOn 4 = .ok (.ifCond .ne 7, 3) ∧ 7 = 4 + 3 := ⟨by decide +kernel, rfl⟩
theorem dX10_goOn_7 : decode cX10_goOn 7 = .ok (.aload_n 0, 1) ∧ 8 = 7 + 1 := ⟨by decide +kernel, rfl⟩
theorem dX10_goOn_8 : decode cX10_goOn 8 = .ok (.invokevirtual 266, 3) ∧ 11 = 8 + 3 := ⟨by decide +kernel, rfl⟩
theorem dX10_goOn_11 : decode cX10_goOn 11 = .ok (.return_, 1) ∧ 12 = 11 + 1 := ⟨by decide +kernel, rfl⟩
theorem dX10_see_0 : decode cX10_see 0 = .ok (.aload_n 0, 1) ∧ 1 = 0 + 1 := ⟨by decide +kernel, rfl⟩
theorem dX10_see_1 : decode cX10_see 1 = .ok (.getfield 255, 3) ∧ 4 = 1 + 3 := ⟨by decide +kernel, rfl⟩
theorem dX10_see_4 : decode cX10_see 4 = .ok (.ifCond .le 5, 3) ∧ 7 = 4 + 3 := ⟨by decide +kernel, rfl⟩
theorem dX10_see_7 : decode cX10_see 7 = .ok (.iconst 0, 1) ∧ 8 = 7 + 1 := ⟨by decide +kernel, rfl⟩
theorem dX10_see_8 : decode cX10_see 8 = .ok (.ireturn, 1) ∧ 9 = 8 + 1 := ⟨by decide +kernel, rfl⟩
theorem dX10_see_9 : decode cX10_see 9 = .ok (.iconst 0, 1) ∧ 10 = 9 + 1 := ⟨by decide +kernel, rfl⟩
theorem dX10_see_10 : decode cX10_see 10 = .ok (.istore 5, 2) ∧ 12 = 10 + 2 := ⟨by decide +kernel, rfl⟩
theorem dX10_see_12 : decode cX10_see 12 = .ok (.aload_n 0, 1) ∧ 13 = 12 + 1 := ⟨by decide +kernel, rfl⟩
theorem dX10_see_13 : decode cX10_see 13 = .ok (.aload_n 0, 1) ∧ 14 = 13 + 1 := ⟨by decide +kernel, rfl⟩
theorem dX10_see_14 : decode cX10_see 14 = .ok (.getfield 246, 3) ∧ 17 = 14 + 3 := ⟨by decide +kernel, rfl⟩
theorem dX10_see_17 : decode cX10_see 17 = .ok (.invokevirtual 252, 3) ∧ 20 = 17 + 3 := ⟨by decide +kernel, rfl⟩
theorem dX10_see_20 : decode cX10_see 20 = .ok (.ifCond .ne 11, 3) ∧ 23 = 20 + 3 := ⟨by decide +kernel, rfl⟩
theorem dX10_see_23 : decode cX10_see 23 = .ok (.aload_n 0, 1) ∧ 24 = 23 + 1 := ⟨by decide +kernel, rfl⟩
theorem dX10_see_24 : decode cX10_see 24 = .ok (.iconst 1, 1) ∧ 25 = 24 + 1 := ⟨by decide +kernel, rfl⟩
theorem dX10_see_25 : decode cX10_see 25 = .ok (.invokevirtual 269, 3) ∧ 28 = 25 + 3 := ⟨by decide +kernel, rfl⟩
theorem dX10_see_28 : decode cX10_see 28 = .ok (.goto 22, 3) ∧ 31 = 28 + 3 := ⟨by decide +kernel, rfl⟩
theorem dX10_see_31 : decode cX10_see 31 = .ok (.aload_n 0, 1) ∧ 32 = 31 + 1 := ⟨by decide +kernel, rfl⟩
theorem dX10_see_32 : decode cX10_see 32 = .ok (.getfield 243, 3) ∧ 35 = 32 + 3 := ⟨by decide +kernel, rfl⟩
theorem dX10_see_35 : decode cX10_see 35 = .ok (.aload_n 0, 1) ∧ 36 = 35 + 1 := ⟨by decide +kernel, rfl⟩
theorem dX10_see_36 : decode cX10_see 36 = .ok (.getfield 246, 3) ∧ 39 = 36 + 3 := ⟨by decide +kernel, rfl⟩
theorem dX10_see_39 : decode cX10_see 39 = .ok (.isub, 1) ∧ 40 = 39 + 1 := ⟨by decide +kernel, rfl⟩
theorem dX10_see_40 : decode cX10_see 40 = .ok (.bipush 7, 2) ∧ 42 = 40 + 2 := ⟨by decide +kernel, rfl⟩
theorem dX10_see_42 : decode cX10_see 42 = .ok (.if_icmp .le 8, 3) ∧ 45 = 42 + 3 := ⟨by decide +kernel, rfl⟩
theorem dX10_see_45 : decode cX10_see 45 = .ok (.aload_n 0, 1) ∧ 46 = 45 + 1 := ⟨by decide +kernel, rfl⟩
theorem dX10_see_46 : decode cX10_see 46 = .ok (.iconst 2, 1) ∧ 47 = 46 + 1 := ⟨by decide +kernel, rfl⟩
theorem dX10_see_47 : decode cX10_see 47 = .ok (.invokevirtual 269, 3) ∧ 50 = 47 + 3 := ⟨by decide +kernel, rfl⟩
theorem dX10_see_50 : decode cX10_see 50 = .ok (.aload_n 0, 1) ∧ 51 = 50 + 1 := ⟨by decide +kernel, rfl⟩
theorem dX10_see_51 : decode cX10_see 51 = .ok (.getfield 246, 3) ∧ 54 = 51 + 3 := ⟨by decide +kernel, rfl⟩
theorem dX10_see_54 : decode cX10_see 54 = .ok (.istore 6, 2) ∧ 56 = 54 + 2 := ⟨by decide +kernel, rfl⟩
theorem dX10_see_56 : decode cX10_see 56 = .ok (.iload 6, 2) ∧ 58 = 56 + 2 := ⟨by decide +kernel, rfl⟩
theorem dX10_see_58 : decode cX10_see 58 = .ok (.aload_n 0, 1) ∧ 59 = 58 + 1 := ⟨by decide +kernel, rfl⟩
theorem dX10_see_59 : decode cX10_see 59 = .ok (.getfield 243, 3) ∧ 62 = 59 + 3 := ⟨by decide +kernel, rfl⟩
theorem dX10_see_62 : decode cX10_see 62 = .ok (.if_icmp .ge 33, 3) ∧ 65 = 62 + 3 := ⟨by decide +kernel, rfl⟩
theorem dX10_see_65 : decode cX10_see 65 = .ok (.aload_n 0, 1) ∧ 66 = 65 + 1 := ⟨by decide +kernel, rfl⟩
theorem dX10_see_66 : decode cX10_see 66 = .ok (.getfield 255, 3) ∧ 69 = 66 + 3 := ⟨by decide +kernel, rfl⟩
theorem dX10_see_69 : decode cX10_see 69 = .ok (.ifCond .ne 26, 3) ∧ 72 = 69 + 3 := ⟨by decide +kernel, rfl⟩
theorem dX10_see_72 : decode cX10_see 72 = .ok (.bipush 10, 2) ∧ 74 = 72 + 2 := ⟨by decide +kernel, rfl⟩
theorem dX10_see_74 : decode cX10_see 74 = .ok (.iload 5, 2) ∧ 76 = 74 + 2 := ⟨by decide +kernel, rfl⟩
theorem dX10_see_76 : decode cX10_see 76 = .ok (.imul, 1) ∧ 77 = 76 + 1 := ⟨by decide +kernel, rfl⟩
theorem dX10_see_77 : decode cX10_see 77 = .ok (.aload_n 0, 1) ∧ 78 = 77 + 1 := ⟨by decide +kernel, rfl⟩
theorem dX10_see_78 : decode cX10_see 78 = .ok (.iload 6, 2) ∧ 80 = 78 + 2 := ⟨by decide +kernel, rfl⟩
theorem dX10_see_80 : decode cX10_see 80 = .ok (.invokevirtual 232, 3) ∧ 83 = 80 + 3 := ⟨by decide +kernel, rfl⟩
theorem dX10_see_83 : decode cX10_see 83 = .ok (.iadd, 1) ∧ 84 = 83 + 1 := ⟨by decide +kernel, rfl⟩
theorem dX10_see_84 : decode cX10_see 84 = .ok (.bipush 48, 2) ∧ 86 = 84 + 2 := ⟨by decide +kernel, rfl⟩
theorem dX10_see_86 : decode cX10_see 86 = .ok (.isub, 1) ∧ 87 = 86 + 1 := ⟨by decide +kernel, rfl⟩
theorem dX10_see_87 : decode cX10_see 87 = .ok (.istore 5, 2) ∧ 89 = 87 + 2 := ⟨by decide +kernel, rfl⟩
theorem dX10_see_89 : decode cX10_see 89 = .ok (.iinc 6 1, 3) ∧ 92 = 89 + 3 := ⟨by decide +kernel, rfl⟩
theorem dX10_see_92 : decode cX10_see 92 = .ok (.goto (-36), 3) ∧ 95 = 92 + 3 := ⟨by decide +kernel, rfl⟩
theorem dX10_see_95 : decode cX10_see 95 = .ok (.aload_n 0, 1) ∧ 96 = 95 + 1 := ⟨by decide +kernel, rfl⟩
theorem dX10_see_96 : decode cX10_see 96 = .ok (.getfield 255, 3) ∧ 99 = 96 + 3 := ⟨by decide +kernel, rfl⟩
theorem dX10_see_99 : decode cX10_see 99 = .ok (.ifCond .ne 19, 3) ∧ 102 = 99 + 3 := ⟨by decide +kernel, rfl⟩
theorem dX10_see_102 : decode cX10_see 102 = .ok (.iload 5, 2) ∧ 104 = 102 + 2 := ⟨by decide +kernel, rfl⟩
theorem dX10_see_104 : decode cX10_see 104 = .ok (.i2l, 1) ∧ 105 = 104 + 1 := ⟨by decide +kernel, rfl⟩
theorem dX10_see_105 : decode cX10_see 105 = .ok (.lload_n 1, 1) ∧ 106 = 105 + 1 := ⟨by decide +kernel, rfl⟩
theorem dX10_see_106 : decode cX10_see 106 = .ok (.lload_n 3, 1) ∧ 107 = 106 + 1 := ⟨by decide +kernel, rfl⟩
theorem dX10_see_107 : decode cX10_see 107 = .ok (.invokestatic 39, 3) ∧ 110 = 107 + 3 := ⟨by decide +kernel, rfl⟩
theorem dX10_see_110 : decode cX10_see 110 = .ok (.ifCond .ne 8, 3) ∧ 113 = 110 + 3 := ⟨by decide +kernel, rfl⟩
theorem dX10_see_113 : decode cX10_see 113 = .ok (.aload_n 0, 1) ∧ 114 = 113 + 1 := ⟨by decide +kernel, rfl⟩
theorem dX10_see_114 : decode cX10_see 114 = .ok (.iconst 2, 1) ∧ 115 = 114 + 1 := ⟨by decide +kernel, rfl⟩
theorem dX10_see_115 : decode cX10_see 115 = .ok (.invokevirtual 269, 3) ∧ 118 = 115 + 3 := ⟨by decide +kernel, rfl⟩
theorem dX10_see_118 : decode cX10_see 118 = .ok (.iload 5, 2) ∧ 120 = 118 + 2 := ⟨by decide +kernel, rfl⟩
theorem dX10_see_120 : decode cX10_see 120 = .ok (.ireturn, 1) ∧ 121 = 120 + 1 := ⟨by decide +kernel, rfl⟩
theorem dX10_number_0 : decode cX10_number 0 = .ok (.aload_n 0, 1) ∧ 1 = 0 + 1 := ⟨by decide +kernel, rfl⟩
theorem dX10_number_1 : decode cX10_number 1 = .ok (.lload_n 1, 1) ∧ 2 = 1 + 1 := ⟨by decide +kernel, rfl⟩
theorem dX10_number_2 : decode cX10_number 2 = .ok (.lload_n 3, 1) ∧ 3 = 2 + 1 := ⟨by decide +kernel, rfl⟩
theorem dX10_number_3 : decode cX10_number 3 = .ok (.invokevirtual 272, 3) ∧ 6 = 3 + 3 := ⟨by decide +kernel, rfl⟩
theorem dX10_number_6 : decode cX10_number 6 = .ok (.istore 5, 2) ∧ 8 = 6 + 2 := ⟨by decide +kernel, rfl⟩
theorem dX10_number_8 : decode cX10_number 8 = .ok (.aload_n 0, 1) ∧ 9 = 8 + 1 := ⟨by decide +kernel, rfl⟩
theorem dX10_number_9 : decode cX10_number 9 = .ok (.invokevirtual 276, 3) ∧ 12 = 9 + 3 := ⟨by decide +kernel, rfl⟩
theorem dX10_number_12 : decode cX10_number 12 = .ok (.iload 5, 2) ∧ 14 = 12 + 2 := ⟨by decide +kernel, rfl⟩
theorem dX10_number_14 : decode cX10_number 14 = .ok (.ireturn, 1) ∧ 15 = 14 + 1 := ⟨by decide +kernel, rfl⟩
theorem dX10_must_0 : decode cX10_must 0 = .ok (.aload_n 0, 1) ∧ 1 = 0 + 1 := ⟨by decide +kernel, rfl⟩
theorem dX10_must_1 : decode cX10_must 1 = .ok (.aload_n 1, 1) ∧ 2 = 1 + 1 := ⟨by decide +kernel, rfl⟩
theorem dX10_must_2 : decode cX10_must 2 = .ok (.invokevirtual 279, 3) ∧ 5 = 2 + 3 := ⟨by decide +kernel, rfl⟩
theorem dX10_must_5 : decode cX10_must 5 = .ok (.ifCond .ne 8, 3) ∧ 8 = 5 + 3 := ⟨by decide +kernel, rfl⟩
theorem dX10_must_8 : decode cX10_must 8 = .ok (.aload_n 0, 1) ∧ 9 = 8 + 1 := ⟨by decide +kernel, rfl⟩
theorem dX10_must_9 : decode cX10_must 9 = .ok (.iconst 1, 1) ∧ 10 = 9 + 1 := ⟨by decide +kernel, rfl⟩
theorem dX10_must_10 : decode cX10_must 10 = .ok (.invokevirtual 269, 3) ∧ 13 = 10 + 3 := ⟨by decide +kernel, rfl⟩
theorem dX10_must_13 : decode cX10_must 13 = .ok (.aload_n 0, 1) ∧ 14 = 13 + 1 := ⟨by decide +kernel, rfl⟩
theorem dX10_must_14 : decode cX10_must 14 = .ok (.invokevirtual 276, 3) ∧ 17 = 14 + 3 := ⟨by decide +kernel, rfl⟩
theorem dX10_must_17 : decode cX10_must 17 = .ok (.return_, 1) ∧ 18 = 17 + 1 := ⟨by decide +kernel, rfl⟩
theorem dX10_begin_0 : decode cX10_begin 0 = .ok (.aload_n 0, 1) ∧ 1 = 0 + 1 := ⟨by decide +kernel, rfl⟩
theorem dX10_begin_1 : decode cX10_begin 1 = .ok (.aload_n 0, 1) ∧ 2 = 1 + 1 := ⟨by decide +kernel, rfl⟩
theorem dX10_begin_2 : decode cX10_begin 2 = .ok (.getfield 223, 3) ∧ 5 = 2 + 3 := ⟨by decide +kernel, rfl⟩
theorem dX10_begin_5 : decode cX10_begin 5 = .ok (.putfield 229, 3) ∧ 8 = 5 + 3 := ⟨by decide +kernel, rfl⟩
theorem dX10_begin_8 : decode cX10_begin 8 = .ok (.aload_n 0, 1) ∧ 9 = 8 + 1 := ⟨by decide +kernel, rfl⟩
theorem dX10_begin_9 : decode cX10_begin 9 = .ok (.iconst 0, 1) ∧ 10 = 9 + 1 := ⟨by decide +kernel, rfl⟩
theorem dX10_begin_10 : decode cX10_begin 10 = .ok (.putfield 223, 3) ∧ 13 = 10 + 3 := ⟨by decide +kernel, rfl⟩
theorem dX10_begin_13 : decode cX10_begin 13 = .ok (.aload_n 0, 1) ∧ 14 = 13 + 1 := ⟨by decide +kernel, rfl⟩
theorem dX10_begin_14 : decode cX10_begin 14 = .ok (.iconst 0, 1) ∧ 15 = 14 + 1 := ⟨by decide +kernel, rfl⟩
theorem dX10_begin_15 : decode cX10_begin 15 = .ok (.putfield 243, 3) ∧ 18 = 15 + 3 := ⟨by decide +kernel, rfl⟩
theorem dX10_begin_18 : decode cX10_begin 18 = .ok (.aload_n 0, 1) ∧ 19 = 18 + 1 := ⟨by decide +kernel, rfl⟩
theorem dX10_begin_19 : decode cX10_begin 19 = .ok (.iconst 0, 1) ∧ 20 = 19 + 1 := ⟨by decide +kernel, rfl⟩
theorem dX10_begin_20 : decode cX10_begin 20 = .ok (.putfield 255, 3) ∧ 23 = 20 + 3 := ⟨by decide +kernel, rfl⟩
theorem dX10_begin_23 : decode cX10_begin 23 = .ok (.aload_n 0, 1) ∧ 24 = 23 + 1 := ⟨by decide +kernel, rfl⟩
theorem dX10_begin_24 : decode cX10_begin 24 = .ok (.invokevirtual 266, 3) ∧ 27 = 24 + 3 := ⟨by decide +kernel, rfl⟩
theorem dX10_begin_27 : decode cX10_begin 27 = .ok (.return_, 1) ∧ 28 = 27 + 1 := ⟨by decide +kernel, rfl⟩
theorem dX10_keyword_0 : decode cX10_keyword 0 = .ok (.aload_n 0, 1) ∧ 1 = 0 + 1 := ⟨by decide +kernel, rfl⟩
theorem dX10_keyword_1 : decode cX10_keyword 1 = .ok (.aload_n 1, 1) ∧ 2 = 1 + 1 := ⟨by decide +kernel, rfl⟩
theorem dX10_keyword_2 : decode cX10_keyword 2 = .ok (.invokevirtual 279, 3) ∧ 5 = 2 + 3 := ⟨by decide +kernel, rfl⟩
theorem dX10_keyword_5 : decode cX10_keyword 5 = .ok (.ifCond .ne 8, 3) ∧ 8 = 5 + 3 := ⟨by decide +kernel, rfl⟩
theorem dX10_keyword_8 : decode cX10_keyword 8 = .ok (.aload_n 0, 1) ∧ 9 = 8 + 1 := ⟨by decide +kernel, rfl⟩
theorem dX10_keyword_9 : decode cX10_keyword 9 = .ok (.iconst 1, 1) ∧ 10 = 9 + 1 := ⟨by decide +kernel, rfl⟩
theorem dX10_keyword_10 : decode cX10_keyword 10 = .ok (.invokevirtual 269, 3) ∧ 13 = 10 + 3 := ⟨by decide +kernel, rfl⟩
theorem dX10_keyword_13 : decode cX10_keyword 13 = .ok (.aload_n 0, 1) ∧ 14 = 13 + 1 := ⟨by decide +kernel, rfl⟩
theorem dX10_keyword_14 : decode cX10_keyword 14 = .ok (.getfield 19, 3) ∧ 17 = 14 + 3 := ⟨by decide +kernel, rfl⟩
theorem dX10_keyword_17 : decode cX10_keyword 17 = .ok (.iload_n 2, 1) ∧ 18 = 17 + 1 := ⟨by decide +kernel, rfl⟩
theorem dX10_keyword_18 : decode cX10_keyword 18 = .ok (.laload, 1) ∧ 19 = 18 + 1 := ⟨by decide +kernel, rfl⟩
theorem dX10_keyword_19 : decode cX10_keyword 19 = .ok (.iload_n 3, 1) ∧ 20 = 19 + 1 := ⟨by decide +kernel, rfl⟩
theorem dX10_keyword_20 : decode cX10_keyword 20 = .ok (.i2l, 1) ∧ 21 = 20 + 1 := ⟨by decide +kernel, rfl⟩
theorem dX10_keyword_21 : decode cX10_keyword 21 = .ok (.lcmp, 1) ∧ 22 = 21 + 1 := ⟨by decide +kernel, rfl⟩
theorem dX10_keyword_22 : decode cX10_keyword 22 = .ok (.ifCond .ne 8, 3) ∧ 25 = 22 + 3 := ⟨by decide +kernel, rfl⟩
theorem dX10_keyword_25 : decode cX10_keyword 25 = .ok (.aload_n 0, 1) ∧ 26 = 25 + 1 := ⟨by decide +kernel, rfl⟩
theorem dX10_keyword_26 : decode cX10_keyword 26 = .ok (.iconst 4, 1) ∧ 27 = 26 + 1 := ⟨by decide +kernel, rfl⟩
theorem dX10_keyword_27 : decode cX10_keyword 27 = .ok (.invokevirtual 269, 3) ∧ 30 = 27 + 3 := ⟨by decide +kernel, rfl⟩
theorem dX10_keyword_30 : decode cX10_keyword 30 = .ok (.aload_n 0, 1) ∧ 31 = 30 + 1 := ⟨by decide +kernel, rfl⟩
theorem dX10_keyword_31 : decode cX10_keyword 31 = .ok (.invokevirtual 276, 3) ∧ 34 = 31 + 3 := ⟨by decide +kernel, rfl⟩
theorem dX10_keyword_34 : decode cX10_keyword 34 = .ok (.return_, 1) ∧ 35 = 34 + 1 := ⟨by decide +kernel, rfl⟩
theorem dX10_chamberHere_0 : decode cX10_chamberHere 0 = .ok (.aload_n 0, 1) ∧ 1 = 0 + 1 := ⟨by decide +kernel, rfl⟩
theorem dX10_chamberHere_1 : decode cX10_chamberHere 1 = .ok (.lconst 0, 1) ∧ 2 = 1 + 1 := ⟨by decide +kernel, rfl⟩
theorem dX10_chamberHere_2 : decode cX10_chamberHere 2 = .ok (.aload_n 0, 1) ∧ 3 = 2 + 1 := ⟨by decide +kernel, rfl⟩
theorem dX10_chamberHere_3 : decode cX10_chamberHere 3 = .ok (.getfield 19, 3) ∧ 6 = 3 + 3 := ⟨by decide +kernel, rfl⟩
theorem dX10_chamberHere_6 : decode cX10_chamberHere 6 = .ok (.iconst 0, 1) ∧ 7 = 6 + 1 := ⟨by decide +kernel, rfl⟩
theorem dX10_chamberHere_7 : decode cX10_chamberHere 7 = .ok (.laload, 1) ∧ 8 = 7 + 1 := ⟨by decide +kernel, rfl⟩
theorem dX10_chamberHere_8 : decode cX10_chamberHere 8 = .ok (.lconst 1, 1) ∧ 9 = 8 + 1 := ⟨by decide +kernel, rfl⟩
theorem dX10_chamberHere_9 : decode cX10_chamberHere 9 = .ok (.lsub, 1) ∧ 10 = 9 + 1 := ⟨by decide +kernel, rfl⟩
theorem dX10_chamberHere_10 : decode cX10_chamberHere 10 = .ok (.invokevirtual 283, 3) ∧ 13 = 10 + 3 := ⟨by decide +kernel, rfl⟩
theorem dX10_chamberHere_13 : decode cX10_chamberHere 13 = .ok (.ireturn, 1) ∧ 14 = 13 + 1 := ⟨by decide +kernel, rfl⟩
theorem dX10_otherHere_0 : decode cX10_otherHere 0 = .ok (.aload_n 0, 1) ∧ 1 = 0 + 1 := ⟨by decide +kernel, rfl⟩
theorem dX10_otherHere_1 : decode cX10_otherHere 1 = .ok (.getfield 255, 3) ∧ 4 = 1 + 3 := ⟨by decide +kernel, rfl⟩
theorem dX10_otherHere_4 : decode cX10_otherHere 4 = .ok (.ifCond .le 5, 3) ∧ 7 = 4 + 3 := ⟨by decide +kernel, rfl⟩
theorem dX10_otherHere_7 : decode cX10_otherHere 7 = .ok (.iconst (-1), 1) ∧ 8 = 7 + 1 := ⟨by decide +kernel, rfl⟩
theorem dX10_otherHere_8 : decode cX10_otherHere 8 = .ok (.ireturn, 1) ∧ 9 = 8 + 1 := ⟨by decide +kernel, rfl⟩
theorem dX10_otherHere_9 : decode cX10_otherHere 9 = .ok (.aload_n 0, 1) ∧ 10 = 9 + 1 := ⟨by decide +kernel, rfl⟩
theorem dX10_otherHere_10 : decode cX10_otherHere 10 = .ok (.ldc_w 286, 3) ∧ 13 = 10 + 3 := ⟨by decide +kernel, rfl⟩
theorem dX10_otherHere_13 : decode cX10_otherHere 13 = .ok (.invokevirtual 279, 3) ∧ 16 = 13 + 3 := ⟨by decide +kernel, rfl⟩
theorem dX10_otherHere_16 : decode cX10_otherHere 16 = .ok (.ifCond .eq 9, 3) ∧ 19 = 16 + 3 := ⟨by decide +kernel, rfl⟩
theorem dX10_otherHere_19 : decode cX10_otherHere 19 = .ok (.aload_n 0, 1) ∧ 20 = 19 + 1 := ⟨by decide +kernel, rfl⟩
theorem dX10_otherHere_20 : decode cX10_otherHere 20 = .ok (.invokevirtual 276, 3) ∧ 23 = 20 + 3 := ⟨by decide +kernel, rfl⟩
theorem dX10_otherHere_23 : decode cX10_otherHere 23 = .ok (.iconst (-1), 1) ∧ 24 = 23 + 1 := ⟨by decide +kernel, rfl⟩
theorem dX10_otherHere_24 : decode cX10_otherHere 24 = .ok (.ireturn, 1) ∧ 25 = 24 + 1 := ⟨by decide +kernel, rfl⟩
theorem dX10_otherHere_25 : decode cX10_otherHere 25 = .ok (.aload_n 0, 1) ∧ 26 = 25 + 1 := ⟨by decide +kernel, rfl⟩
theorem dX10_otherHere_26 : decode cX10_otherHere 26 = .ok (.lconst 0, 1) ∧ 27 = 26 + 1 := ⟨by decide +kernel, rfl⟩
theorem dX10_otherHere_27 : decode cX10_otherHere 27 = .ok (.aload_n 0, 1) ∧ 28 = 27 + 1 := ⟨by decide +kernel, rfl⟩
theorem dX10_otherHere_28 : decode cX10_otherHere 28 = .ok (.getfield 19, 3) ∧ 31 = 28 + 3 := ⟨by decide +kernel, rfl⟩
theorem dX10_otherHere_31 : decode cX10_otherHere 31 = .ok (.iconst 0, 1) ∧ 32 = 31 + 1 := ⟨by decide +kernel, rfl⟩
theorem dX10_otherHere_32 : decode cX10_otherHere 32 = .ok (.laload, 1) ∧ 33 = 32 + 1 := ⟨by decide +kernel, rfl⟩
theorem dX10_otherHere_33 : decode cX10_otherHere 33 = .ok (.lconst 1, 1) ∧ 34 = 33 + 1 := ⟨by decide +kernel, rfl⟩
theorem dX10_otherHere_34 : decode cX10_otherHere 34 = .ok (.lsub, 1) ∧ 35 = 34 + 1 := ⟨by decide +kernel, rfl⟩
theorem dX10_otherHere_35 : decode cX10_otherHere 35 = .ok (.invokevirtual 272, 3) ∧ 38 = 35 + 3 := ⟨by decide +kernel, rfl⟩
theorem dX10_otherHere_38 : decode cX10_otherHere 38 = .ok (.istore_n 2, 1) ∧ 39 = 38 + 1 := ⟨by decide +kernel, rfl⟩
theorem dX10_otherHere_39 : decode cX10_otherHere 39 = .ok (.aload_n 0, 1) ∧ 40 = 39 + 1 := ⟨by decide +kernel, rfl⟩
theorem dX10_otherHere_40 : decode cX10_otherHere 40 = .ok (.getfield 255, 3) ∧ 43 = 40 + 3 := ⟨by decide +kernel, rfl⟩
theorem dX10_otherHere_43 : decode cX10_otherHere 43 = .ok (.ifCond .ne 13, 3) ∧ 46 = 43 + 3 := ⟨by decide +kernel, rfl⟩
theorem dX10_otherHere_46 : decode cX10_otherHere 46 = .ok (.iload_n 2, 1) ∧ 47 = 46 + 1 := ⟨by decide +kernel, rfl⟩
theorem dX10_otherHere_47 : decode cX10_otherHere 47 = .ok (.iload_n 1, 1) ∧ 48 = 47 + 1 := ⟨by decide +kernel, rfl⟩
theorem dX10_otherHere_48 : decode cX10_otherHere 48 = .ok (.if_icmp .ne 8, 3) ∧ 51 = 48 + 3 := ⟨by decide +kernel, rfl⟩
theorem dX10_otherHere_51 : decode cX10_otherHere 51 = .ok (.aload_n 0, 1) ∧ 52 = 51 + 1 := ⟨by decide +kernel, rfl⟩
theorem dX10_otherHere_52 : decode cX10_otherHere 52 = .ok (.iconst 3, 1) ∧ 53 = 52 + 1 := ⟨by decide +kernel, rfl⟩
theorem dX10_otherHere_53 : decode cX10_otherHere 53 = .ok (.invokevirtual 269, 3) ∧ 56 = 53 + 3 := ⟨by decide +kernel, rfl⟩
theorem dX10_otherHere_56 : decode cX10_otherHere 56 = .ok (.aload_n 0, 1) ∧ 57 = 56 + 1 := ⟨by decide +kernel, rfl⟩
theorem dX10_otherHere_57 : decode cX10_otherHere 57 = .ok (.invokevirtual 276, 3) ∧ 60 = 57 + 3 := ⟨by decide +kernel, rfl⟩
theorem dX10_otherHere_60 : decode cX10_otherHere 60 = .ok (.iload_n 2, 1) ∧ 61 = 60 + 1 := ⟨by decide +kernel, rfl⟩
theorem dX10_otherHere_61 : decode cX10_otherHere 61 = .ok (.ireturn, 1) ∧ 62 = 61 + 1 := ⟨by decide +kernel, rfl⟩
theorem dX10_readChamber_0 : decode cX10_readChamber 0 = .ok (.aload_n 0, 1) ∧ 1 = 0 + 1 := ⟨by decide +kernel, rfl⟩
theorem dX10_readChamber_1 : decode cX10_readChamber 1 = .ok (.ldc_w 288, 3) ∧ 4 = 1 + 3 := ⟨by decide +kernel, rfl⟩
theorem dX10_readChamber_4 : decode cX10_readChamber 4 = .ok (.iconst 0, 1) ∧ 5 = 4 + 1 := ⟨by decide +kernel, rfl⟩
theorem dX10_readChamber_5 : decode cX10_readChamber 5 = .ok (.bipush 8, 2) ∧ 7 = 5 + 2 := ⟨by decide +kernel, rfl⟩
theorem dX10_readChamber_7 : decode cX10_readChamber 7 = .ok (.invokevirtual 290, 3) ∧ 10 = 7 + 3 := ⟨by decide +kernel, rfl⟩
theorem dX10_readChamber_10 : decode cX10_readChamber 10 = .ok (.aload_n 0, 1) ∧ 11 = 10 + 1 := ⟨by decide +kernel, rfl⟩
theorem dX10_readChamber_11 : decode cX10_readChamber 11 = .ok (.lconst 1, 1) ∧ 12 = 11 + 1 := ⟨by decide +kernel, rfl⟩
theorem dX10_readChamber_12 : decode cX10_readChamber 12 = .ok (.ldc2_w 45, 3) ∧ 15 = 12 + 3 := ⟨by decide +kernel, rfl⟩
theorem dX10_readChamber_15 : decode cX10_readChamber 15 = .ok (.invokevirtual 283, 3) ∧ 18 = 15 + 3 := ⟨by decide +kernel, rfl⟩
theorem dX10_readChamber_18 : decode cX10_readChamber 18 = .ok (.istore_n 1, 1) ∧ 19 = 18 + 1 := ⟨by decide +kernel, rfl⟩
theorem dX10_readChamber_19 : decode cX10_readChamber 19 = .ok (.aload_n 0, 1) ∧ 20 = 19 + 1 := ⟨by decide +kernel, rfl⟩
theorem dX10_readChamber_20 : decode cX10_readChamber 20 = .ok (.lconst 0, 1) ∧ 21 = 20 + 1 := ⟨by decide +kernel, rfl⟩
theorem dX10_readChamber_21 : decode cX10_readChamber 21 = .ok (.ldc2_w 197, 3) ∧ 24 = 21 + 3 := ⟨by decide +kernel, rfl⟩
theorem dX10_readChamber_24 : decode cX10_readChamber 24 = .ok (.invokevirtual 283, 3) ∧ 27 = 24 + 3 := ⟨by decide +kernel, rfl⟩
theorem dX10_readChamber_27 : decode cX10_readChamber 27 = .ok (.istore_n 2, 1) ∧ 28 = 27 + 1 := ⟨by decide +kernel, rfl⟩
theorem dX10_readChamber_28 : decode cX10_readChamber 28 = .ok (.aload_n 0, 1) ∧ 29 = 28 + 1 := ⟨by decide +kernel, rfl⟩
theorem dX10_readChamber_29 : decode cX10_readChamber 29 = .ok (.lconst 0, 1) ∧ 30 = 29 + 1 := ⟨by decide +kernel, rfl⟩
theorem dX10_readChamber_30 : decode cX10_readChamber 30 = .ok (.ldc2_w 45, 3) ∧ 33 = 30 + 3 := ⟨by decide +kernel, rfl⟩
theorem dX10_readChamber_33 : decode cX10_readChamber 33 = .ok (.invokevirtual 283, 3) ∧ 36 = 33 + 3 := ⟨by decide +kernel, rfl⟩
theorem dX10_readChamber_36 : decode cX10_readChamber 36 = .ok (.istore_n 3, 1) ∧ 37 = 36 + 1 := ⟨by decide +kernel, rfl⟩
theorem dX10_readChamber_37 : decode cX10_readChamber 37 = .ok (.aload_n 0, 1) ∧ 38 = 37 + 1 := ⟨by decide +kernel, rfl⟩
theorem dX10_readChamber_38 : decode cX10_readChamber 38 = .ok (.ldc_w 294, 3) ∧ 41 = 38 + 3 := ⟨by decide +kernel, rfl⟩
theorem dX10_readChamber_41 : decode cX10_readChamber 41 = .ok (.invokevirtual 296, 3) ∧ 44 = 41 + 3 := ⟨by decide +kernel, rfl⟩
theorem dX10_readChamber_44 : decode cX10_readChamber 44 = .ok (.aload_n 0, 1) ∧ 45 = 44 + 1 := ⟨by decide +kernel, rfl⟩
theorem dX10_readChamber_45 : decode cX10_readChamber 45 = .ok (.getfield 255, 3) ∧ 48 = 45 + 3 := ⟨by decide +kernel, rfl⟩
theorem dX10_readChamber_48 : decode cX10_readChamber 48 = .ok (.ifCond .le 4, 3) ∧ 51 = 48 + 3 := ⟨by decide +kernel, rfl⟩
theorem dX10_readChamber_51 : decode cX10_readChamber 51 = .ok (.return_, 1) ∧ 52 = 51 + 1 := ⟨by decide +kernel, rfl⟩
theorem dX10_readChamber_52 : decode cX10_readChamber 52 = .ok (.aload_n 0, 1) ∧ 53 = 52 + 1 := ⟨by decide +kernel, rfl⟩
theorem dX10_readChamber_53 : decode cX10_readChamber 53 = .ok (.getfield 19, 3) ∧ 56 = 53 + 3 := ⟨by decide +kernel, rfl⟩
theorem dX10_readChamber_56 : decode cX10_readChamber 56 = .ok (.iconst 0, 1) ∧ 57 = 56 + 1 := ⟨by decide +kernel, rfl⟩
theorem dX10_readChamber_57 : decode cX10_readChamber 57 = .ok (.laload, 1) ∧ 58 = 57 + 1 := ⟨by decide +kernel, rfl⟩
theorem dX10_readChamber_58 : decode cX10_readChamber 58 = .ok (.l2i, 1) ∧ 59 = 58 + 1 := ⟨by decide +kernel, rfl⟩
theorem dX10_readChamber_59 : decode cX10_readChamber 59 = .ok (.invokestatic 61, 3) ∧ 62 = 59 + 3 := ⟨by decide +kernel, rfl⟩
theorem dX10_readChamber_62 : decode cX10_readChamber 62 = .ok (.istore 4, 2) ∧ 64 = 62 + 2 := ⟨by decide +kernel, rfl⟩
theorem dX10_readChamber_64 : decode cX10_readChamber 64 = .ok (.aload_n 0, 1) ∧ 65 = 64 + 1 := ⟨by decide +kernel, rfl⟩
theorem dX10_readChamber_65 : decode cX10_readChamber 65 = .ok (.getfield 19, 3) ∧ 68 = 65 + 3 := ⟨by decide +kernel, rfl⟩
theorem dX10_readChamber_68 : decode cX10_readChamber 68 = .ok (.iload 4, 2) ∧ 70 = 68 + 2 := ⟨by decide +kernel, rfl⟩
theorem dX10_readChamber_70 : decode cX10_readChamber 70 = .ok (.iconst 0, 1) ∧ 71 = 70 + 1 := ⟨by decide +kernel, rfl⟩
theorem dX10_readChamber_71 : decode cX10_readChamber 71 = .ok (.iadd, 1) ∧ 72 = 71 + 1 := ⟨by decide +kernel, rfl⟩
theorem dX10_readChamber_72 : decode cX10_readChamber 72 = .ok (.iload_n 1, 1) ∧ 73 = 72 + 1 := ⟨by decide +kernel, rfl⟩
theorem dX10_readChamber_73 : decode cX10_readChamber 73 = .ok (.i2l, 1) ∧ 74 = 73 + 1 := ⟨by decide +kernel, rfl⟩
theorem dX10_readChamber_74 : decode cX10_readChamber 74 = .ok (.lastore, 1) ∧ 75 = 74 + 1 := ⟨by decide +kernel, rfl⟩
theorem dX10_readChamber_75 : decode cX10_readChamber 75 = .ok (.aload_n 0, 1) ∧ 76 = 75 + 1 := ⟨by decide +kernel, rfl⟩
theorem dX10_readChamber_76 : decode cX10_readChamber 76 = .ok (.getfield 19, 3) ∧ 79 = 76 + 3 := ⟨by decide +kernel, rfl⟩
theorem dX10_readChamber_79 : decode cX10_readChamber 79 = .ok (.iload 4, 2) ∧ 81 = 79 + 2 := ⟨by decide +kernel, rfl⟩
theorem dX10_readChamber_81 : decode cX10_readChamber 81 = .ok (.iconst 1, 1) ∧ 82 = 81 + 1 := ⟨by decide +kernel, rfl⟩
theorem dX10_readChamber_82 : decode cX10_readChamber 82 = .ok (.iadd, 1) ∧ 83 = 82 + 1 := ⟨by decide +kernel, rfl⟩
theorem dX10_readChamber_83 : decode cX10_readChamber 83 = .ok (.iload_n 2, 1) ∧ 84 = 83 + 1 := ⟨by decide +kernel, rfl⟩
theorem dX10_readChamber_84 : decode cX10_readChamber 84 = .ok (.i2l, 1) ∧ 85 = 84 + 1 := ⟨by decide +kernel, rfl⟩
theorem dX10_readChamber_85 : decode cX10_readChamber 85 = .ok (.lastore, 1) ∧ 86 = 85 + 1 := ⟨by decide +kernel, rfl⟩
theorem dX10_readChamber_86 : decode cX10_readChamber 86 = .ok (.aload_n 0, 1) ∧ 87 = 86 + 1 := ⟨by decide +kernel, rfl⟩
theorem dX10_readChamber_87 : decode cX10_readChamber 87 = .ok (.getfield 19, 3) ∧ 90 = 87 + 3 := ⟨by decide +kernel, rfl⟩
theorem dX10_readChamber_90 : decode cX10_readChamber 90 = .ok (.iload 4, 2) ∧ 92 = 90 + 2 := ⟨by decide +kernel, rfl⟩
theorem dX10_readChamber_92 : decode cX10_readChamber 92 = .ok (.iconst 2, 1) ∧ 93 = 92 + 1 := ⟨by decide +kernel, rfl⟩
theorem dX10_readChamber_93 : decode cX10_readChamber 93 = .ok (.iadd, 1) ∧ 94 = 93 + 1 := ⟨by decide +kernel, rfl⟩
theorem dX10_readChamber_94 : decode cX10_readChamber 94 = .ok (.iload_n 3, 1) ∧ 95 = 94 + 1 := ⟨by decide +kernel, rfl⟩
theorem dX10_readChamber_95 : decode cX10_readChamber 95 = .ok (.i2l, 1) ∧ 96 = 95 + 1 := ⟨by decide +kernel, rfl⟩
theorem dX10_readChamber_96 : decode cX10_readChamber 96 = .ok (.lastore, 1) ∧ 97 = 96 + 1 := ⟨by decide +kernel, rfl⟩
theorem dX10_readChamber_97 : decode cX10_readChamber 97 = .ok (.aload_n 0, 1) ∧ 98 = 97 + 1 := ⟨by decide +kernel, rfl⟩
theorem dX10_readChamber_98 : decode cX10_readChamber 98 = .ok (.getfield 19, 3) ∧ 101 = 98 + 3 := ⟨by decide +kernel, rfl⟩
theorem dX10_readChamber_101 : decode cX10_readChamber 101 = .ok (.iload 4, 2) ∧ 103 = 101 + 2 := ⟨by decide +kernel, rfl⟩
theorem dX10_readChamber_103 : decode cX10_readChamber 103 = .ok (.iconst 3, 1) ∧ 104 = 103 + 1 := ⟨by decide +kernel, rfl⟩
theorem dX10_readChamber_104 : decode cX10_readChamber 104 = .ok (.iadd, 1) ∧ 105 = 104 + 1 := ⟨by decide +kernel, rfl⟩
theorem dX10_readChamber_105 : decode cX10_readChamber 105 = .ok (.ldc2_w 43, 3) ∧ 108 = 105 + 3 := ⟨by decide +kernel, rfl⟩
theorem dX10_readChamber_108 : decode cX10_readChamber 108 = .ok (.iload_n 1, 1) ∧ 109 = 108 + 1 := ⟨by decide +kernel, rfl⟩
theorem dX10_readChamber_109 : decode cX10_readChamber 109 = .ok (.i2l, 1) ∧ 110 = 109 + 1 := ⟨by decide +kernel, rfl⟩
theorem dX10_readChamber_110 : decode cX10_readChamber 110 = .ok (.lmul, 1) ∧ 111 = 110 + 1 := ⟨by decide +kernel, rfl⟩
theorem dX10_readChamber_111 : decode cX10_readChamber 111 = .ok (.lastore, 1) ∧ 112 = 111 + 1 := ⟨by decide +kernel, rfl⟩
theorem dX10_readChamber_112 : decode cX10_readChamber 112 = .ok (.aload_n 0, 1) ∧ 113 = 112 + 1 := ⟨by decide +kernel, rfl⟩
theorem dX10_readChamber_113 : decode cX10_readChamber 113 = .ok (.getfield 19, 3) ∧ 116 = 113 + 3 := ⟨by decide +kernel, rfl⟩
theorem dX10_readChamber_116 : decode cX10_readChamber 116 = .ok (.iconst 0, 1) ∧ 117 = 116 + 1 := ⟨by decide +kernel, rfl⟩
theorem dX10_readChamber_117 : decode cX10_readChamber 117 = .ok (.dup2, 1) ∧ 118 = 117 + 1 := ⟨by decide +kernel, rfl⟩
theorem dX10_readChamber_118 : decode cX10_readChamber 118 = .ok (.laload, 1) ∧ 119 = 118 + 1 := ⟨by decide +kernel, rfl⟩
theorem dX10_readChamber_119 : decode cX10_readChamber 119 = .ok (.lconst 1, 1) ∧ 120 = 119 + 1 := ⟨by decide +kernel, rfl⟩
theorem dX10_readChamber_120 : decode cX10_readChamber 120 = .ok (.ladd, 1) ∧ 121 = 120 + 1 := ⟨by decide +kernel, rfl⟩
theorem dX10_readChamber_121 : decode cX10_readChamber 121 = .ok (.lastore, 1) ∧ 122 = 121 + 1 := ⟨by decide +kernel, rfl⟩
theorem dX10_readChamber_122 : decode cX10_readChamber 122 = .ok (.return_, 1) ∧ 123 = 122 + 1 := ⟨by decide +kernel, rfl⟩
theorem dX10_readPump_0 : decode cX10_readPump 0 = .ok (.aload_n 0, 1) ∧ 1 = 0 + 1 := ⟨by decide +kernel, rfl⟩
theorem dX10_readPump_1 : decode cX10_readPump 1 = .ok (.ldc_w 300, 3) ∧ 4 = 1 + 3 := ⟨by decide +kernel, rfl⟩
theorem dX10_readPump_4 : decode cX10_readPump 4 = .ok (.iconst 1, 1) ∧ 5 = 4 + 1 := ⟨by decide +kernel, rfl⟩
theorem dX10_readPump_5 : decode cX10_readPump 5 = .ok (.bipush 6, 2) ∧ 7 = 5 + 2 := ⟨by decide +kernel, rfl⟩
theorem dX10_readPump_7 : decode cX10_readPump 7 = .ok (.invokevirtual 290, 3) ∧ 10 = 7 + 3 := ⟨by decide +kernel, rfl⟩
theorem dX10_readPump_10 : decode cX10_readPump 10 = .ok (.aload_n 0, 1) ∧ 11 = 10 + 1 := ⟨by decide +kernel, rfl⟩
theorem dX10_readPump_11 : decode cX10_readPump 11 = .ok (.invokevirtual 302, 3) ∧ 14 = 11 + 3 := ⟨by decide +kernel, rfl⟩
theorem dX10_readPump_14 : decode cX10_readPump 14 = .ok (.istore_n 1, 1) ∧ 15 = 14 + 1 := ⟨by decide +kernel, rfl⟩
theorem dX10_readPump_15 : decode cX10_readPump 15 = .ok (.aload_n 0, 1) ∧ 16 = 15 + 1 := ⟨by decide +kernel, rfl⟩
theorem dX10_readPump_16 : decode cX10_readPump 16 = .ok (.iload_n 1, 1) ∧ 17 = 16 + 1 := ⟨by decide +kernel, rfl⟩
theorem dX10_readPump_17 : decode cX10_readPump 17 = .ok (.invokevirtual 305, 3) ∧ 20 = 17 + 3 := ⟨by decide +kernel, rfl⟩
theorem dX10_readPump_20 : decode cX10_readPump 20 = .ok (.istore_n 2, 1) ∧ 21 = 20 + 1 := ⟨by decide +kernel, rfl⟩
theorem dX10_readPump_21 : decode cX10_readPump 21 = .ok (.aload_n 0, 1) ∧ 22 = 21 + 1 := ⟨by decide +kernel, rfl⟩
theorem dX10_readPump_22 : decode cX10_readPump 22 = .ok (.lconst 1, 1) ∧ 23 = 22 + 1 := ⟨by decide +kernel, rfl⟩
theorem dX10_readPump_23 : decode cX10_readPump 23 = .ok (.ldc2_w 45, 3) ∧ 26 = 23 + 3 := ⟨by decide +kernel, rfl⟩
theorem dX10_readPump_26 : decode cX10_readPump 26 = .ok (.invokevirtual 283, 3) ∧ 29 = 26 + 3 := ⟨by decide +kernel, rfl⟩
theorem dX10_readPump_29 : decode cX10_readPump 29 = .ok (.istore_n 3, 1) ∧ 30 = 29 + 1 := ⟨by decide +kernel, rfl⟩
theorem dX10_readPump_30 : decode cX10_readPump 30 = .ok (.aload_n 0, 1) ∧ 31 = 30 + 1 := ⟨by decide +kernel, rfl⟩
theorem dX10_readPump_31 : decode cX10_readPump 31 = .ok (.lconst 0, 1) ∧ 32 = 31 + 1 := ⟨by decide +kernel, rfl⟩
theorem dX10_readPump_32 : decode cX10_readPump 32 = .ok (.ldc2_w 43, 3) ∧ 35 = 32 + 3 := ⟨by decide +kernel, rfl⟩
theorem dX10_readPump_35 : decode cX10_readPump 35 = .ok (.invokevirtual 283, 3) ∧ 38 = 35 + 3 := ⟨by decide +kernel, rfl⟩
theorem dX10_readPump_38 : decode cX10_readPump 38 = .ok (.istore 4, 2) ∧ 40 = 38 + 2 := ⟨by decide +kernel, rfl⟩
theorem dX10_readPump_40 : decode cX10_readPump 40 = .ok (.aload_n 0, 1) ∧ 41 = 40 + 1 := ⟨by decide +kernel, rfl⟩
theorem dX10_readPump_41 : decode cX10_readPump 41 = .ok (.iload 4, 2) ∧ 43 = 41 + 2 := ⟨by decide +kernel, rfl⟩
theorem dX10_readPump_43 : decode cX10_readPump 43 = .ok (.i2l, 1) ∧ 44 = 43 + 1 := ⟨by decide +kernel, rfl⟩
theorem dX10_readPump_44 : decode cX10_readPump 44 = .ok (.ldc2_w 43, 3) ∧ 47 = 44 + 3 := ⟨by decide +kernel, rfl⟩
theorem dX10_readPump_47 : decode cX10_readPump 47 = .ok (.invokevirtual 283, 3) ∧ 50 = 47 + 3 := ⟨by decide +kernel, rfl⟩
theorem dX10_readPump_50 : decode cX10_readPump 50 = .ok (.istore 5, 2) ∧ 52 = 50 + 2 := ⟨by decide +kernel, rfl⟩
theorem dX10_readPump_52 : decode cX10_readPump 52 = .ok (.iload_n 2, 1) ∧ 53 = 52 + 1 := ⟨by decide +kernel, rfl⟩
theorem dX10_readPump_53 : decode cX10_readPump 53 = .ok (.iconst (-1), 1) ∧ 54 = 53 + 1 := ⟨by decide +kernel, rfl⟩
theorem dX10_readPump_54 : decode cX10_readPump 54 = .ok (.if_icmp .ne 7, 3) ∧ 57 = 54 + 3 := ⟨by decide +kernel, rfl⟩
theorem dX10_readPump_57 : decode cX10_readPump 57 = .ok (.iconst (-1), 1) ∧ 58 = 57 + 1 := ⟨by decide +kernel, rfl⟩
theorem dX10_readPump_58 : decode cX10_readPump 58 = .ok (.goto 11, 3) ∧ 61 = 58 + 3 := ⟨by decide +kernel, rfl⟩
theorem dX10_readPump_61 : decode cX10_readPump 61 = .ok (.aload_n 0, 1) ∧ 62 = 61 + 1 := ⟨by decide +kernel, rfl⟩
theorem dX10_readPump_62 : decode cX10_readPump 62 = .ok (.lconst 0, 1) ∧ 63 = 62 + 1 := ⟨by decide +kernel, rfl⟩
theorem dX10_readPump_63 : decode cX10_readPump 63 = .ok (.ldc2_w 43, 3) ∧ 66 = 63 + 3 := ⟨by decide +kernel, rfl⟩
theorem dX10_readPump_66 : decode cX10_readPump 66 = .ok (.invokevirtual 283, 3) ∧ 69 = 66 + 3 := ⟨by decide +kernel, rfl⟩
theorem dX10_readPump_69 : decode cX10_readPump 69 = .ok (.istore 6, 2) ∧ 71 = 69 + 2 := ⟨by decide +kernel, rfl⟩
theorem dX10_readPump_71 : decode cX10_readPump 71 = .ok (.aload_n 0, 1) ∧ 72 = 71 + 1 := ⟨by decide +kernel, rfl⟩
theorem dX10_readPump_72 : decode cX10_readPump 72 = .ok (.ldc_w 294, 3) ∧ 75 = 72 + 3 := ⟨by decide +kernel, rfl⟩
theorem dX10_readPump_75 : decode cX10_readPump 75 = .ok (.invokevirtual 296, 3) ∧ 78 = 75 + 3 := ⟨by decide +kernel, rfl⟩
theorem dX10_readPump_78 : decode cX10_readPump 78 = .ok (.aload_n 0, 1) ∧ 79 = 78 + 1 := ⟨by decide +kernel, rfl⟩
theorem dX10_readPump_79 : decode cX10_readPump 79 = .ok (.getfield 255, 3) ∧ 82 = 79 + 3 := ⟨by decide +kernel, rfl⟩
theorem dX10_readPump_82 : decode cX10_readPump 82 = .ok (.ifCond .le 4, 3) ∧ 85 = 82 + 3 := ⟨by decide +kernel, rfl⟩
theorem dX10_readPump_85 : decode cX10_readPump 85 = .ok (.return_, 1) ∧ 86 = 85 + 1 := ⟨by decide +kernel, rfl⟩
theorem dX10_readPump_86 : decode cX10_readPump 86 = .ok (.aload_n 0, 1) ∧ 87 = 86 + 1 := ⟨by decide +kernel, rfl⟩
theorem dX10_readPump_87 : decode cX10_readPump 87 = .ok (.getfield 19, 3) ∧ 90 = 87 + 3 := ⟨by decide +kernel, rfl⟩
theorem dX10_readPump_90 : decode cX10_readPump 90 = .ok (.iconst 1, 1) ∧ 91 = 90 + 1 := ⟨by decide +kernel, rfl⟩
theorem dX10_readPump_91 : decode cX10_readPump 91 = .ok (.laload, 1) ∧ 92 = 91 + 1 := ⟨by decide +kernel, rfl⟩
theorem dX10_readPump_92 : decode cX10_readPump 92 = .ok (.l2i, 1) ∧ 93 = 92 + 1 := ⟨by decide +kernel, rfl⟩
theorem dX10_readPump_93 : decode cX10_readPump 93 = .ok (.invokestatic 71, 3) ∧ 96 = 93 + 3 := ⟨by decide +kernel, rfl⟩
theorem dX10_readPump_96 : decode cX10_readPump 96 = .ok (.istore 7, 2) ∧ 98 = 96 + 2 := ⟨by decide +kernel, rfl⟩
theorem dX10_readPump_98 : decode cX10_readPump 98 = .ok (.aload_n 0, 1) ∧ 99 = 98 + 1 := ⟨by decide +kernel, rfl⟩
theorem dX10_readPump_99 : decode cX10_readPump 99 = .ok (.getfield 19, 3) ∧ 102 = 99 + 3 := ⟨by decide +kernel, rfl⟩
theorem dX10_readPump_102 : decode cX10_readPump 102 = .ok (.iload 7, 2) ∧ 104 = 102 + 2 := ⟨by decide +kernel, rfl⟩
theorem dX10_readPump_104 : decode cX10_readPump 104 = .ok (.iconst 0, 1) ∧ 105 = 104 + 1 := ⟨by decide +kernel, rfl⟩
theorem dX10_readPump_105 : decode cX10_readPump 105 = .ok (.iadd, 1) ∧ 106 = 105 + 1 := ⟨by decide +kernel, rfl⟩
theorem dX10_readPump_106 : decode cX10_readPump 106 = .ok (.iload_n 1, 1) ∧ 107 = 106 + 1 := ⟨by decide +kernel, rfl⟩
theorem dX10_readPump_107 : decode cX10_readPump 107 = .ok (.i2l, 1) ∧ 108 = 107 + 1 := ⟨by decide +kernel, rfl⟩
theorem dX10_readPump_108 : decode cX10_readPump 108 = .ok (.lastore, 1) ∧ 109 = 108 + 1 := ⟨by decide +kernel, rfl⟩
theorem dX10_readPump_109 : decode cX10_readPump 109 = .ok (.aload_n 0, 1) ∧ 110 = 109 + 1 := ⟨by decide +kernel, rfl⟩
theorem dX10_readPump_110 : decode cX10_readPump 110 = .ok (.getfield 19, 3) ∧ 113 = 110 + 3 := ⟨by decide +kernel, rfl⟩
theorem dX10_readPump_113 : decode cX10_readPump 113 = .ok (.iload 7, 2) ∧ 115 = 113 + 2 := ⟨by decide +kernel, rfl⟩
theorem dX10_readPump_115 : decode cX10_readPump 115 = .ok (.iconst 1, 1) ∧ 116 = 115 + 1 := ⟨by decide +kernel, rfl⟩
theorem dX10_readPump_116 : decode cX10_readPump 116 = .ok (.iadd, 1) ∧ 117 = 116 + 1 := ⟨by decide +kernel, rfl⟩
theorem dX10_readPump_117 : decode cX10_readPump 117 = .ok (.iload_n 2, 1) ∧ 118 = 117 + 1 := ⟨by decide +kernel, rfl⟩
theorem dX10_readPump_118 : decode cX10_readPump 118 = .ok (.i2l, 1) ∧ 119 = 118 + 1 := ⟨by decide +kernel, rfl⟩
theorem dX10_readPump_119 : decode cX10_readPump 119 = .ok (.lastore, 1) ∧ 120 = 119 + 1 := ⟨by decide +kernel, rfl⟩
theorem dX10_readPump_120 : decode cX10_readPump 120 = .ok (.aload_n 0, 1) ∧ 121 = 120 + 1 := ⟨by decide +kernel, rfl⟩
theorem dX10_readPump_121 : decode cX10_readPump 121 = .ok (.getfield 19, 3) ∧ 124 = 121 + 3 := ⟨by decide +kernel, rfl⟩
theorem dX10_readPump_124 : decode cX10_readPump 124 = .ok (.iload 7, 2) ∧ 126 = 124 + 2 := ⟨by decide +kernel, rfl⟩
theorem dX10_readPump_126 : decode cX10_readPump 126 = .ok (.iconst 2, 1) ∧ 127 = 126 + 1 := ⟨by decide +kernel, rfl⟩
theorem dX10_readPump_127 : decode cX10_readPump 127 = .ok (.iadd, 1) ∧ 128 = 127 + 1 := ⟨by decide +kernel, rfl⟩
theorem dX10_readPump_128 : decode cX10_readPump 128 = .ok (.iload_n 3, 1) ∧ 129 = 128 + 1 := ⟨by decide +kernel, rfl⟩
theorem dX10_readPump_129 : decode cX10_readPump 129 = .ok (.i2l, 1) ∧ 130 = 129 + 1 := ⟨by decide +kernel, rfl⟩
theorem dX10_readPump_130 : decode cX10_readPump 130 = .ok (.lastore, 1) ∧ 131 = 130 + 1 := ⟨by decide +kernel, rfl⟩
theorem dX10_readPump_131 : decode cX10_readPump 131 = .ok (.aload_n 0, 1) ∧ 132 = 131 + 1 := ⟨by decide +kernel, rfl⟩
theorem dX10_readPump_132 : decode cX10_readPump 132 = .ok (.getfield 19, 3) ∧ 135 = 132 + 3 := ⟨by decide +kernel, rfl⟩
theorem dX10_readPump_135 : decode cX10_readPump 135 = .ok (.iload 7, 2) ∧ 137 = 135 + 2 := ⟨by decide +kernel, rfl⟩
theorem dX10_readPump_137 : decode cX10_readPump 137 = .ok (.iconst 3, 1) ∧ 138 = 137 + 1 := ⟨by decide +kernel, rfl⟩
theorem dX10_readPump_138 : decode cX10_readPump 138 = .ok (.iadd, 1) ∧ 139 = 138 + 1 := ⟨by decide +kernel, rfl⟩
theorem dX10_readPump_139 : decode cX10_readPump 139 = .ok (.iload 4, 2) ∧ 141 = 139 + 2 := ⟨by decide +kernel, rfl⟩
theorem dX10_readPump_141 : decode cX10_readPump 141 = .ok (.i2l, 1) ∧ 142 = 141 + 1 := ⟨by decide +kernel, rfl⟩
theorem dX10_readPump_142 : decode cX10_readPump 142 = .ok (.lastore, 1) ∧ 143 = 142 + 1 := ⟨by decide +kernel, rfl⟩
theorem dX10_readPump_143 : decode cX10_readPump 143 = .ok (.aload_n 0, 1) ∧ 144 = 143 + 1 := ⟨by decide +kernel, rfl⟩
theorem dX10_readPump_144 : decode cX10_readPump 144 = .ok (.getfield 19, 3) ∧ 147 = 144 + 3 := ⟨by decide +kernel, rfl⟩
theorem dX10_readPump_147 : decode cX10_readPump 147 = .ok (.iload 7, 2) ∧ 149 = 147 + 2 := ⟨by decide +kernel, rfl⟩
theorem dX10_readPump_149 : decode cX10_readPump 149 = .ok (.iconst 4, 1) ∧ 150 = 149 + 1 := ⟨by decide +kernel, rfl⟩
theorem dX10_readPump_150 : decode cX10_readPump 150 = .ok (.iadd, 1) ∧ 151 = 150 + 1 := ⟨by decide +kernel, rfl⟩
theorem dX10_readPump_151 : decode cX10_readPump 151 = .ok (.iload 5, 2) ∧ 153 = 151 + 2 := ⟨by decide +kernel, rfl⟩
theorem dX10_readPump_153 : decode cX10_readPump 153 = .ok (.i2l, 1) ∧ 154 = 153 + 1 := ⟨by decide +kernel, rfl⟩
theorem dX10_readPump_154 : decode cX10_readPump 154 = .ok (.lastore, 1) ∧ 155 = 154 + 1 := ⟨by decide +kernel, rfl⟩
theorem dX10_readPump_155 : decode cX10_readPump 155 = .ok (.aload_n 0, 1) ∧ 156 = 155 + 1 := ⟨by decide +kernel, rfl⟩
theorem dX10_readPump_156 : decode cX10_readPump 156 = .ok (.getfield 19, 3) ∧ 159 = 156 + 3 := ⟨by decide +kernel, rfl⟩
theorem dX10_readPump_159 : decode cX10_readPump 159 = .ok (.iload 7, 2) ∧ 161 = 159 + 2 := ⟨by decide +kernel, rfl⟩
theorem dX10_readPump_161 : decode cX10_readPump 161 = .ok (.iconst 5, 1) ∧ 162 = 161 + 1 := ⟨by decide +kernel, rfl⟩
theorem dX10_readPump_162 : decode cX10_readPump 162 = .ok (.iadd, 1) ∧ 163 = 162 + 1 := ⟨by decide +kernel, rfl⟩
theorem dX10_readPump_163 : decode cX10_readPump 163 = .ok (.iload 6, 2) ∧ 165 = 163 + 2 := ⟨by decide +kernel, rfl⟩
theorem dX10_readPump_165 : decode cX10_readPump 165 = .ok (.i2l, 1) ∧ 166 = 165 + 1 := ⟨by decide +kernel, rfl⟩
theorem dX10_readPump_166 : decode cX10_readPump 166 = .ok (.lastore, 1) ∧ 167 = 166 + 1 := ⟨by decide +kernel, rfl⟩
theorem dX10_readPump_167 : decode cX10_readPump 167 = .ok (.aload_n 0, 1) ∧ 168 = 167 + 1 := ⟨by decide +kernel, rfl⟩
theorem dX10_readPump_168 : decode cX10_readPump 168 = .ok (.getfield 19, 3) ∧ 171 = 168 + 3 := ⟨by decide +kernel, rfl⟩
theorem dX10_readPump_171 : decode cX10_readPump 171 = .ok (.iconst 1, 1) ∧ 172 = 171 + 1 := ⟨by decide +kernel, rfl⟩
theorem dX10_readPump_172 : decode cX10_readPump 172 = .ok (.dup2, 1) ∧ 173 = 172 + 1 := ⟨by decide +kernel, rfl⟩
theorem dX10_readPump_173 : decode cX10_readPump 173 = .ok (.laload, 1) ∧ 174 = 173 + 1 := ⟨by decide +kernel, rfl⟩
theorem dX10_readPump_174 : decode cX10_readPump 174 = .ok (.lconst 1, 1) ∧ 175 = 174 + 1 := ⟨by decide +kernel, rfl⟩
theorem dX10_readPump_175 : decode cX10_readPump 175 = .ok (.ladd, 1) ∧ 176 = 175 + 1 := ⟨by decide +kernel, rfl⟩
theorem dX10_readPump_176 : decode cX10_readPump 176 = .ok (.lastore, 1) ∧ 177 = 176 + 1 := ⟨by decide +kernel, rfl⟩
theorem dX10_readPump_177 : decode cX10_readPump 177 = .ok (.return_, 1) ∧ 178 = 177 + 1 := ⟨by decide +kernel, rfl⟩
theorem dX10_readValve_0 : decode cX10_readValve 0 = .ok (.aload_n 0, 1) ∧ 1 = 0 + 1 := ⟨by decide +kernel, rfl⟩
theorem dX10_readValve_1 : decode cX10_readValve 1 = .ok (.ldc_w 308, 3) ∧ 4 = 1 + 3 := ⟨by decide +kernel, rfl⟩
theorem dX10_readValve_4 : decode cX10_readValve 4 = .ok (.iconst 2, 1) ∧ 5 = 4 + 1 := ⟨by decide +kernel, rfl⟩
theorem dX10_readValve_5 : decode cX10_readValve 5 = .ok (.bipush 10, 2) ∧ 7 = 5 + 2 := ⟨by decide +kernel, rfl⟩
theorem dX10_readValve_7 : decode cX10_readValve 7 = .ok (.invokevirtual 290, 3) ∧ 10 = 7 + 3 := ⟨by decide +kernel, rfl⟩
theorem dX10_readValve_10 : decode cX10_readValve 10 = .ok (.aload_n 0, 1) ∧ 11 = 10 + 1 := ⟨by decide +kernel, rfl⟩
theorem dX10_readValve_11 : decode cX10_readValve 11 = .ok (.invokevirtual 302, 3) ∧ 14 = 11 + 3 := ⟨by decide +kernel, rfl⟩
theorem dX10_readValve_14 : decode cX10_readValve 14 = .ok (.istore_n 1, 1) ∧ 15 = 14 + 1 := ⟨by decide +kernel, rfl⟩
theorem dX10_readValve_15 : decode cX10_readValve 15 = .ok (.aload_n 0, 1) ∧ 16 = 15 + 1 := ⟨by decide +kernel, rfl⟩
theorem dX10_readValve_16 : decode cX10_readValve 16 = .ok (.iload_n 1, 1) ∧ 17 = 16 + 1 := ⟨by decide +kernel, rfl⟩
theorem dX10_readValve_17 : decode cX10_readValve 17 = .ok (.invokevirtual 305, 3) ∧ 20 = 17 + 3 := ⟨by decide +kernel, rfl⟩
theorem dX10_readValve_20 : decode cX10_readValve 20 = .ok (.istore_n 2, 1) ∧ 21 = 20 + 1 := ⟨by decide +kernel, rfl⟩
theorem dX10_readValve_21 : decode cX10_readValve 21 = .ok (.aload_n 0, 1) ∧ 22 = 21 + 1 := ⟨by decide +kernel, rfl⟩
theorem dX10_readValve_22 : decode cX10_readValve 22 = .ok (.lconst 1, 1) ∧ 23 = 22 + 1 := ⟨by decide +kernel, rfl⟩
theorem dX10_readValve_23 : decode cX10_readValve 23 = .ok (.ldc2_w 45, 3) ∧ 26 = 23 + 3 := ⟨by decide +kernel, rfl⟩
theorem dX10_readValve_26 : decode cX10_readValve 26 = .ok (.invokevirtual 283, 3) ∧ 29 = 26 + 3 := ⟨by decide +kernel, rfl⟩
theorem dX10_readValve_29 : decode cX10_readValve 29 = .ok (.istore_n 3, 1) ∧ 30 = 29 + 1 := ⟨by decide +kernel, rfl⟩
theorem dX10_readValve_30 : decode cX10_readValve 30 = .ok (.aload_n 0, 1) ∧ 31 = 30 + 1 := ⟨by decide +kernel, rfl⟩
theorem dX10_readValve_31 : decode cX10_readValve 31 = .ok (.lconst 0, 1) ∧ 32 = 31 + 1 := ⟨by decide +kernel, rfl⟩
theorem dX10_readValve_32 : decode cX10_readValve 32 = .ok (.ldc2_w 43, 3) ∧ 35 = 32 + 3 := ⟨by decide +kernel, rfl⟩
theorem dX10_readValve_35 : decode cX10_readValve 35 = .ok (.invokevirtual 283, 3) ∧ 38 = 35 + 3 := ⟨by decide +kernel, rfl⟩
theorem dX10_readValve_38 : decode cX10_readValve 38 = .ok (.istore 4, 2) ∧ 40 = 38 + 2 := ⟨by decide +kernel, rfl⟩
theorem dX10_readValve_40 : decode cX10_readValve 40 = .ok (.aload_n 0, 1) ∧ 41 = 40 + 1 := ⟨by decide +kernel, rfl⟩
theorem dX10_readValve_41 : decode cX10_readValve 41 = .ok (.ldc_w 294, 3) ∧ 44 = 41 + 3 := ⟨by decide +kernel, rfl⟩
theorem dX10_readValve_44 : decode cX10_readValve 44 = .ok (.invokevirtual 296, 3) ∧ 47 = 44 + 3 := ⟨by decide +kernel, rfl⟩
theorem dX10_readValve_47 : decode cX10_readValve 47 = .ok (.aload_n 0, 1) ∧ 48 = 47 + 1 := ⟨by decide +kernel, rfl⟩
theorem dX10_readValve_48 : decode cX10_readValve 48 = .ok (.getfield 255, 3) ∧ 51 = 48 + 3 := ⟨by decide +kernel, rfl⟩
theorem dX10_readValve_51 : decode cX10_readValve 51 = .ok (.ifCond .le 4, 3) ∧ 54 = 51 + 3 := ⟨by decide +kernel, rfl⟩
theorem dX10_readValve_54 : decode cX10_readValve 54 = .ok (.return_, 1) ∧ 55 = 54 + 1 := ⟨by decide +kernel, rfl⟩
theorem dX10_readValve_55 : decode cX10_readValve 55 = .ok (.aload_n 0, 1) ∧ 56 = 55 + 1 := ⟨by decide +kernel, rfl⟩
theorem dX10_readValve_56 : decode cX10_readValve 56 = .ok (.getfield 19, 3) ∧ 59 = 56 + 3 := ⟨by decide +kernel, rfl⟩
theorem dX10_readValve_59 : decode cX10_readValve 59 = .ok (.iconst 2, 1) ∧ 60 = 59 + 1 := ⟨by decide +kernel, rfl⟩
theorem dX10_readValve_60 : decode cX10_readValve 60 = .ok (.laload, 1) ∧ 61 = 60 + 1 := ⟨by decide +kernel, rfl⟩
theorem dX10_readValve_61 : decode cX10_readValve 61 = .ok (.l2i, 1) ∧ 62 = 61 + 1 := ⟨by decide +kernel, rfl⟩
theorem dX10_readValve_62 : decode cX10_readValve 62 = .ok (.invokestatic 68, 3) ∧ 65 = 62 + 3 := ⟨by decide +kernel, rfl⟩
theorem dX10_readValve_65 : decode cX10_readValve 65 = .ok (.istore 5, 2) ∧ 67 = 65 + 2 := ⟨by decide +kernel, rfl⟩
theorem dX10_readValve_67 : decode cX10_readValve 67 = .ok (.aload_n 0, 1) ∧ 68 = 67 + 1 := ⟨by decide +kernel, rfl⟩
theorem dX10_readValve_68 : decode cX10_readValve 68 = .ok (.getfield 19, 3) ∧ 71 = 68 + 3 := ⟨by decide +kernel, rfl⟩
theorem dX10_readValve_71 : decode cX10_readValve 71 = .ok (.iload 5, 2) ∧ 73 = 71 + 2 := ⟨by decide +kernel, rfl⟩
theorem dX10_readValve_73 : decode cX10_readValve 73 = .ok (.iconst 0, 1) ∧ 74 = 73 + 1 := ⟨by decide +kernel, rfl⟩
theorem dX10_readValve_74 : decode cX10_readValve 74 = .ok (.iadd, 1) ∧ 75 = 74 + 1 := ⟨by decide +kernel, rfl⟩
theorem dX10_readValve_75 : decode cX10_readValve 75 = .ok (.iload_n 1, 1) ∧ 76 = 75 + 1 := ⟨by decide +kernel, rfl⟩
theorem dX10_readValve_76 : decode cX10_readValve 76 = .ok (.i2l, 1) ∧ 77 = 76 + 1 := ⟨by decide +kernel, rfl⟩
theorem dX10_readValve_77 : decode cX10_readValve 77 = .ok (.lastore, 1) ∧ 78 = 77 + 1 := ⟨by decide +kernel, rfl⟩
theorem dX10_readValve_78 : decode cX10_readValve 78 = .ok (.aload_n 0, 1) ∧ 79 = 78 + 1 := ⟨by decide +kernel, rfl⟩
theorem dX10_readValve_79 : decode cX10_readValve 79 = .ok (.getfield 19, 3) ∧ 82 = 79 + 3 := ⟨by decide +kernel, rfl⟩
theorem dX10_readValve_82 : decode cX10_readValve 82 = .ok (.iload 5, 2) ∧ 84 = 82 + 2 := ⟨by decide +kernel, rfl⟩
theorem dX10_readValve_84 : decode cX10_readValve 84 = .ok (.iconst 1, 1) ∧ 85 = 84 + 1 := ⟨by decide +kernel, rfl⟩
theorem dX10_readValve_85 : decode cX10_readValve 85 = .ok (.iadd, 1) ∧ 86 = 85 + 1 := ⟨by decide +kernel, rfl⟩
theorem dX10_readValve_86 : decode cX10_readValve 86 = .ok (.iload_n 2, 1) ∧ 87 = 86 + 1 := ⟨by decide +kernel, rfl⟩
theorem dX10_readValve_87 : decode cX10_readValve 87 = .ok (.i2l, 1) ∧ 88 = 87 + 1 := ⟨by decide +kernel, rfl⟩
theorem dX10_readValve_88 : decode cX10_readValve 88 = .ok (.lastore, 1) ∧ 89 = 88 + 1 := ⟨by decide +kernel, rfl⟩
theorem dX10_readValve_89 : decode cX10_readValve 89 = .ok (.aload_n 0, 1) ∧ 90 = 89 + 1 := ⟨by decide +kernel, rfl⟩
theorem dX10_readValve_90 : decode cX10_readValve 90 = .ok (.getfield 19, 3) ∧ 93 = 90 + 3 := ⟨by decide +kernel, rfl⟩
theorem dX10_readValve_93 : decode cX10_readValve 93 = .ok (.iload 5, 2) ∧ 95 = 93 + 2 := ⟨by decide +kernel, rfl⟩
theorem dX10_readValve_95 : decode cX10_readValve 95 = .ok (.iconst 2, 1) ∧ 96 = 95 + 1 := ⟨by decide +kernel, rfl⟩
theorem dX10_readValve_96 : decode cX10_readValve 96 = .ok (.iadd, 1) ∧ 97 = 96 + 1 := ⟨by decide +kernel, rfl⟩
theorem dX10_readValve_97 : decode cX10_readValve 97 = .ok (.iload_n 3, 1) ∧ 98 = 97 + 1 := ⟨by decide +kernel, rfl⟩
theorem dX10_readValve_98 : decode cX10_readValve 98 = .ok (.i2l, 1) ∧ 99 = 98 + 1 := ⟨by decide +kernel, rfl⟩
theorem dX10_readValve_99 : decode cX10_readValve 99 = .ok (.lastore, 1) ∧ 100 = 99 + 1 := ⟨by decide +kernel, rfl⟩
theorem dX10_readValve_100 : decode cX10_readValve 100 = .ok (.aload_n 0, 1) ∧ 101 = 100 + 1 := ⟨by decide +kernel, rfl⟩
theorem dX10_readValve_101 : decode cX10_readValve 101 = .ok (.getfield 19, 3) ∧ 104 = 101 + 3 := ⟨by decide +kernel, rfl⟩
theorem dX10_readValve_104 : decode cX10_readValve 104 = .ok (.iload 5, 2) ∧ 106 = 104 + 2 := ⟨by decide +kernel, rfl⟩
theorem dX10_readValve_106 : decode cX10_readValve 106 = .ok (.iconst 3, 1) ∧ 107 = 106 + 1 := ⟨by decide +kernel, rfl⟩
theorem dX10_readValve_107 : decode cX10_readValve 107 = .ok (.iadd, 1) ∧ 108 = 107 + 1 := ⟨by decide +kernel, rfl⟩
theorem dX10_readValve_108 : decode cX10_readValve 108 = .ok (.iload 4, 2) ∧ 110 = 108 + 2 := ⟨by decide +kernel, rfl⟩
theorem dX10_readValve_110 : decode cX10_readValve 110 = .ok (.i2l, 1) ∧ 111 = 110 + 1 := ⟨by decide +kernel, rfl⟩
theorem dX10_readValve_111 : decode cX10_readValve 111 = .ok (.lastore, 1) ∧ 112 = 111 + 1 := ⟨by decide +kernel, rfl⟩
theorem dX10_readValve_112 : decode cX10_readValve 112 = .ok (.aload_n 0, 1) ∧ 113 = 112 + 1 := ⟨by decide +kernel, rfl⟩
theorem dX10_readValve_113 : decode cX10_readValve 113 = .ok (.getfield 19, 3) ∧ 116 = 113 + 3 := ⟨by decide +kernel, rfl⟩
theorem dX10_readValve_116 : decode cX10_readValve 116 = .ok (.iconst 2, 1) ∧ 117 = 116 + 1 := ⟨by decide +kernel, rfl⟩
theorem dX10_readValve_117 : decode cX10_readValve 117 = .ok (.dup2, 1) ∧ 118 = 117 + 1 := ⟨by decide +kernel, rfl⟩
theorem dX10_readValve_118 : decode cX10_readValve 118 = .ok (.laload, 1) ∧ 119 = 118 + 1 := ⟨by decide +kernel, rfl⟩
theorem dX10_readValve_119 : decode cX10_readValve 119 = .ok (.lconst 1, 1) ∧ 120 = 119 + 1 := ⟨by decide +kernel, rfl⟩
theorem dX10_readValve_120 : decode cX10_readValve 120 = .ok (.ladd, 1) ∧ 121 = 120 + 1 := ⟨by decide +kernel, rfl⟩
theorem dX10_readValve_121 : decode cX10_readValve 121 = .ok (.lastore, 1) ∧ 122 = 121 + 1 := ⟨by decide +kernel, rfl⟩
theorem dX10_readValve_122 : decode cX10_readValve 122 = .ok (.return_, 1) ∧ 123 = 122 + 1 := ⟨by decide +kernel, rfl⟩
theorem dX10_readFlange_0 : decode cX10_readFlange 0 = .ok (.aload_n 0, 1) ∧ 1 = 0 + 1 := ⟨by decide +kernel, rfl⟩
theorem dX10_readFlange_1 : decode cX10_readFlange 1 = .ok (.ldc_w 310, 3) ∧ 4 = 1 + 3 := ⟨by decide +kernel, rfl⟩
theorem dX10_readFlange_4 : decode cX10_readFlange 4 = .ok (.iconst 3, 1) ∧ 5 = 4 + 1 := ⟨by decide +kernel, rfl⟩
theorem dX10_readFlange_5 : decode cX10_readFlange 5 = .ok (.bipush 24, 2) ∧ 7 = 5 + 2 := ⟨by decide +kernel, rfl⟩
theorem dX10_readFlange_7 : decode cX10_readFlange 7 = .ok (.invokevirtual 290, 3) ∧ 10 = 7 + 3 := ⟨by decide +kernel, rfl⟩
theorem dX10_readFlange_10 : decode cX10_readFlange 10 = .ok (.aload_n 0, 1) ∧ 11 = 10 + 1 := ⟨by decide +kernel, rfl⟩
theorem dX10_readFlange_11 : decode cX10_readFlange 11 = .ok (.invokevirtual 302, 3) ∧ 14 = 11 + 3 := ⟨by decide +kernel, rfl⟩
theorem dX10_readFlange_14 : decode cX10_readFlange 14 = .ok (.istore_n 1, 1) ∧ 15 = 14 + 1 := ⟨by decide +kernel, rfl⟩
theorem dX10_readFlange_15 : decode cX10_readFlange 15 = .ok (.aload_n 0, 1) ∧ 16 = 15 + 1 := ⟨by decide +kernel, rfl⟩
theorem dX10_readFlange_16 : decode cX10_readFlange 16 = .ok (.lconst 0, 1) ∧ 17 = 16 + 1 := ⟨by decide +kernel, rfl⟩
theorem dX10_readFlange_17 : decode cX10_readFlange 17 = .ok (.ldc2_w 197, 3) ∧ 20 = 17 + 3 := ⟨by decide +kernel, rfl⟩
theorem dX10_readFlange_20 : decode cX10_readFlange 20 = .ok (.invokevirtual 283, 3) ∧ 23 = 20 + 3 := ⟨by decide +kernel, rfl⟩
theorem dX10_readFlange_23 : decode cX10_readFlange 23 = .ok (.istore_n 2, 1) ∧ 24 = 23 + 1 := ⟨by decide +kernel, rfl⟩
theorem dX10_readFlange_24 : decode cX10_readFlange 24 = .ok (.aload_n 0, 1) ∧ 25 = 24 + 1 := ⟨by decide +kernel, rfl⟩
theorem dX10_readFlange_25 : decode cX10_readFlange 25 = .ok (.ldc_w 294, 3) ∧ 28 = 25 + 3 := ⟨by decide +kernel, rfl⟩
theorem dX10_readFlange_28 : decode cX10_readFlange 28 = .ok (.invokevirtual 296, 3) ∧ 31 = 28 + 3 := ⟨by decide +kernel, rfl⟩
theorem dX10_readFlange_31 : decode cX10_readFlange 31 = .ok (.aload_n 0, 1) ∧ 32 = 31 + 1 := ⟨by decide +kernel, rfl⟩
theorem dX10_readFlange_32 : decode cX10_readFlange 32 = .ok (.getfield 255, 3) ∧ 35 = 32 + 3 := ⟨by decide +kernel, rfl⟩
theorem dX10_readFlange_35 : decode cX10_readFlange 35 = .ok (.ifCond .le 4, 3) ∧ 38 = 35 + 3 := ⟨by decide +kernel, rfl⟩
theorem dX10_readFlange_38 : decode cX10_readFlange 38 = .ok (.return_, 1) ∧ 39 = 38 + 1 := ⟨by decide +kernel, rfl⟩
theorem dX10_readFlange_39 : decode cX10_readFlange 39 = .ok (.aload_n 0, 1) ∧ 40 = 39 + 1 := ⟨by decide +kernel, rfl⟩
theorem dX10_readFlange_40 : decode cX10_readFlange 40 = .ok (.getfield 19, 3) ∧ 43 = 40 + 3 := ⟨by decide +kernel, rfl⟩
theorem dX10_readFlange_43 : decode cX10_readFlange 43 = .ok (.iconst 3, 1) ∧ 44 = 43 + 1 := ⟨by decide +kernel, rfl⟩
theorem dX10_readFlange_44 : decode cX10_readFlange 44 = .ok (.laload, 1) ∧ 45 = 44 + 1 := ⟨by decide +kernel, rfl⟩
theorem dX10_readFlange_45 : decode cX10_readFlange 45 = .ok (.l2i, 1) ∧ 46 = 45 + 1 := ⟨by decide +kernel, rfl⟩
theorem dX10_readFlange_46 : decode cX10_readFlange 46 = .ok (.invokestatic 96, 3) ∧ 49 = 46 + 3 := ⟨by decide +kernel, rfl⟩
theorem dX10_readFlange_49 : decode cX10_readFlange 49 = .ok (.istore_n 3, 1) ∧ 50 = 49 + 1 := ⟨by decide +kernel, rfl⟩
theorem dX10_readFlange_50 : decode cX10_readFlange 50 = .ok (.aload_n 0, 1) ∧ 51 = 50 + 1 := ⟨by decide +kernel, rfl⟩
theorem dX10_readFlange_51 : decode cX10_readFlange 51 = .ok (.getfield 19, 3) ∧ 54 = 51 + 3 := ⟨by decide +kernel, rfl⟩
theorem dX10_readFlange_54 : decode cX10_readFlange 54 = .ok (.iload_n 3, 1) ∧ 55 = 54 + 1 := ⟨by decide +kernel, rfl⟩
theorem dX10_readFlange_55 : decode cX10_readFlange 55 = .ok (.iconst 0, 1) ∧ 56 = 55 + 1 := ⟨by decide +kernel, rfl⟩
theorem dX10_readFlange_56 : decode cX10_readFlange 56 = .ok (.iadd, 1) ∧ 57 = 56 + 1 := ⟨by decide +kernel, rfl⟩
theorem dX10_readFlange_57 : decode cX10_readFlange 57 = .ok (.iload_n 1, 1) ∧ 58 = 57 + 1 := ⟨by decide +kernel, rfl⟩
theorem dX10_readFlange_58 : decode cX10_readFlange 58 = .ok (.i2l, 1) ∧ 59 = 58 + 1 := ⟨by decide +kernel, rfl⟩
theorem dX10_readFlange_59 : decode cX10_readFlange 59 = .ok (.lastore, 1) ∧ 60 = 59 + 1 := ⟨by decide +kernel, rfl⟩
theorem dX10_readFlange_60 : decode cX10_readFlange 60 = .ok (.aload_n 0, 1) ∧ 61 = 60 + 1 := ⟨by decide +kernel, rfl⟩
theorem dX10_readFlange_61 : decode cX10_readFlange 61 = .ok (.getfield 19, 3) ∧ 64 = 61 + 3 := ⟨by decide +kernel, rfl⟩
theorem dX10_readFlange_64 : decode cX10_readFlange 64 = .ok (.iload_n 3, 1) ∧ 65 = 64 + 1 := ⟨by decide +kernel, rfl⟩
theorem dX10_readFlange_65 : decode cX10_readFlange 65 = .ok (.iconst 1, 1) ∧ 66 = 65 + 1 := ⟨by decide +kernel, rfl⟩
theorem dX10_readFlange_66 : decode cX10_readFlange 66 = .ok (.iadd, 1) ∧ 67 = 66 + 1 := ⟨by decide +kernel, rfl⟩
theorem dX10_readFlange_67 : decode cX10_readFlange 67 = .ok (.iload_n 2, 1) ∧ 68 = 67 + 1 := ⟨by decide +kernel, rfl⟩
theorem dX10_readFlange_68 : decode cX10_readFlange 68 = .ok (.i2l, 1) ∧ 69 = 68 + 1 := ⟨by decide +kernel, rfl⟩
theorem dX10_readFlange_69 : decode cX10_readFlange 69 = .ok (.lastore, 1) ∧ 70 = 69 + 1 := ⟨by decide +kernel, rfl⟩
theorem dX10_readFlange_70 : decode cX10_readFlange 70 = .ok (.aload_n 0, 1) ∧ 71 = 70 + 1 := ⟨by decide +kernel, rfl⟩
theorem dX10_readFlange_71 : decode cX10_readFlange 71 = .ok (.getfield 19, 3) ∧ 74 = 71 + 3 := ⟨by decide +kernel, rfl⟩
theorem dX10_readFlange_74 : decode cX10_readFlange 74 = .ok (.iconst 3, 1) ∧ 75 = 74 + 1 := ⟨by decide +kernel, rfl⟩
theorem dX10_readFlange_75 : decode cX10_readFlange 75 = .ok (.dup2, 1) ∧ 76 = 75 + 1 := ⟨by decide +kernel, rfl⟩
theorem dX10_readFlange_76 : decode cX10_readFlange 76 = .ok (.laload, 1) ∧ 77 = 76 + 1 := ⟨by decide +kernel, rfl⟩
theorem dX10_readFlange_77 : decode cX10_readFlange 77 = .ok (.lconst 1, 1) ∧ 78 = 77 + 1 := ⟨by decide +kernel, rfl⟩
theorem dX10_readFlange_78 : decode cX10_readFlange 78 = .ok (.ladd, 1) ∧ 79 = 78 + 1 := ⟨by decide +kernel, rfl⟩
theorem dX10_readFlange_79 : decode cX10_readFlange 79 = .ok (.lastore, 1) ∧ 80 = 79 + 1 := ⟨by decide +kernel, rfl⟩
theorem dX10_readFlange_80 : decode cX10_readFlange 80 = .ok (.return_, 1) ∧ 81 = 80 + 1 := ⟨by decide +kernel, rfl⟩
theorem dX10_parseSystem_0 : decode cX10_parseSystem 0 = .ok (.aload_n 0, 1) ∧ 1 = 0 + 1 := ⟨by decide +kernel, rfl⟩
theorem dX10_parseSystem_1 : decode cX10_parseSystem 1 = .ok (.iconst 0, 1) ∧ 2 = 1 + 1 := ⟨by decide +kernel, rfl⟩
theorem dX10_parseSystem_2 : decode cX10_parseSystem 2 = .ok (.putfield 36, 3) ∧ 5 = 2 + 3 := ⟨by decide +kernel, rfl⟩
theorem dX10_parseSystem_5 : decode cX10_parseSystem 5 = .ok (.aload_n 0, 1) ∧ 6 = 5 + 1 := ⟨by decide +kernel, rfl⟩
theorem dX10_parseSystem_6 : decode cX10_parseSystem 6 = .ok (.iconst (-1), 1) ∧ 7 = 6 + 1 := ⟨by decide +kernel, rfl⟩
theorem dX10_parseSystem_7 : decode cX10_parseSystem 7 = .ok (.putfield 29, 3) ∧ 10 = 7 + 3 := ⟨by decide +kernel, rfl⟩
theorem dX10_parseSystem_10 : decode cX10_parseSystem 10 = .ok (.iconst 0, 1) ∧ 11 = 10 + 1 := ⟨by decide +kernel, rfl⟩
theorem dX10_parseSystem_11 : decode cX10_parseSystem 11 = .ok (.istore_n 1, 1) ∧ 12 = 11 + 1 := ⟨by decide +kernel, rfl⟩
theorem dX10_parseSystem_12 : decode cX10_parseSystem 12 = .ok (.iload_n 1, 1) ∧ 13 = 12 + 1 := ⟨by decide +kernel, rfl⟩
theorem dX10_parseSystem_13 : decode cX10_parseSystem 13 = .ok (.sipush 256, 3) ∧ 16 = 13 + 3 := ⟨by decide +kernel, rfl⟩
theorem dX10_parseSystem_16 : decode cX10_parseSystem 16 = .ok (.if_icmp .ge 16, 3) ∧ 19 = 16 + 3 := ⟨by decide +kernel, rfl⟩
theorem dX10_parseSystem_19 : decode cX10_parseSystem 19 = .ok (.aload_n 0, 1) ∧ 20 = 19 + 1 := ⟨by decide +kernel, rfl⟩
theorem dX10_parseSystem_20 : decode cX10_parseSystem 20 = .ok (.getfield 19, 3) ∧ 23 = 20 + 3 := ⟨by decide +kernel, rfl⟩
theorem dX10_parseSystem_23 : decode cX10_parseSystem 23 = .ok (.iload_n 1, 1) ∧ 24 = 23 + 1 := ⟨by decide +kernel, rfl⟩
theorem dX10_parseSystem_24 : decode cX10_parseSystem 24 = .ok (.lconst 0, 1) ∧ 25 = 24 + 1 := ⟨by decide +kernel, rfl⟩
theorem dX10_parseSystem_25 : decode cX10_parseSystem 25 = .ok (.lastore, 1) ∧ 26 = 25 + 1 := ⟨by decide +kernel, rfl⟩
theorem dX10_parseSystem_26 : decode cX10_parseSystem 26 = .ok (.iinc 1 1, 3) ∧ 29 = 26 + 3 := ⟨by decide +kernel, rfl⟩
theorem dX10_parseSystem_29 : decode cX10_parseSystem 29 = .ok (.goto (-17), 3) ∧ 32 = 29 + 3 := ⟨by decide +kernel, rfl⟩
theorem dX10_parseSystem_32 : decode cX10_parseSystem 32 = .ok (.aload_n 0, 1) ∧ 33 = 32 + 1 := ⟨by decide +kernel, rfl⟩
theorem dX10_parseSystem_33 : decode cX10_parseSystem 33 = .ok (.invokevirtual 312, 3) ∧ 36 = 33 + 3 := ⟨by decide +kernel, rfl⟩
theorem dX10_parseSystem_36 : decode cX10_parseSystem 36 = .ok (.aload_n 0, 1) ∧ 37 = 36 + 1 := ⟨by decide +kernel, rfl⟩
theorem dX10_parseSystem_37 : decode cX10_parseSystem 37 = .ok (.invokevirtual 315, 3) ∧ 40 = 37 + 3 := ⟨by decide +kernel, rfl⟩
theorem dX10_parseSystem_40 : decode cX10_parseSystem 40 = .ok (.aload_n 0, 1) ∧ 41 = 40 + 1 := ⟨by decide +kernel, rfl⟩
theorem dX10_parseSystem_41 : decode cX10_parseSystem 41 = .ok (.getfield 255, 3) ∧ 44 = 41 + 3 := ⟨by decide +kernel, rfl⟩
theorem dX10_parseSystem_44 : decode cX10_parseSystem 44 = .ok (.ifCond .ne 13, 3) ∧ 47 = 44 + 3 := ⟨by decide +kernel, rfl⟩
theorem dX10_parseSystem_47 : decode cX10_parseSystem 47 = .ok (.aload_n 0, 1) ∧ 48 = 47 + 1 := ⟨by decide +kernel, rfl⟩
theorem dX10_parseSystem_48 : decode cX10_parseSystem 48 = .ok (.ldc_w 288, 3) ∧ 51 = 48 + 3 := ⟨by decide +kernel, rfl⟩
theorem dX10_parseSystem_51 : decode cX10_parseSystem 51 = .ok (.invokevirtual 279, 3) ∧ 54 = 51 + 3 := ⟨by decide +kernel, rfl⟩
theorem dX10_parseSystem_54 : decode cX10_parseSystem 54 = .ok (.ifCond .ne (-18), 3) ∧ 57 = 54 + 3 := ⟨by decide +kernel, rfl⟩
theorem dX10_parseSystem_57 : decode cX10_parseSystem 57 = .ok (.aload_n 0, 1) ∧ 58 = 57 + 1 := ⟨by decide +kernel, rfl⟩
theorem dX10_parseSystem_58 : decode cX10_parseSystem 58 = .ok (.getfield 255, 3) ∧ 61 = 58 + 3 := ⟨by decide +kernel, rfl⟩
theorem dX10_parseSystem_61 : decode cX10_parseSystem 61 = .ok (.ifCond .ne 20, 3) ∧ 64 = 61 + 3 := ⟨by decide +kernel, rfl⟩
theorem dX10_parseSystem_64 : decode cX10_parseSystem 64 = .ok (.aload_n 0, 1) ∧ 65 = 64 + 1 := ⟨by decide +kernel, rfl⟩
theorem dX10_parseSystem_65 : decode cX10_parseSystem 65 = .ok (.ldc_w 300, 3) ∧ 68 = 65 + 3 := ⟨by decide +kernel, rfl⟩
theorem dX10_parseSystem_68 : decode cX10_parseSystem 68 = .ok (.invokevirtual 279, 3) ∧ 71 = 68 + 3 := ⟨by decide +kernel, rfl⟩
theorem dX10_parseSystem_71 : decode cX10_parseSystem 71 = .ok (.ifCond .eq 10, 3) ∧ 74 = 71 + 3 := ⟨by decide +kernel, rfl⟩
theorem dX10_parseSystem_74 : decode cX10_parseSystem 74 = .ok (.aload_n 0, 1) ∧ 75 = 74 + 1 := ⟨by decide +kernel, rfl⟩
theorem dX10_parseSystem_75 : decode cX10_parseSystem 75 = .ok (.invokevirtual 318, 3) ∧ 78 = 75 + 3 := ⟨by decide +kernel, rfl⟩
theorem dX10_parseSystem_78 : decode cX10_parseSystem 78 = .ok (.goto (-21), 3) ∧ 81 = 78 + 3 := ⟨by decide +kernel, rfl⟩
theorem dX10_parseSystem_81 : decode cX10_parseSystem 81 = .ok (.aload_n 0, 1) ∧ 82 = 81 + 1 := ⟨by decide +kernel, rfl⟩
theorem dX10_parseSystem_82 : decode cX10_parseSystem 82 = .ok (.getfield 255, 3) ∧ 85 = 82 + 3 := ⟨by decide +kernel, rfl⟩
theorem dX10_parseSystem_85 : decode cX10_parseSystem 85 = .ok (.ifCond .ne 20, 3) ∧ 88 = 85 + 3 := ⟨by decide +kernel, rfl⟩
theorem dX10_parseSystem_88 : decode cX10_parseSystem 88 = .ok (.aload_n 0, 1) ∧ 89 = 88 + 1 := ⟨by decide +kernel, rfl⟩
theorem dX10_parseSystem_89 : decode cX10_parseSystem 89 = .ok (.ldc_w 308, 3) ∧ 92 = 89 + 3 := ⟨by decide +kernel, rfl⟩
theorem dX10_parseSystem_92 : decode cX10_parseSystem 92 = .ok (.invokevirtual 279, 3) ∧ 95 = 92 + 3 := ⟨by decide +kernel, rfl⟩
theorem dX10_parseSystem_95 : decode cX10_parseSystem 95 = .ok (.ifCond .eq 10, 3) ∧ 98 = 95 + 3 := ⟨by decide +kernel, rfl⟩
theorem dX10_parseSystem_98 : decode cX10_parseSystem 98 = .ok (.aload_n 0, 1) ∧ 99 = 98 + 1 := ⟨by decide +kernel, rfl⟩
theorem dX10_parseSystem_99 : decode cX10_parseSystem 99 = .ok (.invokevirtual 321, 3) ∧ 102 = 99 + 3 := ⟨by decide +kernel, rfl⟩
theorem dX10_parseSystem_102 : decode cX10_parseSystem 102 = .ok (.goto (-21), 3) ∧ 105 = 102 + 3 := ⟨by decide +kernel, rfl⟩
theorem dX10_parseSystem_105 : decode cX10_parseSystem 105 = .ok (.aload_n 0, 1) ∧ 106 = 105 + 1 := ⟨by decide +kernel, rfl⟩
theorem dX10_parseSystem_106 : decode cX10_parseSystem 106 = .ok (.getfield 255, 3) ∧ 109 = 106 + 3 := ⟨by decide +kernel, rfl⟩
theorem dX10_parseSystem_109 : decode cX10_parseSystem 109 = .ok (.ifCond .ne 21, 3) ∧ 112 = 109 + 3 := ⟨by decide +kernel, rfl⟩
theorem dX10_parseSystem_112 : decode cX10_parseSystem 112 = .ok (.aload_n 0, 1) ∧ 113 = 112 + 1 := ⟨by decide +kernel, rfl⟩
theorem dX10_parseSystem_113 : decode cX10_parseSystem 113 = .ok (.getfield 246, 3) ∧ 116 = 113 + 3 := ⟨by decide +kernel, rfl⟩
theorem dX10_parseSystem_116 : decode cX10_parseSystem 116 = .ok (.aload_n 0, 1) ∧ 117 = 116 + 1 := ⟨by decide +kernel, rfl⟩
theorem dX10_parseSystem_117 : decode cX10_parseSystem 117 = .ok (.getfield 229, 3) ∧ 120 = 117 + 3 := ⟨by decide +kernel, rfl⟩
theorem dX10_parseSystem_120 : decode cX10_parseSystem 120 = .ok (.if_icmp .ge 10, 3) ∧ 123 = 120 + 3 := ⟨by decide +kernel, rfl⟩
theorem dX10_parseSystem_123 : decode cX10_parseSystem 123 = .ok (.aload_n 0, 1) ∧ 124 = 123 + 1 := ⟨by decide +kernel, rfl⟩
theorem dX10_parseSystem_124 : decode cX10_parseSystem 124 = .ok (.invokevirtual 324, 3) ∧ 127 = 124 + 3 := ⟨by decide +kernel, rfl⟩
theorem dX10_parseSystem_127 : decode cX10_parseSystem 127 = .ok (.goto (-22), 3) ∧ 130 = 127 + 3 := ⟨by decide +kernel, rfl⟩
theorem dX10_parseSystem_130 : decode cX10_parseSystem 130 = .ok (.aload_n 0, 1) ∧ 131 = 130 + 1 := ⟨by decide +kernel, rfl⟩
theorem dX10_parseSystem_131 : decode cX10_parseSystem 131 = .ok (.getfield 255, 3) ∧ 134 = 131 + 3 := ⟨by decide +kernel, rfl⟩
theorem dX10_parseSystem_134 : decode cX10_parseSystem 134 = .ok (.ifCond .le 5, 3) ∧ 137 = 134 + 3 := ⟨by decide +kernel, rfl⟩
theorem dX10_parseSystem_137 : decode cX10_parseSystem 137 = .ok (.iconst (-1), 1) ∧ 138 = 137 + 1 := ⟨by decide +kernel, rfl⟩
theorem dX10_parseSystem_138 : decode cX10_parseSystem 138 = .ok (.ireturn, 1) ∧ 139 = 138 + 1 := ⟨by decide +kernel, rfl⟩
theorem dX10_parseSystem_139 : decode cX10_parseSystem 139 = .ok (.aload_n 0, 1) ∧ 140 = 139 + 1 := ⟨by decide +kernel, rfl⟩
theorem dX10_parseSystem_140 : decode cX10_parseSystem 140 = .ok (.getfield 19, 3) ∧ 143 = 140 + 3 := ⟨by decide +kernel, rfl⟩
theorem dX10_parseSystem_143 : decode cX10_parseSystem 143 = .ok (.aload_n 0, 1) ∧ 144 = 143 + 1 := ⟨by decide +kernel, rfl⟩
theorem dX10_parseSystem_144 : decode cX10_parseSystem 144 = .ok (.getfield 7, 3) ∧ 147 = 144 + 3 := ⟨by decide +kernel, rfl⟩
theorem dX10_parseSystem_147 : decode cX10_parseSystem 147 = .ok (.invokestatic 50, 3) ∧ 150 = 147 + 3 := ⟨by decide +kernel, rfl⟩
theorem dX10_parseSystem_150 : decode cX10_parseSystem 150 = .ok (.aload_n 0, 1) ∧ 151 = 150 + 1 := ⟨by decide +kernel, rfl⟩
theorem dX10_parseSystem_151 : decode cX10_parseSystem 151 = .ok (.iconst 0, 1) ∧ 152 = 151 + 1 := ⟨by decide +kernel, rfl⟩
theorem dX10_parseSystem_152 : decode cX10_parseSystem 152 = .ok (.putfield 47, 3) ∧ 155 = 152 + 3 := ⟨by decide +kernel, rfl⟩
theorem dX10_parseSystem_155 : decode cX10_parseSystem 155 = .ok (.aload_n 0, 1) ∧ 156 = 155 + 1 := ⟨by decide +kernel, rfl⟩
theorem dX10_parseSystem_156 : decode cX10_parseSystem 156 = .ok (.iconst 0, 1) ∧ 157 = 156 + 1 := ⟨by decide +kernel, rfl⟩
theorem dX10_parseSystem_157 : decode cX10_parseSystem 157 = .ok (.invokevirtual 93, 3) ∧ 160 = 157 + 3 := ⟨by decide +kernel, rfl⟩
theorem dX10_parseSystem_160 : decode cX10_parseSystem 160 = .ok (.ireturn, 1) ∧ 161 = 160 + 1 := ⟨by decide +kernel, rfl⟩
theorem dX10_errorCode_0 : decode cX10_errorCode 0 = .ok (.aload_n 0, 1) ∧ 1 = 0 + 1 := ⟨by decide +kernel, rfl⟩
theorem dX10_errorCode_1 : decode cX10_errorCode 1 = .ok (.iconst 0, 1) ∧ 2 = 1 + 1 := ⟨by decide +kernel, rfl⟩
theorem dX10_errorCode_2 : decode cX10_errorCode 2 = .ok (.putfield 36, 3) ∧ 5 = 2 + 3 := ⟨by decide +kernel, rfl⟩
theorem dX10_errorCode_5 : decode cX10_errorCode 5 = .ok (.aload_n 0, 1) ∧ 6 = 5 + 1 := ⟨by decide +kernel, rfl⟩
theorem dX10_errorCode_6 : decode cX10_errorCode 6 = .ok (.getfield 255, 3) ∧ 9 = 6 + 3 := ⟨by decide +kernel, rfl⟩
theorem dX10_errorCode_9 : decode cX10_errorCode 9 = .ok (.ireturn, 1) ∧ 10 = 9 + 1 := ⟨by decide +kernel, rfl⟩
theorem dX10_errorPosition_0 : decode cX10_errorPosition 0 = .ok (.aload_n 0, 1) ∧ 1 = 0 + 1 := ⟨by decide +kernel, rfl⟩
theorem dX10_errorPosition_1 : decode cX10_errorPosition 1 = .ok (.iconst 0, 1) ∧ 2 = 1 + 1 := ⟨by decide +kernel, rfl⟩
theorem dX10_errorPosition_2 : decode cX10_errorPosition 2 = .ok (.putfield 36, 3) ∧ 5 = 2 + 3 := ⟨by decide +kernel, rfl⟩
theorem dX10_errorPosition_5 : decode cX10_errorPosition 5 = .ok (.aload_n 0, 1) ∧ 6 = 5 + 1 := ⟨by decide +kernel, rfl⟩
theorem dX10_errorPosition_6 : decode cX10_errorPosition 6 = .ok (.getfield 29, 3) ∧ 9 = 6 + 3 := ⟨by decide +kernel, rfl⟩
theorem dX10_errorPosition_9 : decode cX10_errorPosition 9 = .ok (.ireturn, 1) ∧ 10 = 9 + 1 := ⟨by decide +kernel, rfl⟩
theorem dX10_operation_0 : decode cX10_operation 0 = .ok (.aload_n 0, 1) ∧ 1 = 0 + 1 := ⟨by decide +kernel, rfl⟩
theorem dX10_operation_1 : decode cX10_operation 1 = .ok (.ldc_w 327, 3) ∧ 4 = 1 + 3 := ⟨by decide +kernel, rfl⟩
theorem dX10_operation_4 : decode cX10_operation 4 = .ok (.invokevirtual 279, 3) ∧ 7 = 4 + 3 := ⟨by decide +kernel, rfl⟩
theorem dX10_operation_7 : decode cX10_operation 7 = .ok (.ifCond .eq 5, 3) ∧ 10 = 7 + 3 := ⟨by decide +kernel, rfl⟩
theorem dX10_operation_10 : decode cX10_operation 10 = .ok (.iconst 0, 1) ∧ 11 = 10 + 1 := ⟨by decide +kernel, rfl⟩
theorem dX10_operation_11 : decode cX10_operation 11 = .ok (.ireturn, 1) ∧ 12 = 11 + 1 := ⟨by decide +kernel, rfl⟩
theorem dX10_operation_12 : decode cX10_operation 12 = .ok (.aload_n 0, 1) ∧ 13 = 12 + 1 := ⟨by decide +kernel, rfl⟩
theorem dX10_operation_13 : decode cX10_operation 13 = .ok (.ldc_w 329, 3) ∧ 16 = 13 + 3 := ⟨by decide +kernel, rfl⟩
theorem dX10_operation_16 : decode cX10_operation 16 = .ok (.invokevirtual 279, 3) ∧ 19 = 16 + 3 := ⟨by decide +kernel, rfl⟩
theorem dX10_operation_19 : decode cX10_operation 19 = .ok (.ifCond .eq 5, 3) ∧ 22 = 19 + 3 := ⟨by decide +kernel, rfl⟩
theorem dX10_operation_22 : decode cX10_operation 22 = .ok (.iconst 1, 1) ∧ 23 = 22 + 1 := ⟨by decide +kernel, rfl⟩
theorem dX10_operation_23 : decode cX10_operation 23 = .ok (.ireturn, 1) ∧ 24 = 23 + 1 := ⟨by decide +kernel, rfl⟩
theorem dX10_operation_24 : decode cX10_operation 24 = .ok (.aload_n 0, 1) ∧ 25 = 24 + 1 := ⟨by decide +kernel, rfl⟩
theorem dX10_operation_25 : decode cX10_operation 25 = .ok (.ldc_w 331, 3) ∧ 28 = 25 + 3 := ⟨by decide +kernel, rfl⟩
theorem dX10_operation_28 : decode cX10_operation 28 = .ok (.invokevirtual 279, 3) ∧ 31 = 28 + 3 := ⟨by decide +kernel, rfl⟩
theorem dX10_operation_31 : decode cX10_operation 31 = .ok (.ifCond .eq 5, 3) ∧ 34 = 31 + 3 := ⟨by decide +kernel, rfl⟩
theorem dX10_operation_34 : decode cX10_operation 34 = .ok (.iconst 2, 1) ∧ 35 = 34 + 1 := ⟨by decide +kernel, rfl⟩
theorem dX10_operation_35 : decode cX10_operation 35 = .ok (.ireturn, 1) ∧ 36 = 35 + 1 := ⟨by decide +kernel, rfl⟩
theorem dX10_operation_36 : decode cX10_operation 36 = .ok (.aload_n 0, 1) ∧ 37 = 36 + 1 := ⟨by decide +kernel, rfl⟩
theorem dX10_operation_37 : decode cX10_operation 37 = .ok (.ldc_w 333, 3) ∧ 40 = 37 + 3 := ⟨by decide +kernel, rfl⟩
theorem dX10_operation_40 : decode cX10_operation 40 = .ok (.invokevirtual 279, 3) ∧ 43 = 40 + 3 := ⟨by decide +kernel, rfl⟩
theorem dX10_operation_43 : decode cX10_operation 43 = .ok (.ifCond .eq 5, 3) ∧ 46 = 43 + 3 := ⟨by decide +kernel, rfl⟩
theorem dX10_operation_46 : decode cX10_operation 46 = .ok (.iconst 3, 1) ∧ 47 = 46 + 1 := ⟨by decide +kernel, rfl⟩
theorem dX10_operation_47 : decode cX10_operation 47 = .ok (.ireturn, 1) ∧ 48 = 47 + 1 := ⟨by decide +kernel, rfl⟩
theorem dX10_operation_48 : decode cX10_operation 48 = .ok (.aload_n 0, 1) ∧ 49 = 48 + 1 := ⟨by decide +kernel, rfl⟩
theorem dX10_operation_49 : decode cX10_operation 49 = .ok (.ldc_w 335, 3) ∧ 52 = 49 + 3 := ⟨by decide +kernel, rfl⟩
theorem dX10_operation_52 : decode cX10_operation 52 = .ok (.invokevirtual 279, 3) ∧ 55 = 52 + 3 := ⟨by decide +kernel, rfl⟩
theorem dX10_operation_55 : decode cX10_operation 55 = .ok (.ifCond .eq 5, 3) ∧ 58 = 55 + 3 := ⟨by decide +kernel, rfl⟩
theorem dX10_operation_58 : decode cX10_operation 58 = .ok (.iconst 4, 1) ∧ 59 = 58 + 1 := ⟨by decide +kernel, rfl⟩
theorem dX10_operation_59 : decode cX10_operation 59 = .ok (.ireturn, 1) ∧ 60 = 59 + 1 := ⟨by decide +kernel, rfl⟩
theorem dX10_operation_60 : decode cX10_operation 60 = .ok (.aload_n 0, 1) ∧ 61 = 60 + 1 := ⟨by decide +kernel, rfl⟩
theorem dX10_operation_61 : decode cX10_operation 61 = .ok (.ldc_w 337, 3) ∧ 64 = 61 + 3 := ⟨by decide +kernel, rfl⟩
theorem dX10_operation_64 : decode cX10_operation 64 = .ok (.invokevirtual 279, 3) ∧ 67 = 64 + 3 := ⟨by decide +kernel, rfl⟩
theorem dX10_operation_67 : decode cX10_operation 67 = .ok (.ifCond .eq 5, 3) ∧ 70 = 67 + 3 := ⟨by decide +kernel, rfl⟩
theorem dX10_operation_70 : decode cX10_operation 70 = .ok (.iconst 5, 1) ∧ 71 = 70 + 1 := ⟨by decide +kernel, rfl⟩
theorem dX10_operation_71 : decode cX10_operation 71 = .ok (.ireturn, 1) ∧ 72 = 71 + 1 := ⟨by decide +kernel, rfl⟩
theorem dX10_operation_72 : decode cX10_operation 72 = .ok (.aload_n 0, 1) ∧ 73 = 72 + 1 := ⟨by decide +kernel, rfl⟩
theorem dX10_operation_73 : decode cX10_operation 73 = .ok (.ldc_w 339, 3) ∧ 76 = 73 + 3 := ⟨by decide +kernel, rfl⟩
theorem dX10_operation_76 : decode cX10_operation 76 = .ok (.invokevirtual 279, 3) ∧ 79 = 76 + 3 := ⟨by decide +kernel, rfl⟩
theorem dX10_operation_79 : decode cX10_operation 79 = .ok (.ifCond .eq 8, 3) ∧ 82 = 79 + 3 := ⟨by decide +kernel, rfl⟩
theorem dX10_operation_82 : decode cX10_operation 82 = .ok (.bipush 6, 2) ∧ 84 = 82 + 2 := ⟨by decide +kernel, rfl⟩
theorem dX10_operation_84 : decode cX10_operation 84 = .ok (.goto 19, 3) ∧ 87 = 84 + 3 := ⟨by decide +kernel, rfl⟩
theorem dX10_operation_87 : decode cX10_operation 87 = .ok (.aload_n 0, 1) ∧ 88 = 87 + 1 := ⟨by decide +kernel, rfl⟩
theorem dX10_operation_88 : decode cX10_operation 88 = .ok (.ldc_w 341, 3) ∧ 91 = 88 + 3 := ⟨by decide +kernel, rfl⟩
theorem dX10_operation_91 : decode cX10_operation 91 = .ok (.invokevirtual 279, 3) ∧ 94 = 91 + 3 := ⟨by decide +kernel, rfl⟩
theorem dX10_operation_94 : decode cX10_operation 94 = .ok (.ifCond .eq 8, 3) ∧ 97 = 94 + 3 := ⟨by decide +kernel, rfl⟩
theorem dX10_operation_97 : decode cX10_operation 97 = .ok (.bipush 7, 2) ∧ 99 = 97 + 2 := ⟨by decide +kernel, rfl⟩
theorem dX10_operation_99 : decode cX10_operation 99 = .ok (.goto 4, 3) ∧ 102 = 99 + 3 := ⟨by decide +kernel, rfl⟩
theorem dX10_operation_102 : decode cX10_operation 102 = .ok (.iconst (-1), 1) ∧ 103 = 102 + 1 := ⟨by decide +kernel, rfl⟩
theorem dX10_operation_103 : decode cX10_operation 103 = .ok (.ireturn, 1) ∧ 104 = 103 + 1 := ⟨by decide +kernel, rfl⟩
theorem dX10_does_0 : decode cX10_does 0 = .ok (.iload_n 1, 1) ∧ 1 = 0 + 1 := ⟨by decide +kernel, rfl⟩
theorem dX10_does_1 : decode cX10_does 1 = .ok (.tableswitch 306 0 6 #[43, 83, 123, 163, 203, 230, 264], 43) ∧ 44 = 1 + 43 := ⟨by decide +kernel, rfl⟩
theorem dX10_does_44 : decode cX10_does 44 = .ok (.aload_n 0, 1) ∧ 45 = 44 + 1 := ⟨by decide +kernel, rfl⟩
theorem dX10_does_45 : decode cX10_does 45 = .ok (.aload_n 0, 1) ∧ 46 = 45 + 1 := ⟨by decide +kernel, rfl⟩
theorem dX10_does_46 : decode cX10_does 46 = .ok (.getfield 343, 3) ∧ 49 = 46 + 3 := ⟨by decide +kernel, rfl⟩
theorem dX10_does_49 : decode cX10_does 49 = .ok (.invokevirtual 148, 3) ∧ 52 = 49 + 3 := ⟨by decide +kernel, rfl⟩
theorem dX10_does_52 : decode cX10_does 52 = .ok (.ifCond .eq 30, 3) ∧ 55 = 52 + 3 := ⟨by decide +kernel, rfl⟩
theorem dX10_does_55 : decode cX10_does 55 = .ok (.aload_n 0, 1) ∧ 56 = 55 + 1 := ⟨by decide +kernel, rfl⟩
theorem dX10_does_56 : decode cX10_does 56 = .ok (.aload_n 0, 1) ∧ 57 = 56 + 1 := ⟨by decide +kernel, rfl⟩
theorem dX10_does_57 : decode cX10_does 57 = .ok (.getfield 343, 3) ∧ 60 = 57 + 3 := ⟨by decide +kernel, rfl⟩
theorem dX10_does_60 : decode cX10_does 60 = .ok (.invokevirtual 155, 3) ∧ 63 = 60 + 3 := ⟨by decide +kernel, rfl⟩
theorem dX10_does_63 : decode cX10_does 63 = .ok (.ifCond .eq 19, 3) ∧ 66 = 63 + 3 := ⟨by decide +kernel, rfl⟩
theorem dX10_does_66 : decode cX10_does 66 = .ok (.aload_n 0, 1) ∧ 67 = 66 + 1 := ⟨by decide +kernel, rfl⟩
theorem dX10_does_67 : decode cX10_does 67 = .ok (.aload_n 0, 1) ∧ 68 = 67 + 1 := ⟨by decide +kernel, rfl⟩
theorem dX10_does_68 : decode cX10_does 68 = .ok (.getfield 343, 3) ∧ 71 = 68 + 3 := ⟨by decide +kernel, rfl⟩
theorem dX10_does_71 : decode cX10_does 71 = .ok (.iconst 1, 1) ∧ 72 = 71 + 1 := ⟨by decide +kernel, rfl⟩
theorem dX10_does_72 : decode cX10_does 72 = .ok (.invokevirtual 161, 3) ∧ 75 = 72 + 3 := ⟨by decide +kernel, rfl⟩
theorem dX10_does_75 : decode cX10_does 75 = .ok (.ifCond .lt 7, 3) ∧ 78 = 75 + 3 := ⟨by decide +kernel, rfl⟩
theorem dX10_does_78 : decode cX10_does 78 = .ok (.iconst 1, 1) ∧ 79 = 78 + 1 := ⟨by decide +kernel, rfl⟩
theorem dX10_does_79 : decode cX10_does 79 = .ok (.goto 4, 3) ∧ 82 = 79 + 3 := ⟨by decide +kernel, rfl⟩
theorem dX10_does_82 : decode cX10_does 82 = .ok (.iconst 0, 1) ∧ 83 = 82 + 1 := ⟨by decide +kernel, rfl⟩
theorem dX10_does_83 : decode cX10_does 83 = .ok (.ireturn, 1) ∧ 84 = 83 + 1 := ⟨by decide +kernel, rfl⟩
theorem dX10_does_84 : decode cX10_does 84 = .ok (.aload_n 0, 1) ∧ 85 = 84 + 1 := ⟨by decide +kernel, rfl⟩
theorem dX10_does_85 : decode cX10_does 85 = .ok (.aload_n 0, 1) ∧ 86 = 85 + 1 := ⟨by decide +kernel, rfl⟩
theorem dX10_does_86 : decode cX10_does 86 = .ok (.getfield 343, 3) ∧ 89 = 86 + 3 := ⟨by decide +kernel, rfl⟩
theorem dX10_does_89 : decode cX10_does 89 = .ok (.invokevirtual 148, 3) ∧ 92 = 89 + 3 := ⟨by decide +kernel, rfl⟩
theorem dX10_does_92 : decode cX10_does 92 = .ok (.ifCond .eq 30, 3) ∧ 95 = 92 + 3 := ⟨by decide +kernel, rfl⟩
theorem dX10_does_95 : decode cX10_does 95 = .ok (.aload_n 0, 1) ∧ 96 = 95 + 1 := ⟨by decide +kernel, rfl⟩
theorem dX10_does_96 : decode cX10_does 96 = .ok (.aload_n 0, 1) ∧ 97 = 96 + 1 := ⟨by decide +kernel, rfl⟩
theorem dX10_does_97 : decode cX10_does 97 = .ok (.getfield 343, 3) ∧ 100 = 97 + 3 := ⟨by decide +kernel, rfl⟩
theorem dX10_does_100 : decode cX10_does 100 = .ok (.invokevirtual 99, 3) ∧ 103 = 100 + 3 := ⟨by decide +kernel, rfl⟩
theorem dX10_does_103 : decode cX10_does 103 = .ok (.ifCond .eq 19, 3) ∧ 106 = 103 + 3 := ⟨by decide +kernel, rfl⟩
theorem dX10_does_106 : decode cX10_does 106 = .ok (.aload_n 0, 1) ∧ 107 = 106 + 1 := ⟨by decide +kernel, rfl⟩
theorem dX10_does_107 : decode cX10_does 107 = .ok (.aload_n 0, 1) ∧ 108 = 107 + 1 := ⟨by decide +kernel, rfl⟩
theorem dX10_does_108 : decode cX10_does 108 = .ok (.getfield 343, 3) ∧ 111 = 108 + 3 := ⟨by decide +kernel, rfl⟩
theorem dX10_does_111 : decode cX10_does 111 = .ok (.iconst 0, 1) ∧ 112 = 111 + 1 := ⟨by decide +kernel, rfl⟩
theorem dX10_does_112 : decode cX10_does 112 = .ok (.invokevirtual 161, 3) ∧ 115 = 112 + 3 := ⟨by decide +kernel, rfl⟩
theorem dX10_does_115 : decode cX10_does 115 = .ok (.ifCond .lt 7, 3) ∧ 118 = 115 + 3 := ⟨by decide +kernel, rfl⟩
theorem dX10_does_118 : decode cX10_does 118 = .ok (.iconst 1, 1) ∧ 119 = 118 + 1 := ⟨by decide +kernel, rfl⟩
theorem dX10_does_119 : decode cX10_does 119 = .ok (.goto 4, 3) ∧ 122 = 119 + 3 := ⟨by decide +kernel, rfl⟩
theorem dX10_does_122 : decode cX10_does 122 = .ok (.iconst 0, 1) ∧ 123 = 122 + 1 := ⟨by decide +kernel, rfl⟩
theorem dX10_does_123 : decode cX10_does 123 = .ok (.ireturn, 1) ∧ 124 = 123 + 1 := ⟨by decide +kernel, rfl⟩
theorem dX10_does_124 : decode cX10_does 124 = .ok (.aload_n 0, 1) ∧ 125 = 124 + 1 := ⟨by decide +kernel, rfl⟩
theorem dX10_does_125 : decode cX10_does 125 = .ok (.aload_n 0, 1) ∧ 126 = 125 + 1 := ⟨by decide +kernel, rfl⟩
theorem dX10_does_126 : decode cX10_does 126 = .ok (.getfield 343, 3) ∧ 129 = 126 + 3 := ⟨by decide +kernel, rfl⟩
theorem dX10_does_129 : decode cX10_does 129 = .ok (.invokevirtual 164, 3) ∧ 132 = 129 + 3 := ⟨by decide +kernel, rfl⟩
theorem dX10_does_132 : decode cX10_does 132 = .ok (.ifCond .eq 30, 3) ∧ 135 = 132 + 3 := ⟨by decide +kernel, rfl⟩
theorem dX10_does_135 : decode cX10_does 135 = .ok (.aload_n 0, 1) ∧ 136 = 135 + 1 := ⟨by decide +kernel, rfl⟩
theorem dX10_does_136 : decode cX10_does 136 = .ok (.aload_n 0, 1) ∧ 137 = 136 + 1 := ⟨by decide +kernel, rfl⟩
theorem dX10_does_137 : decode cX10_does 137 = .ok (.getfield 343, 3) ∧ 140 = 137 + 3 := ⟨by decide +kernel, rfl⟩
theorem dX10_does_140 : decode cX10_does 140 = .ok (.invokevirtual 167, 3) ∧ 143 = 140 + 3 := ⟨by decide +kernel, rfl⟩
theorem dX10_does_143 : decode cX10_does 143 = .ok (.ifCond .eq 19, 3) ∧ 146 = 143 + 3 := ⟨by decide +kernel, rfl⟩
theorem dX10_does_146 : decode cX10_does 146 = .ok (.aload_n 0, 1) ∧ 147 = 146 + 1 := ⟨by decide +kernel, rfl⟩
theorem dX10_does_147 : decode cX10_does 147 = .ok (.aload_n 0, 1) ∧ 148 = 147 + 1 := ⟨by decide +kernel, rfl⟩
theorem dX10_does_148 : decode cX10_does 148 = .ok (.getfield 343, 3) ∧ 151 = 148 + 3 := ⟨by decide +kernel, rfl⟩
theorem dX10_does_151 : decode cX10_does 151 = .ok (.iconst 1, 1) ∧ 152 = 151 + 1 := ⟨by decide +kernel, rfl⟩
theorem dX10_does_152 : decode cX10_does 152 = .ok (.invokevirtual 170, 3) ∧ 155 = 152 + 3 := ⟨by decide +kernel, rfl⟩
theorem dX10_does_155 : decode cX10_does 155 = .ok (.ifCond .lt 7, 3) ∧ 158 = 155 + 3 := ⟨by decide +kernel, rfl⟩
theorem dX10_does_158 : decode cX10_does 158 = .ok (.iconst 1, 1) ∧ 159 = 158 + 1 := ⟨by decide +kernel, rfl⟩
theorem dX10_does_159 : decode cX10_does 159 = .ok (.goto 4, 3) ∧ 162 = 159 + 3 := ⟨by decide +kernel, rfl⟩
theorem dX10_does_162 : decode cX10_does 162 = .ok (.iconst 0, 1) ∧ 163 = 162 + 1 := ⟨by decide +kernel, rfl⟩
theorem dX10_does_163 : decode cX10_does 163 = .ok (.ireturn, 1) ∧ 164 = 163 + 1 := ⟨by decide +kernel, rfl⟩
theorem dX10_does_164 : decode cX10_does 164 = .ok (.aload_n 0, 1) ∧ 165 = 164 + 1 := ⟨by decide +kernel, rfl⟩
theorem dX10_does_165 : decode cX10_does 165 = .ok (.aload_n 0, 1) ∧ 166 = 165 + 1 := ⟨by decide +kernel, rfl⟩
theorem dX10_does_166 : decode cX10_does 166 = .ok (.getfield 343, 3) ∧ 169 = 166 + 3 := ⟨by decide +kernel, rfl⟩
theorem dX10_does_169 : decode cX10_does 169 = .ok (.invokevirtual 164, 3) ∧ 172 = 169 + 3 := ⟨by decide +kernel, rfl⟩
theorem dX10_does_172 : decode cX10_does 172 = .ok (.ifCond .eq 30, 3) ∧ 175 = 172 + 3 := ⟨by decide +kernel, rfl⟩
theorem dX10_does_175 : decode cX10_does 175 = .ok (.aload_n 0, 1) ∧ 176 = 175 + 1 := ⟨by decide +kernel, rfl⟩
theorem dX10_does_176 : decode cX10_does 176 = .ok (.aload_n 0, 1) ∧ 177 = 176 + 1 := ⟨by decide +kernel, rfl⟩
theorem dX10_does_177 : decode cX10_does 177 = .ok (.getfield 343, 3) ∧ 180 = 177 + 3 := ⟨by decide +kernel, rfl⟩
theorem dX10_does_180 : decode cX10_does 180 = .ok (.invokevirtual 135, 3) ∧ 183 = 180 + 3 := ⟨by decide +kernel, rfl⟩
theorem dX10_does_183 : decode cX10_does 183 = .ok (.ifCond .eq 19, 3) ∧ 186 = 183 + 3 := ⟨by decide +kernel, rfl⟩
theorem dX10_does_186 : decode cX10_does 186 = .ok (.aload_n 0, 1) ∧ 187 = 186 + 1 := ⟨by decide +kernel, rfl⟩
theorem dX10_does_187 : decode cX10_does 187 = .ok (.aload_n 0, 1) ∧ 188 = 187 + 1 := ⟨by decide +kernel, rfl⟩
theorem dX10_does_188 : decode cX10_does 188 = .ok (.getfield 343, 3) ∧ 191 = 188 + 3 := ⟨by decide +kernel, rfl⟩
theorem dX10_does_191 : decode cX10_does 191 = .ok (.iconst 0, 1) ∧ 192 = 191 + 1 := ⟨by decide +kernel, rfl⟩
theorem dX10_does_192 : decode cX10_does 192 = .ok (.invokevirtual 170, 3) ∧ 195 = 192 + 3 := ⟨by decide +kernel, rfl⟩
theorem dX10_does_195 : decode cX10_does 195 = .ok (.ifCond .lt 7, 3) ∧ 198 = 195 + 3 := ⟨by decide +kernel, rfl⟩
theorem dX10_does_198 : decode cX10_does 198 = .ok (.iconst 1, 1) ∧ 199 = 198 + 1 := ⟨by decide +kernel, rfl⟩
theorem dX10_does_199 : decode cX10_does 199 = .ok (.goto 4, 3) ∧ 202 = 199 + 3 := ⟨by decide +kernel, rfl⟩
theorem dX10_does_202 : decode cX10_does 202 = .ok (.iconst 0, 1) ∧ 203 = 202 + 1 := ⟨by decide +kernel, rfl⟩
theorem dX10_does_203 : decode cX10_does 203 = .ok (.ireturn, 1) ∧ 204 = 203 + 1 := ⟨by decide +kernel, rfl⟩
theorem dX10_does_204 : decode cX10_does 204 = .ok (.aload_n 0, 1) ∧ 205 = 204 + 1 := ⟨by decide +kernel, rfl⟩
theorem dX10_does_205 : decode cX10_does 205 = .ok (.getfield 343, 3) ∧ 208 = 205 + 3 := ⟨by decide +kernel, rfl⟩
theorem dX10_does_208 : decode cX10_does 208 = .ok (.invokestatic 173, 3) ∧ 211 = 208 + 3 := ⟨by decide +kernel, rfl⟩
theorem dX10_does_211 : decode cX10_does 211 = .ok (.ifCond .eq 18, 3) ∧ 214 = 211 + 3 := ⟨by decide +kernel, rfl⟩
theorem dX10_does_214 : decode cX10_does 214 = .ok (.aload_n 0, 1) ∧ 215 = 214 + 1 := ⟨by decide +kernel, rfl⟩
theorem dX10_does_215 : decode cX10_does 215 = .ok (.aload_n 0, 1) ∧ 216 = 215 + 1 := ⟨by decide +kernel, rfl⟩
theorem dX10_does_216 : decode cX10_does 216 = .ok (.getfield 343, 3) ∧ 219 = 216 + 3 := ⟨by decide +kernel, rfl⟩
theorem dX10_does_219 : decode cX10_does 219 = .ok (.invokevirtual 176, 3) ∧ 222 = 219 + 3 := ⟨by decide +kernel, rfl⟩
theorem dX10_does_222 : decode cX10_does 222 = .ok (.ifCond .lt 7, 3) ∧ 225 = 222 + 3 := ⟨by decide +kernel, rfl⟩
theorem dX10_does_225 : decode cX10_does 225 = .ok (.iconst 1, 1) ∧ 226 = 225 + 1 := ⟨by decide +kernel, rfl⟩
theorem dX10_does_226 : decode cX10_does 226 = .ok (.goto 4, 3) ∧ 229 = 226 + 3 := ⟨by decide +kernel, rfl⟩
theorem dX10_does_229 : decode cX10_does 229 = .ok (.iconst 0, 1) ∧ 230 = 229 + 1 := ⟨by decide +kernel, rfl⟩
theorem dX10_does_230 : decode cX10_does 230 = .ok (.ireturn, 1) ∧ 231 = 230 + 1 := ⟨by decide +kernel, rfl⟩
theorem dX10_does_231 : decode cX10_does 231 = .ok (.aload_n 0, 1) ∧ 232 = 231 + 1 := ⟨by decide +kernel, rfl⟩
theorem dX10_does_232 : decode cX10_does 232 = .ok (.aload_n 0, 1) ∧ 233 = 232 + 1 := ⟨by decide +kernel, rfl⟩
theorem dX10_does_233 : decode cX10_does 233 = .ok (.getfield 343, 3) ∧ 236 = 233 + 3 := ⟨by decide +kernel, rfl⟩
theorem dX10_does_236 : decode cX10_does 236 = .ok (.invokevirtual 191, 3) ∧ 239 = 236 + 3 := ⟨by decide +kernel, rfl⟩
theorem dX10_does_239 : decode cX10_does 239 = .ok (.ifCond .eq 24, 3) ∧ 242 = 239 + 3 := ⟨by decide +kernel, rfl⟩
theorem dX10_does_242 : decode cX10_does 242 = .ok (.aload_n 0, 1) ∧ 243 = 242 + 1 := ⟨by decide +kernel, rfl⟩
theorem dX10_does_243 : decode cX10_does 243 = .ok (.aload_n 0, 1) ∧ 244 = 243 + 1 := ⟨by decide +kernel, rfl⟩
theorem dX10_does_244 : decode cX10_does 244 = .ok (.getfield 343, 3) ∧ 247 = 244 + 3 := ⟨by decide +kernel, rfl⟩
theorem dX10_does_247 : decode cX10_does 247 = .ok (.invokestatic 96, 3) ∧ 250 = 247 + 3 := ⟨by decide +kernel, rfl⟩
theorem dX10_does_250 : decode cX10_does 250 = .ok (.iconst 1, 1) ∧ 251 = 250 + 1 := ⟨by decide +kernel, rfl⟩
theorem dX10_does_251 : decode cX10_does 251 = .ok (.iadd, 1) ∧ 252 = 251 + 1 := ⟨by decide +kernel, rfl⟩
theorem dX10_does_252 : decode cX10_does 252 = .ok (.iconst 0, 1) ∧ 253 = 252 + 1 := ⟨by decide +kernel, rfl⟩
theorem dX10_does_253 : decode cX10_does 253 = .ok (.invokevirtual 188, 3) ∧ 256 = 253 + 3 := ⟨by decide +kernel, rfl⟩
theorem dX10_does_256 : decode cX10_does 256 = .ok (.ifCond .lt 7, 3) ∧ 259 = 256 + 3 := ⟨by decide +kernel, rfl⟩
theorem dX10_does_259 : decode cX10_does 259 = .ok (.iconst 1, 1) ∧ 260 = 259 + 1 := ⟨by decide +kernel, rfl⟩
theorem dX10_does_260 : decode cX10_does 260 = .ok (.goto 4, 3) ∧ 263 = 260 + 3 := ⟨by decide +kernel, rfl⟩
theorem dX10_does_263 : decode cX10_does 263 = .ok (.iconst 0, 1) ∧ 264 = 263 + 1 := ⟨by decide +kernel, rfl⟩
theorem dX10_does_264 : decode cX10_does 264 = .ok (.ireturn, 1) ∧ 265 = 264 + 1 := ⟨by decide +kernel, rfl⟩
theorem dX10_does_265 : decode cX10_does 265 = .ok (.aload_n 0, 1) ∧ 266 = 265 + 1 := ⟨by decide +kernel, rfl⟩
theorem dX10_does_266 : decode cX10_does 266 = .ok (.aload_n 0, 1) ∧ 267 = 266 + 1 := ⟨by decide +kernel, rfl⟩
theorem dX10_does_267 : decode cX10_does 267 = .ok (.getfield 343, 3) ∧ 270 = 267 + 3 := ⟨by decide +kernel, rfl⟩
theorem dX10_does_270 : decode cX10_does 270 = .ok (.invokevirtual 179, 3) ∧ 273 = 270 + 3 := ⟨by decide +kernel, rfl⟩
theorem dX10_does_273 : decode cX10_does 273 = .ok (.ifCond .eq 32, 3) ∧ 276 = 273 + 3 := ⟨by decide +kernel, rfl⟩
theorem dX10_does_276 : decode cX10_does 276 = .ok (.aload_n 0, 1) ∧ 277 = 276 + 1 := ⟨by decide +kernel, rfl⟩
theorem dX10_does_277 : decode cX10_does 277 = .ok (.getfield 346, 3) ∧ 280 = 277 + 3 := ⟨by decide +kernel, rfl⟩
theorem dX10_does_280 : decode cX10_does 280 = .ok (.invokestatic 182, 3) ∧ 283 = 280 + 3 := ⟨by decide +kernel, rfl⟩
theorem dX10_does_283 : decode cX10_does 283 = .ok (.ifCond .eq 22, 3) ∧ 286 = 283 + 3 := ⟨by decide +kernel, rfl⟩
theorem dX10_does_286 : decode cX10_does 286 = .ok (.aload_n 0, 1) ∧ 287 = 286 + 1 := ⟨by decide +kernel, rfl⟩
theorem dX10_does_287 : decode cX10_does 287 = .ok (.aload_n 0, 1) ∧ 288 = 287 + 1 := ⟨by decide +kernel, rfl⟩
theorem dX10_does_288 : decode cX10_does 288 = .ok (.getfield 343, 3) ∧ 291 = 288 + 3 := ⟨by decide +kernel, rfl⟩
theorem dX10_does_291 : decode cX10_does 291 = .ok (.aload_n 0, 1) ∧ 292 = 291 + 1 := ⟨by decide +kernel, rfl⟩
theorem dX10_does_292 : decode cX10_does 292 = .ok (.getfield 346, 3) ∧ 295 = 292 + 3 := ⟨by decide +kernel, rfl⟩
theorem dX10_does_295 : decode cX10_does 295 = .ok (.invokevirtual 185, 3) ∧ 298 = 295 + 3 := ⟨by decide +kernel, rfl⟩
theorem dX10_does_298 : decode cX10_does 298 = .ok (.ifCond .lt 7, 3) ∧ 301 = 298 + 3 := ⟨by decide +kernel, rfl⟩
theorem dX10_does_301 : decode cX10_does 301 = .ok (.iconst 1, 1) ∧ 302 = 301 + 1 := ⟨by decide +kernel, rfl⟩
theorem dX10_does_302 : decode cX10_does 302 = .ok (.goto 4, 3) ∧ 305 = 302 + 3 := ⟨by decide +kernel, rfl⟩
theorem dX10_does_305 : decode cX10_does 305 = .ok (.iconst 0, 1) ∧ 306 = 305 + 1 := ⟨by decide +kernel, rfl⟩
theorem dX10_does_306 : decode cX10_does 306 = .ok (.ireturn, 1) ∧ 307 = 306 + 1 := ⟨by decide +kernel, rfl⟩
theorem dX10_does_307 : decode cX10_does 307 = .ok (.aload_n 0, 1) ∧ 308 = 307 + 1 := ⟨by decide +kernel, rfl⟩
theorem dX10_does_308 : decode cX10_does 308 = .ok (.aload_n 0, 1) ∧ 309 = 308 + 1 := ⟨by decide +kernel, rfl⟩
theorem dX10_does_309 : decode cX10_does 309 = .ok (.getfield 343, 3) ∧ 312 = 309 + 3 := ⟨by decide +kernel, rfl⟩
theorem dX10_does_312 : decode cX10_does 312 = .ok (.invokevirtual 179, 3) ∧ 315 = 312 + 3 := ⟨by decide +kernel, rfl⟩
theorem dX10_does_315 : decode cX10_does 315 = .ok (.ifCond .eq 43, 3) ∧ 318 = 315 + 3 := ⟨by decide +kernel, rfl⟩
theorem dX10_does_318 : decode cX10_does 318 = .ok (.aload_n 0, 1) ∧ 319 = 318 + 1 := ⟨by decide +kernel, rfl⟩
theorem dX10_does_319 : decode cX10_does 319 = .ok (.getfield 346, 3) ∧ 322 = 319 + 3 := ⟨by decide +kernel, rfl⟩
theorem dX10_does_322 : decode cX10_does 322 = .ok (.invokestatic 214, 3) ∧ 325 = 322 + 3 := ⟨by decide +kernel, rfl⟩
theorem dX10_does_325 : decode cX10_does 325 = .ok (.ifCond .eq 33, 3) ∧ 328 = 325 + 3 := ⟨by decide +kernel, rfl⟩
theorem dX10_does_328 : decode cX10_does 328 = .ok (.aload_n 0, 1) ∧ 329 = 328 + 1 := ⟨by decide +kernel, rfl⟩
theorem dX10_does_329 : decode cX10_does 329 = .ok (.aload_n 0, 1) ∧ 330 = 329 + 1 := ⟨by decide +kernel, rfl⟩
theorem dX10_does_330 : decode cX10_does 330 = .ok (.getfield 343, 3) ∧ 333 = 330 + 3 := ⟨by decide +kernel, rfl⟩
theorem dX10_does_333 : decode cX10_does 333 = .ok (.invokevirtual 217, 3) ∧ 336 = 333 + 3 := ⟨by decide +kernel, rfl⟩
theorem dX10_does_336 : decode cX10_does 336 = .ok (.ifCond .eq 22, 3) ∧ 339 = 336 + 3 := ⟨by decide +kernel, rfl⟩
theorem dX10_does_339 : decode cX10_does 339 = .ok (.aload_n 0, 1) ∧ 340 = 339 + 1 := ⟨by decide +kernel, rfl⟩
theorem dX10_does_340 : decode cX10_does 340 = .ok (.aload_n 0, 1) ∧ 341 = 340 + 1 := ⟨by decide +kernel, rfl⟩
theorem dX10_does_341 : decode cX10_does 341 = .ok (.getfield 343, 3) ∧ 344 = 341 + 3 := ⟨by decide +kernel, rfl⟩
theorem dX10_does_344 : decode cX10_does 344 = .ok (.aload_n 0, 1) ∧ 345 = 344 + 1 := ⟨by decide +kernel, rfl⟩
theorem dX10_does_345 : decode cX10_does 345 = .ok (.getfield 346, 3) ∧ 348 = 345 + 3 := ⟨by decide +kernel, rfl⟩
theorem dX10_does_348 : decode cX10_does 348 = .ok (.invokevirtual 220, 3) ∧ 351 = 348 + 3 := ⟨by decide +kernel, rfl⟩
theorem dX10_does_351 : decode cX10_does 351 = .ok (.ifCond .lt 7, 3) ∧ 354 = 351 + 3 := ⟨by decide +kernel, rfl⟩
theorem dX10_does_354 : decode cX10_does 354 = .ok (.iconst 1, 1) ∧ 355 = 354 + 1 := ⟨by decide +kernel, rfl⟩
theorem dX10_does_355 : decode cX10_does 355 = .ok (.goto 4, 3) ∧ 358 = 355 + 3 := ⟨by decide +kernel, rfl⟩
theorem dX10_does_358 : decode cX10_does 358 = .ok (.iconst 0, 1) ∧ 359 = 358 + 1 := ⟨by decide +kernel, rfl⟩
theorem dX10_does_359 : decode cX10_does 359 = .ok (.ireturn, 1) ∧ 360 = 359 + 1 := ⟨by decide +kernel, rfl⟩
theorem dX10_goesThrough_0 : decode cX10_goesThrough 0 = .ok (.aload_n 0, 1) ∧ 1 = 0 + 1 := ⟨by decide +kernel, rfl⟩
theorem dX10_goesThrough_1 : decode cX10_goesThrough 1 = .ok (.getfield 246, 3) ∧ 4 = 1 + 3 := ⟨by decide +kernel, rfl⟩
theorem dX10_goesThrough_4 : decode cX10_goesThrough 4 = .ok (.istore_n 1, 1) ∧ 5 = 4 + 1 := ⟨by decide +kernel, rfl⟩
theorem dX10_goesThrough_5 : decode cX10_goesThrough 5 = .ok (.aload_n 0, 1) ∧ 6 = 5 + 1 := ⟨by decide +kernel, rfl⟩
theorem dX10_goesThrough_6 : decode cX10_goesThrough 6 = .ok (.invokevirtual 349, 3) ∧ 9 = 6 + 3 := ⟨by decide +kernel, rfl⟩
theorem dX10_goesThrough_9 : decode cX10_goesThrough 9 = .ok (.istore_n 2, 1) ∧ 10 = 9 + 1 := ⟨by decide +kernel, rfl⟩
theorem dX10_goesThrough_10 : decode cX10_goesThrough 10 = .ok (.iload_n 2, 1) ∧ 11 = 10 + 1 := ⟨by decide +kernel, rfl⟩
theorem dX10_goesThrough_11 : decode cX10_goesThrough 11 = .ok (.iconst (-1), 1) ∧ 12 = 11 + 1 := ⟨by decide +kernel, rfl⟩
theorem dX10_goesThrough_12 : decode cX10_goesThrough 12 = .ok (.if_icmp .ne 8, 3) ∧ 15 = 12 + 3 := ⟨by decide +kernel, rfl⟩
theorem dX10_goesThrough_15 : decode cX10_goesThrough 15 = .ok (.aload_n 0, 1) ∧ 16 = 15 + 1 := ⟨by decide +kernel, rfl⟩
theorem dX10_goesThrough_16 : decode cX10_goesThrough 16 = .ok (.iconst 1, 1) ∧ 17 = 16 + 1 := ⟨by decide +kernel, rfl⟩
theorem dX10_goesThrough_17 : decode cX10_goesThrough 17 = .ok (.invokevirtual 269, 3) ∧ 20 = 17 + 3 := ⟨by decide +kernel, rfl⟩
theorem dX10_goesThrough_20 : decode cX10_goesThrough 20 = .ok (.aload_n 0, 1) ∧ 21 = 20 + 1 := ⟨by decide +kernel, rfl⟩
theorem dX10_goesThrough_21 : decode cX10_goesThrough 21 = .ok (.invokevirtual 276, 3) ∧ 24 = 21 + 3 := ⟨by decide +kernel, rfl⟩
theorem dX10_goesThrough_24 : decode cX10_goesThrough 24 = .ok (.aload_n 0, 1) ∧ 25 = 24 + 1 := ⟨by decide +kernel, rfl⟩
theorem dX10_goesThrough_25 : decode cX10_goesThrough 25 = .ok (.aload_n 0, 1) ∧ 26 = 25 + 1 := ⟨by decide +kernel, rfl⟩
theorem dX10_goesThrough_26 : decode cX10_goesThrough 26 = .ok (.lconst 0, 1) ∧ 27 = 26 + 1 := ⟨by decide +kernel, rfl⟩
theorem dX10_goesThrough_27 : decode cX10_goesThrough 27 = .ok (.ldc2_w 352, 3) ∧ 30 = 27 + 3 := ⟨by decide +kernel, rfl⟩
theorem dX10_goesThrough_30 : decode cX10_goesThrough 30 = .ok (.invokevirtual 283, 3) ∧ 33 = 30 + 3 := ⟨by decide +kernel, rfl⟩
theorem dX10_goesThrough_33 : decode cX10_goesThrough 33 = .ok (.putfield 343, 3) ∧ 36 = 33 + 3 := ⟨by decide +kernel, rfl⟩
theorem dX10_goesThrough_36 : decode cX10_goesThrough 36 = .ok (.aload_n 0, 1) ∧ 37 = 36 + 1 := ⟨by decide +kernel, rfl⟩
theorem dX10_goesThrough_37 : decode cX10_goesThrough 37 = .ok (.iload_n 2, 1) ∧ 38 = 37 + 1 := ⟨by decide +kernel, rfl⟩
theorem dX10_goesThrough_38 : decode cX10_goesThrough 38 = .ok (.bipush 6, 2) ∧ 40 = 38 + 2 := ⟨by decide +kernel, rfl⟩
theorem dX10_goesThrough_40 : decode cX10_goesThrough 40 = .ok (.if_icmp .lt 14, 3) ∧ 43 = 40 + 3 := ⟨by decide +kernel, rfl⟩
theorem dX10_goesThrough_43 : decode cX10_goesThrough 43 = .ok (.aload_n 0, 1) ∧ 44 = 43 + 1 := ⟨by decide +kernel, rfl⟩
theorem dX10_goesThrough_44 : decode cX10_goesThrough 44 = .ok (.lconst 0, 1) ∧ 45 = 44 + 1 := ⟨by decide +kernel, rfl⟩
theorem dX10_goesThrough_45 : decode cX10_goesThrough 45 = .ok (.ldc2_w 352, 3) ∧ 48 = 45 + 3 := ⟨by decide +kernel, rfl⟩
theorem dX10_goesThrough_48 : decode cX10_goesThrough 48 = .ok (.invokevirtual 283, 3) ∧ 51 = 48 + 3 := ⟨by decide +kernel, rfl⟩
theorem dX10_goesThrough_51 : decode cX10_goesThrough 51 = .ok (.goto 4, 3) ∧ 54 = 51 + 3 := ⟨by decide +kernel, rfl⟩
theorem dX10_goesThrough_54 : decode cX10_goesThrough 54 = .ok (.iconst 0, 1) ∧ 55 = 54 + 1 := ⟨by decide +kernel, rfl⟩
theorem dX10_goesThrough_55 : decode cX10_goesThrough 55 = .ok (.putfield 346, 3) ∧ 58 = 55 + 3 := ⟨by decide +kernel, rfl⟩
theorem dX10_goesThrough_58 : decode cX10_goesThrough 58 = .ok (.aload_n 0, 1) ∧ 59 = 58 + 1 := ⟨by decide +kernel, rfl⟩
theorem dX10_goesThrough_59 : decode cX10_goesThrough 59 = .ok (.getfield 255, 3) ∧ 62 = 59 + 3 := ⟨by decide +kernel, rfl⟩
theorem dX10_goesThrough_62 : decode cX10_goesThrough 62 = .ok (.ifCond .ne 18, 3) ∧ 65 = 62 + 3 := ⟨by decide +kernel, rfl⟩
theorem dX10_goesThrough_65 : decode cX10_goesThrough 65 = .ok (.aload_n 0, 1) ∧ 66 = 65 + 1 := ⟨by decide +kernel, rfl⟩
theorem dX10_goesThrough_66 : decode cX10_goesThrough 66 = .ok (.ldc_w 294, 3) ∧ 69 = 66 + 3 := ⟨by decide +kernel, rfl⟩
theorem dX10_goesThrough_69 : decode cX10_goesThrough 69 = .ok (.invokevirtual 279, 3) ∧ 72 = 69 + 3 := ⟨by decide +kernel, rfl⟩
theorem dX10_goesThrough_72 : decode cX10_goesThrough 72 = .ok (.ifCond .ne 8, 3) ∧ 75 = 72 + 3 := ⟨by decide +kernel, rfl⟩
theorem dX10_goesThrough_75 : decode cX10_goesThrough 75 = .ok (.aload_n 0, 1) ∧ 76 = 75 + 1 := ⟨by decide +kernel, rfl⟩
theorem dX10_goesThrough_76 : decode cX10_goesThrough 76 = .ok (.iconst 1, 1) ∧ 77 = 76 + 1 := ⟨by decide +kernel, rfl⟩
theorem dX10_goesThrough_77 : decode cX10_goesThrough 77 = .ok (.invokevirtual 269, 3) ∧ 80 = 77 + 3 := ⟨by decide +kernel, rfl⟩
theorem dX10_goesThrough_80 : decode cX10_goesThrough 80 = .ok (.aload_n 0, 1) ∧ 81 = 80 + 1 := ⟨by decide +kernel, rfl⟩
theorem dX10_goesThrough_81 : decode cX10_goesThrough 81 = .ok (.getfield 255, 3) ∧ 84 = 81 + 3 := ⟨by decide +kernel, rfl⟩
theorem dX10_goesThrough_84 : decode cX10_goesThrough 84 = .ok (.ifCond .gt 11, 3) ∧ 87 = 84 + 3 := ⟨by decide +kernel, rfl⟩
theorem dX10_goesThrough_87 : decode cX10_goesThrough 87 = .ok (.aload_n 0, 1) ∧ 88 = 87 + 1 := ⟨by decide +kernel, rfl⟩
theorem dX10_goesThrough_88 : decode cX10_goesThrough 88 = .ok (.iload_n 2, 1) ∧ 89 = 88 + 1 := ⟨by decide +kernel, rfl⟩
theorem dX10_goesThrough_89 : decode cX10_goesThrough 89 = .ok (.invokevirtual 354, 3) ∧ 92 = 89 + 3 := ⟨by decide +kernel, rfl⟩
theorem dX10_goesThrough_92 : decode cX10_goesThrough 92 = .ok (.ifCond .eq 4, 3) ∧ 95 = 92 + 3 := ⟨by decide +kernel, rfl⟩
theorem dX10_goesThrough_95 : decode cX10_goesThrough 95 = .ok (.return_, 1) ∧ 96 = 95 + 1 := ⟨by decide +kernel, rfl⟩
theorem dX10_goesThrough_96 : decode cX10_goesThrough 96 = .ok (.aload_n 0, 1) ∧ 97 = 96 + 1 := ⟨by decide +kernel, rfl⟩
theorem dX10_goesThrough_97 : decode cX10_goesThrough 97 = .ok (.iconst 1, 1) ∧ 98 = 97 + 1 := ⟨by decide +kernel, rfl⟩
theorem dX10_goesThrough_98 : decode cX10_goesThrough 98 = .ok (.putfield 255, 3) ∧ 101 = 98 + 3 := ⟨by decide +kernel, rfl⟩
theorem dX10_goesThrough_101 : decode cX10_goesThrough 101 = .ok (.aload_n 0, 1) ∧ 102 = 101 + 1 := ⟨by decide +kernel, rfl⟩
theorem dX10_goesThrough_102 : decode cX10_goesThrough 102 = .ok (.iload_n 1, 1) ∧ 103 = 102 + 1 := ⟨by decide +kernel, rfl⟩
theorem dX10_goesThrough_103 : decode cX10_goesThrough 103 = .ok (.putfield 29, 3) ∧ 106 = 103 + 3 := ⟨by decide +kernel, rfl⟩
theorem dX10_goesThrough_106 : decode cX10_goesThrough 106 = .ok (.return_, 1) ∧ 107 = 106 + 1 := ⟨by decide +kernel, rfl⟩
theorem dX10_runRecipe_0 : decode cX10_runRecipe 0 = .ok (.aload_n 0, 1) ∧ 1 = 0 + 1 := ⟨by decide +kernel, rfl⟩
theorem dX10_runRecipe_1 : decode cX10_runRecipe 1 = .ok (.iconst 0, 1) ∧ 2 = 1 + 1 := ⟨by decide +kernel, rfl⟩
theorem dX10_runRecipe_2 : decode cX10_runRecipe 2 = .ok (.putfield 36, 3) ∧ 5 = 2 + 3 := ⟨by decide +kernel, rfl⟩
theorem dX10_runRecipe_5 : decode cX10_runRecipe 5 = .ok (.aload_n 0, 1) ∧ 6 = 5 + 1 := ⟨by decide +kernel, rfl⟩
theorem dX10_runRecipe_6 : decode cX10_runRecipe 6 = .ok (.getfield 255, 3) ∧ 9 = 6 + 3 := ⟨by decide +kernel, rfl⟩
theorem dX10_runRecipe_9 : decode cX10_runRecipe 9 = .ok (.istore_n 1, 1) ∧ 10 = 9 + 1 := ⟨by decide +kernel, rfl⟩
theorem dX10_runRecipe_10 : decode cX10_runRecipe 10 = .ok (.aload_n 0, 1) ∧ 11 = 10 + 1 := ⟨by decide +kernel, rfl⟩
theorem dX10_runRecipe_11 : decode cX10_runRecipe 11 = .ok (.getfield 29, 3) ∧ 14 = 11 + 3 := ⟨by decide +kernel, rfl⟩
theorem dX10_runRecipe_14 : decode cX10_runRecipe 14 = .ok (.istore_n 2, 1) ∧ 15 = 14 + 1 := ⟨by decide +kernel, rfl⟩
theorem dX10_runRecipe_15 : decode cX10_runRecipe 15 = .ok (.aload_n 0, 1) ∧ 16 = 15 + 1 := ⟨by decide +kernel, rfl⟩
theorem dX10_runRecipe_16 : decode cX10_runRecipe 16 = .ok (.getfield 7, 3) ∧ 19 = 16 + 3 := ⟨by decide +kernel, rfl⟩
theorem dX10_runRecipe_19 : decode cX10_runRecipe 19 = .ok (.aload_n 0, 1) ∧ 20 = 19 + 1 := ⟨by decide +kernel, rfl⟩
theorem dX10_runRecipe_20 : decode cX10_runRecipe 20 = .ok (.getfield 13, 3) ∧ 23 = 20 + 3 := ⟨by decide +kernel, rfl⟩
theorem dX10_runRecipe_23 : decode cX10_runRecipe 23 = .ok (.invokestatic 50, 3) ∧ 26 = 23 + 3 := ⟨by decide +kernel, rfl⟩
theorem dX10_runRecipe_26 : decode cX10_runRecipe 26 = .ok (.aload_n 0, 1) ∧ 27 = 26 + 1 := ⟨by decide +kernel, rfl⟩
theorem dX10_runRecipe_27 : decode cX10_runRecipe 27 = .ok (.invokevirtual 312, 3) ∧ 30 = 27 + 3 := ⟨by decide +kernel, rfl⟩
theorem dX10_runRecipe_30 : decode cX10_runRecipe 30 = .ok (.iconst 0, 1) ∧ 31 = 30 + 1 := ⟨by decide +kernel, rfl⟩
theorem dX10_runRecipe_31 : decode cX10_runRecipe 31 = .ok (.istore_n 3, 1) ∧ 32 = 31 + 1 := ⟨by decide +kernel, rfl⟩
theorem dX10_runRecipe_32 : decode cX10_runRecipe 32 = .ok (.aload_n 0, 1) ∧ 33 = 32 + 1 := ⟨by decide +kernel, rfl⟩
theorem dX10_runRecipe_33 : decode cX10_runRecipe 33 = .ok (.getfield 255, 3) ∧ 36 = 33 + 3 := ⟨by decide +kernel, rfl⟩
theorem dX10_runRecipe_36 : decode cX10_runRecipe 36 = .ok (.ifCond .ne 28, 3) ∧ 39 = 36 + 3 := ⟨by decide +kernel, rfl⟩
theorem dX10_runRecipe_39 : decode cX10_runRecipe 39 = .ok (.aload_n 0, 1) ∧ 40 = 39 + 1 := ⟨by decide +kernel, rfl⟩
theorem dX10_runRecipe_40 : decode cX10_runRecipe 40 = .ok (.getfield 246, 3) ∧ 43 = 40 + 3 := ⟨by decide +kernel, rfl⟩
theorem dX10_runRecipe_43 : decode cX10_runRecipe 43 = .ok (.aload_n 0, 1) ∧ 44 = 43 + 1 := ⟨by decide +kernel, rfl⟩
theorem dX10_runRecipe_44 : decode cX10_runRecipe 44 = .ok (.getfield 229, 3) ∧ 47 = 44 + 3 := ⟨by decide +kernel, rfl⟩
theorem dX10_runRecipe_47 : decode cX10_runRecipe 47 = .ok (.if_icmp .ge 17, 3) ∧ 50 = 47 + 3 := ⟨by decide +kernel, rfl⟩
theorem dX10_runRecipe_50 : decode cX10_runRecipe 50 = .ok (.aload_n 0, 1) ∧ 51 = 50 + 1 := ⟨by decide +kernel, rfl⟩
theorem dX10_runRecipe_51 : decode cX10_runRecipe 51 = .ok (.invokevirtual 357, 3) ∧ 54 = 51 + 3 := ⟨by decide +kernel, rfl⟩
theorem dX10_runRecipe_54 : decode cX10_runRecipe 54 = .ok (.aload_n 0, 1) ∧ 55 = 54 + 1 := ⟨by decide +kernel, rfl⟩
theorem dX10_runRecipe_55 : decode cX10_runRecipe 55 = .ok (.invokevirtual 276, 3) ∧ 58 = 55 + 3 := ⟨by decide +kernel, rfl⟩
theorem dX10_runRecipe_58 : decode cX10_runRecipe 58 = .ok (.iinc 3 1, 3) ∧ 61 = 58 + 3 := ⟨by decide +kernel, rfl⟩
theorem dX10_runRecipe_61 : decode cX10_runRecipe 61 = .ok (.goto (-29), 3) ∧ 64 = 61 + 3 := ⟨by decide +kernel, rfl⟩
theorem dX10_runRecipe_64 : decode cX10_runRecipe 64 = .ok (.aload_n 0, 1) ∧ 65 = 64 + 1 := ⟨by decide +kernel, rfl⟩
theorem dX10_runRecipe_65 : decode cX10_runRecipe 65 = .ok (.getfield 255, 3) ∧ 68 = 65 + 3 := ⟨by decide +kernel, rfl⟩
theorem dX10_runRecipe_68 : decode cX10_runRecipe 68 = .ok (.ifCond .ne 7, 3) ∧ 71 = 68 + 3 := ⟨by decide +kernel, rfl⟩
theorem dX10_runRecipe_71 : decode cX10_runRecipe 71 = .ok (.iload_n 3, 1) ∧ 72 = 71 + 1 := ⟨by decide +kernel, rfl⟩
theorem dX10_runRecipe_72 : decode cX10_runRecipe 72 = .ok (.goto 9, 3) ∧ 75 = 72 + 3 := ⟨by decide +kernel, rfl⟩
theorem dX10_runRecipe_75 : decode cX10_runRecipe 75 = .ok (.iconst (-1), 1) ∧ 76 = 75 + 1 := ⟨by decide +kernel, rfl⟩
theorem dX10_runRecipe_76 : decode cX10_runRecipe 76 = .ok (.aload_n 0, 1) ∧ 77 = 76 + 1 := ⟨by decide +kernel, rfl⟩
theorem dX10_runRecipe_77 : decode cX10_runRecipe 77 = .ok (.getfield 29, 3) ∧ 80 = 77 + 3 := ⟨by decide +kernel, rfl⟩
theorem dX10_runRecipe_80 : decode cX10_runRecipe 80 = .ok (.isub, 1) ∧ 81 = 80 + 1 := ⟨by decide +kernel, rfl⟩
theorem dX10_runRecipe_81 : decode cX10_runRecipe 81 = .ok (.istore 4, 2) ∧ 83 = 81 + 2 := ⟨by decide +kernel, rfl⟩
theorem dX10_runRecipe_83 : decode cX10_runRecipe 83 = .ok (.aload_n 0, 1) ∧ 84 = 83 + 1 := ⟨by decide +kernel, rfl⟩
theorem dX10_runRecipe_84 : decode cX10_runRecipe 84 = .ok (.getfield 255, 3) ∧ 87 = 84 + 3 := ⟨by decide +kernel, rfl⟩
theorem dX10_runRecipe_87 : decode cX10_runRecipe 87 = .ok (.ifCond .ne 10, 3) ∧ 90 = 87 + 3 := ⟨by decide +kernel, rfl⟩
theorem dX10_runRecipe_90 : decode cX10_runRecipe 90 = .ok (.aload_n 0, 1) ∧ 91 = 90 + 1 := ⟨by decide +kernel, rfl⟩
theorem dX10_runRecipe_91 : decode cX10_runRecipe 91 = .ok (.invokevirtual 54, 3) ∧ 94 = 91 + 3 := ⟨by decide +kernel, rfl⟩
theorem dX10_runRecipe_94 : decode cX10_runRecipe 94 = .ok (.goto 14, 3) ∧ 97 = 94 + 3 := ⟨by decide +kernel, rfl⟩
theorem dX10_runRecipe_97 : decode cX10_runRecipe 97 = .ok (.aload_n 0, 1) ∧ 98 = 97 + 1 := ⟨by decide +kernel, rfl⟩
theorem dX10_runRecipe_98 : decode cX10_runRecipe 98 = .ok (.getfield 13, 3) ∧ 101 = 98 + 3 := ⟨by decide +kernel, rfl⟩
theorem dX10_runRecipe_101 : decode cX10_runRecipe 101 = .ok (.aload_n 0, 1) ∧ 102 = 101 + 1 := ⟨by decide +kernel, rfl⟩
theorem dX10_runRecipe_102 : decode cX10_runRecipe 102 = .ok (.getfield 7, 3) ∧ 105 = 102 + 3 := ⟨by decide +kernel, rfl⟩
theorem dX10_runRecipe_105 : decode cX10_runRecipe 105 = .ok (.invokestatic 50, 3) ∧ 108 = 105 + 3 := ⟨by decide +kernel, rfl⟩
theorem dX10_runRecipe_108 : decode cX10_runRecipe 108 = .ok (.aload_n 0, 1) ∧ 109 = 108 + 1 := ⟨by decide +kernel, rfl⟩
theorem dX10_runRecipe_109 : decode cX10_runRecipe 109 = .ok (.iload_n 1, 1) ∧ 110 = 109 + 1 := ⟨by decide +kernel, rfl⟩
theorem dX10_runRecipe_110 : decode cX10_runRecipe 110 = .ok (.putfield 255, 3) ∧ 113 = 110 + 3 := ⟨by decide +kernel, rfl⟩
theorem dX10_runRecipe_113 : decode cX10_runRecipe 113 = .ok (.aload_n 0, 1) ∧ 114 = 113 + 1 := ⟨by decide +kernel, rfl⟩
theorem dX10_runRecipe_114 : decode cX10_runRecipe 114 = .ok (.iload_n 2, 1) ∧ 115 = 114 + 1 := ⟨by decide +kernel, rfl⟩
theorem dX10_runRecipe_115 : decode cX10_runRecipe 115 = .ok (.putfield 29, 3) ∧ 118 = 115 + 3 := ⟨by decide +kernel, rfl⟩
theorem dX10_runRecipe_118 : decode cX10_runRecipe 118 = .ok (.iload 4, 2) ∧ 120 = 118 + 2 := ⟨by decide +kernel, rfl⟩
theorem dX10_runRecipe_120 : decode cX10_runRecipe 120 = .ok (.ireturn, 1) ∧ 121 = 120 + 1 := ⟨by decide +kernel, rfl⟩
theorem dX10_count_0 : decode cX10_count 0 = .ok (.aload_n 0, 1) ∧ 1 = 0 + 1 := ⟨by decide +kernel, rfl⟩
theorem dX10_count_1 : decode cX10_count 1 = .ok (.iload_n 1, 1) ∧ 2 = 1 + 1 := ⟨by decide +kernel, rfl⟩
theorem dX10_count_2 : decode cX10_count 2 = .ok (.i2l, 1) ∧ 3 = 2 + 1 := ⟨by decide +kernel, rfl⟩
theorem dX10_count_3 : decode cX10_count 3 = .ok (.lconst 0, 1) ∧ 4 = 3 + 1 := ⟨by decide +kernel, rfl⟩
theorem dX10_count_4 : decode cX10_count 4 = .ok (.ldc2_w 360, 3) ∧ 7 = 4 + 3 := ⟨by decide +kernel, rfl⟩
theorem dX10_count_7 : decode cX10_count 7 = .ok (.invokestatic 39, 3) ∧ 10 = 7 + 3 := ⟨by decide +kernel, rfl⟩
theorem dX10_count_10 : decode cX10_count 10 = .ok (.ifCond .ne 7, 3) ∧ 13 = 10 + 3 := ⟨by decide +kernel, rfl⟩
theorem dX10_count_13 : decode cX10_count 13 = .ok (.iconst 1, 1) ∧ 14 = 13 + 1 := ⟨by decide +kernel, rfl⟩
theorem dX10_count_14 : decode cX10_count 14 = .ok (.goto 4, 3) ∧ 17 = 14 + 3 := ⟨by decide +kernel, rfl⟩
theorem dX10_count_17 : decode cX10_count 17 = .ok (.iconst 0, 1) ∧ 18 = 17 + 1 := ⟨by decide +kernel, rfl⟩
theorem dX10_count_18 : decode cX10_count 18 = .ok (.iconst 1, 1) ∧ 19 = 18 + 1 := ⟨by decide +kernel, rfl⟩
theorem dX10_count_19 : decode cX10_count 19 = .ok (.invokevirtual 151, 3) ∧ 22 = 19 + 3 := ⟨by decide +kernel, rfl⟩
theorem dX10_count_22 : decode cX10_count 22 = .ok (.ifCond .eq 7, 3) ∧ 25 = 22 + 3 := ⟨by decide +kernel, rfl⟩
theorem dX10_count_25 : decode cX10_count 25 = .ok (.iconst 0, 1) ∧ 26 = 25 + 1 := ⟨by decide +kernel, rfl⟩
theorem dX10_count_26 : decode cX10_count 26 = .ok (.goto 8, 3) ∧ 29 = 26 + 3 := ⟨by decide +kernel, rfl⟩
theorem dX10_count_29 : decode cX10_count 29 = .ok (.aload_n 0, 1) ∧ 30 = 29 + 1 := ⟨by decide +kernel, rfl⟩
theorem dX10_count_30 : decode cX10_count 30 = .ok (.iload_n 1, 1) ∧ 31 = 30 + 1 := ⟨by decide +kernel, rfl⟩
theorem dX10_count_31 : decode cX10_count 31 = .ok (.invokevirtual 93, 3) ∧ 34 = 31 + 3 := ⟨by decide +kernel, rfl⟩
theorem dX10_count_34 : decode cX10_count 34 = .ok (.ireturn, 1) ∧ 35 = 34 + 1 := ⟨by decide +kernel, rfl⟩
theorem dX10_valvesOf_0 : decode cX10_valvesOf 0 = .ok (.iconst 0, 1) ∧ 1 = 0 + 1 := ⟨by decide +kernel, rfl⟩
theorem dX10_valvesOf_1 : decode cX10_valvesOf 1 = .ok (.istore_n 2, 1) ∧ 2 = 1 + 1 := ⟨by decide +kernel, rfl⟩
theorem dX10_valvesOf_2 : decode cX10_valvesOf 2 = .ok (.iconst 0, 1) ∧ 3 = 2 + 1 := ⟨by decide +kernel, rfl⟩
theorem dX10_valvesOf_3 : decode cX10_valvesOf 3 = .ok (.istore_n 3, 1) ∧ 4 = 3 + 1 := ⟨by decide +kernel, rfl⟩
theorem dX10_valvesOf_4 : decode cX10_valvesOf 4 = .ok (.iload_n 3, 1) ∧ 5 = 4 + 1 := ⟨by decide +kernel, rfl⟩
theorem dX10_valvesOf_5 : decode cX10_valvesOf 5 = .ok (.aload_n 0, 1) ∧ 6 = 5 + 1 := ⟨by decide +kernel, rfl⟩
theorem dX10_valvesOf_6 : decode cX10_valvesOf 6 = .ok (.iconst 2, 1) ∧ 7 = 6 + 1 := ⟨by decide +kernel, rfl⟩
theorem dX10_valvesOf_7 : decode cX10_valvesOf 7 = .ok (.invokevirtual 93, 3) ∧ 10 = 7 + 3 := ⟨by decide +kernel, rfl⟩
theorem dX10_valvesOf_10 : decode cX10_valvesOf 10 = .ok (.if_icmp .ge 39, 3) ∧ 13 = 10 + 3 := ⟨by decide +kernel, rfl⟩
theorem dX10_valvesOf_13 : decode cX10_valvesOf 13 = .ok (.iload_n 2, 1) ∧ 14 = 13 + 1 := ⟨by decide +kernel, rfl⟩
theorem dX10_valvesOf_14 : decode cX10_valvesOf 14 = .ok (.aload_n 0, 1) ∧ 15 = 14 + 1 := ⟨by decide +kernel, rfl⟩
theorem dX10_valvesOf_15 : decode cX10_valvesOf 15 = .ok (.iload_n 3, 1) ∧ 16 = 15 + 1 := ⟨by decide +kernel, rfl⟩
theorem dX10_valvesOf_16 : decode cX10_valvesOf 16 = .ok (.iconst 0, 1) ∧ 17 = 16 + 1 := ⟨by decide +kernel, rfl⟩
theorem dX10_valvesOf_17 : decode cX10_valvesOf 17 = .ok (.invokevirtual 74, 3) ∧ 20 = 17 + 3 := ⟨by decide +kernel, rfl⟩
theorem dX10_valvesOf_20 : decode cX10_valvesOf 20 = .ok (.iload_n 1, 1) ∧ 21 = 20 + 1 := ⟨by decide +kernel, rfl⟩
theorem dX10_valvesOf_21 : decode cX10_valvesOf 21 = .ok (.if_icmp .eq 13, 3) ∧ 24 = 21 + 3 := ⟨by decide +kernel, rfl⟩
theorem dX10_valvesOf_24 : decode cX10_valvesOf 24 = .ok (.aload_n 0, 1) ∧ 25 = 24 + 1 := ⟨by decide +kernel, rfl⟩
theorem dX10_valvesOf_25 : decode cX10_valvesOf 25 = .ok (.iload_n 3, 1) ∧ 26 = 25 + 1 := ⟨by decide +kernel, rfl⟩
theorem dX10_valvesOf_26 : decode cX10_valvesOf 26 = .ok (.iconst 1, 1) ∧ 27 = 26 + 1 := ⟨by decide +kernel, rfl⟩
theorem dX10_valvesOf_27 : decode cX10_valvesOf 27 = .ok (.invokevirtual 74, 3) ∧ 30 = 27 + 3 := ⟨by decide +kernel, rfl⟩
theorem dX10_valvesOf_30 : decode cX10_valvesOf 30 = .ok (.iload_n 1, 1) ∧ 31 = 30 + 1 := ⟨by decide +kernel, rfl⟩
theorem dX10_valvesOf_31 : decode cX10_valvesOf 31 = .ok (.if_icmp .ne 9, 3) ∧ 34 = 31 + 3 := ⟨by decide +kernel, rfl⟩
theorem dX10_valvesOf_34 : decode cX10_valvesOf 34 = .ok (.iconst 1, 1) ∧ 35 = 34 + 1 := ⟨by decide +kernel, rfl⟩
theorem dX10_valvesOf_35 : decode cX10_valvesOf 35 = .ok (.iload_n 3, 1) ∧ 36 = 35 + 1 := ⟨by decide +kernel, rfl⟩
theorem dX10_valvesOf_36 : decode cX10_valvesOf 36 = .ok (.ishl, 1) ∧ 37 = 36 + 1 := ⟨by decide +kernel, rfl⟩
theorem dX10_valvesOf_37 : decode cX10_valvesOf 37 = .ok (.goto 4, 3) ∧ 40 = 37 + 3 := ⟨by decide +kernel, rfl⟩
theorem dX10_valvesOf_40 : decode cX10_valvesOf 40 = .ok (.iconst 0, 1) ∧ 41 = 40 + 1 := ⟨by decide +kernel, rfl⟩
theorem dX10_valvesOf_41 : decode cX10_valvesOf 41 = .ok (.ior, 1) ∧ 42 = 41 + 1 := ⟨by decide +kernel, rfl⟩
theorem dX10_valvesOf_42 : decode cX10_valvesOf 42 = .ok (.istore_n 2, 1) ∧ 43 = 42 + 1 := ⟨by decide +kernel, rfl⟩
theorem dX10_valvesOf_43 : decode cX10_valvesOf 43 = .ok (.iinc 3 1, 3) ∧ 46 = 43 + 3 := ⟨by decide +kernel, rfl⟩
theorem dX10_valvesOf_46 : decode cX10_valvesOf 46 = .ok (.goto (-42), 3) ∧ 49 = 46 + 3 := ⟨by decide +kernel, rfl⟩
theorem dX10_valvesOf_49 : decode cX10_valvesOf 49 = .ok (.iload_n 2, 1) ∧ 50 = 49 + 1 := ⟨by decide +kernel, rfl⟩
theorem dX10_valvesOf_50 : decode cX10_valvesOf 50 = .ok (.ireturn, 1) ∧ 51 = 50 + 1 := ⟨by decide +kernel, rfl⟩
theorem dX10_pumpsOf_0 : decode cX10_pumpsOf 0 = .ok (.iconst 0, 1) ∧ 1 = 0 + 1 := ⟨by decide +kernel, rfl⟩
theorem dX10_pumpsOf_1 : decode cX10_pumpsOf 1 = .ok (.istore_n 2, 1) ∧ 2 = 1 + 1 := ⟨by decide +kernel, rfl⟩
theorem dX10_pumpsOf_2 : decode cX10_pumpsOf 2 = .ok (.iconst 0, 1) ∧ 3 = 2 + 1 := ⟨by decide +kernel, rfl⟩
theorem dX10_pumpsOf_3 : decode cX10_pumpsOf 3 = .ok (.istore_n 3, 1) ∧ 4 = 3 + 1 := ⟨by decide +kernel, rfl⟩
theorem dX10_pumpsOf_4 : decode cX10_pumpsOf 4 = .ok (.iload_n 3, 1) ∧ 5 = 4 + 1 := ⟨by decide +kernel, rfl⟩
theorem dX10_pumpsOf_5 : decode cX10_pumpsOf 5 = .ok (.aload_n 0, 1) ∧ 6 = 5 + 1 := ⟨by decide +kernel, rfl⟩
theorem dX10_pumpsOf_6 : decode cX10_pumpsOf 6 = .ok (.iconst 1, 1) ∧ 7 = 6 + 1 := ⟨by decide +kernel, rfl⟩
theorem dX10_pumpsOf_7 : decode cX10_pumpsOf 7 = .ok (.invokevirtual 93, 3) ∧ 10 = 7 + 3 := ⟨by decide +kernel, rfl⟩
theorem dX10_pumpsOf_10 : decode cX10_pumpsOf 10 = .ok (.if_icmp .ge 29, 3) ∧ 13 = 10 + 3 := ⟨by decide +kernel, rfl⟩
theorem dX10_pumpsOf_13 : decode cX10_pumpsOf 13 = .ok (.iload_n 2, 1) ∧ 14 = 13 + 1 := ⟨by decide +kernel, rfl⟩
theorem dX10_pumpsOf_14 : decode cX10_pumpsOf 14 = .ok (.aload_n 0, 1) ∧ 15 = 14 + 1 := ⟨by decide +kernel, rfl⟩
theorem dX10_pumpsOf_15 : decode cX10_pumpsOf 15 = .ok (.iload_n 3, 1) ∧ 16 = 15 + 1 := ⟨by decide +kernel, rfl⟩
theorem dX10_pumpsOf_16 : decode cX10_pumpsOf 16 = .ok (.iconst 0, 1) ∧ 17 = 16 + 1 := ⟨by decide +kernel, rfl⟩
theorem dX10_pumpsOf_17 : decode cX10_pumpsOf 17 = .ok (.invokevirtual 87, 3) ∧ 20 = 17 + 3 := ⟨by decide +kernel, rfl⟩
theorem dX10_pumpsOf_20 : decode cX10_pumpsOf 20 = .ok (.iload_n 1, 1) ∧ 21 = 20 + 1 := ⟨by decide +kernel, rfl⟩
theorem dX10_pumpsOf_21 : decode cX10_pumpsOf 21 = .ok (.if_icmp .ne 9, 3) ∧ 24 = 21 + 3 := ⟨by decide +kernel, rfl⟩
theorem dX10_pumpsOf_24 : decode cX10_pumpsOf 24 = .ok (.iconst 1, 1) ∧ 25 = 24 + 1 := ⟨by decide +kernel, rfl⟩
theorem dX10_pumpsOf_25 : decode cX10_pumpsOf 25 = .ok (.iload_n 3, 1) ∧ 26 = 25 + 1 := ⟨by decide +kernel, rfl⟩
theorem dX10_pumpsOf_26 : decode cX10_pumpsOf 26 = .ok (.ishl, 1) ∧ 27 = 26 + 1 := ⟨by decide +kernel, rfl⟩
theorem dX10_pumpsOf_27 : decode cX10_pumpsOf 27 = .ok (.goto 4, 3) ∧ 30 = 27 + 3 := ⟨by decide +kernel, rfl⟩
theorem dX10_pumpsOf_30 : decode cX10_pumpsOf 30 = .ok (.iconst 0, 1) ∧ 31 = 30 + 1 := ⟨by decide +kernel, rfl⟩
theorem dX10_pumpsOf_31 : decode cX10_pumpsOf 31 = .ok (.ior, 1) ∧ 32 = 31 + 1 := ⟨by decide +kernel, rfl⟩
theorem dX10_pumpsOf_32 : decode cX10_pumpsOf 32 = .ok (.istore_n 2, 1) ∧ 33 = 32 + 1 := ⟨by decide +kernel, rfl⟩
theorem dX10_pumpsOf_33 : decode cX10_pumpsOf 33 = .ok (.iinc 3 1, 3) ∧ 36 = 33 + 3 := ⟨by decide +kernel, rfl⟩
theorem dX10_pumpsOf_36 : decode cX10_pumpsOf 36 = .ok (.goto (-32), 3) ∧ 39 = 36 + 3 := ⟨by decide +kernel, rfl⟩
theorem dX10_pumpsOf_39 : decode cX10_pumpsOf 39 = .ok (.iload_n 2, 1) ∧ 40 = 39 + 1 := ⟨by decide +kernel, rfl⟩
theorem dX10_pumpsOf_40 : decode cX10_pumpsOf 40 = .ok (.ireturn, 1) ∧ 41 = 40 + 1 := ⟨by decide +kernel, rfl⟩
theorem dX10_chamber_0 : decode cX10_chamber 0 = .ok (.aload_n 0, 1) ∧ 1 = 0 + 1 := ⟨by decide +kernel, rfl⟩
theorem dX10_chamber_1 : decode cX10_chamber 1 = .ok (.aload_n 0, 1) ∧ 2 = 1 + 1 := ⟨by decide +kernel, rfl⟩
theorem dX10_chamber_2 : decode cX10_chamber 2 = .ok (.iload_n 1, 1) ∧ 3 = 2 + 1 := ⟨by decide +kernel, rfl⟩
theorem dX10_chamber_3 : decode cX10_chamber 3 = .ok (.invokevirtual 179, 3) ∧ 6 = 3 + 3 := ⟨by decide +kernel, rfl⟩
theorem dX10_chamber_6 : decode cX10_chamber 6 = .ok (.ifCond .ne 7, 3) ∧ 9 = 6 + 3 := ⟨by decide +kernel, rfl⟩
theorem dX10_chamber_9 : decode cX10_chamber 9 = .ok (.iconst 1, 1) ∧ 10 = 9 + 1 := ⟨by decide +kernel, rfl⟩
theorem dX10_chamber_10 : decode cX10_chamber 10 = .ok (.goto 4, 3) ∧ 13 = 10 + 3 := ⟨by decide +kernel, rfl⟩
theorem dX10_chamber_13 : decode cX10_chamber 13 = .ok (.iconst 0, 1) ∧ 14 = 13 + 1 := ⟨by decide +kernel, rfl⟩
theorem dX10_chamber_14 : decode cX10_chamber 14 = .ok (.iconst 1, 1) ∧ 15 = 14 + 1 := ⟨by decide +kernel, rfl⟩
theorem dX10_chamber_15 : decode cX10_chamber 15 = .ok (.invokevirtual 151, 3) ∧ 18 = 15 + 3 := ⟨by decide +kernel, rfl⟩
theorem dX10_chamber_18 : decode cX10_chamber 18 = .ok (.ifCond .ne 28, 3) ∧ 21 = 18 + 3 := ⟨by decide +kernel, rfl⟩
theorem dX10_chamber_21 : decode cX10_chamber 21 = .ok (.aload_n 0, 1) ∧ 22 = 21 + 1 := ⟨by decide +kernel, rfl⟩
theorem dX10_chamber_22 : decode cX10_chamber 22 = .ok (.iload_n 2, 1) ∧ 23 = 22 + 1 := ⟨by decide +kernel, rfl⟩
theorem dX10_chamber_23 : decode cX10_chamber 23 = .ok (.i2l, 1) ∧ 24 = 23 + 1 := ⟨by decide +kernel, rfl⟩
theorem dX10_chamber_24 : decode cX10_chamber 24 = .ok (.lconst 0, 1) ∧ 25 = 24 + 1 := ⟨by decide +kernel, rfl⟩
theorem dX10_chamber_25 : decode cX10_chamber 25 = .ok (.ldc2_w 362, 3) ∧ 28 = 25 + 3 := ⟨by decide +kernel, rfl⟩
theorem dX10_chamber_28 : decode cX10_chamber 28 = .ok (.invokestatic 39, 3) ∧ 31 = 28 + 3 := ⟨by decide +kernel, rfl⟩
theorem dX10_chamber_31 : decode cX10_chamber 31 = .ok (.ifCond .ne 7, 3) ∧ 34 = 31 + 3 := ⟨by decide +kernel, rfl⟩
theorem dX10_chamber_34 : decode cX10_chamber 34 = .ok (.iconst 1, 1) ∧ 35 = 34 + 1 := ⟨by decide +kernel, rfl⟩
theorem dX10_chamber_35 : decode cX10_chamber 35 = .ok (.goto 4, 3) ∧ 38 = 35 + 3 := ⟨by decide +kernel, rfl⟩
theorem dX10_chamber_38 : decode cX10_chamber 38 = .ok (.iconst 0, 1) ∧ 39 = 38 + 1 := ⟨by decide +kernel, rfl⟩
theorem dX10_chamber_39 : decode cX10_chamber 39 = .ok (.iconst 2, 1) ∧ 40 = 39 + 1 := ⟨by decide +kernel, rfl⟩
theorem dX10_chamber_40 : decode cX10_chamber 40 = .ok (.invokevirtual 151, 3) ∧ 43 = 40 + 3 := ⟨by decide +kernel, rfl⟩
theorem dX10_chamber_43 : decode cX10_chamber 43 = .ok (.ifCond .eq 5, 3) ∧ 46 = 43 + 3 := ⟨by decide +kernel, rfl⟩
theorem dX10_chamber_46 : decode cX10_chamber 46 = .ok (.iconst 0, 1) ∧ 47 = 46 + 1 := ⟨by decide +kernel, rfl⟩
theorem dX10_chamber_47 : decode cX10_chamber 47 = .ok (.ireturn, 1) ∧ 48 = 47 + 1 := ⟨by decide +kernel, rfl⟩
theorem dX10_chamber_48 : decode cX10_chamber 48 = .ok (.iload_n 2, 1) ∧ 49 = 48 + 1 := ⟨by decide +kernel, rfl⟩
theorem dX10_chamber_49 : decode cX10_chamber 49 = .ok (.tableswitch 57 3 6 #[31, 38, 45, 51], 31) ∧ 80 = 49 + 31 := ⟨by decide +kernel, rfl⟩
theorem dX10_chamber_80 : decode cX10_chamber 80 = .ok (.aload_n 0, 1) ∧ 81 = 80 + 1 := ⟨by decide +kernel, rfl⟩
theorem dX10_chamber_81 : decode cX10_chamber 81 = .ok (.iload_n 1, 1) ∧ 82 = 81 + 1 := ⟨by decide +kernel, rfl⟩
theorem dX10_chamber_82 : decode cX10_chamber 82 = .ok (.invokevirtual 78, 3) ∧ 85 = 82 + 3 := ⟨by decide +kernel, rfl⟩
theorem dX10_chamber_85 : decode cX10_chamber 85 = .ok (.l2i, 1) ∧ 86 = 85 + 1 := ⟨by decide +kernel, rfl⟩
theorem dX10_chamber_86 : decode cX10_chamber 86 = .ok (.ireturn, 1) ∧ 87 = 86 + 1 := ⟨by decide +kernel, rfl⟩
theorem dX10_chamber_87 : decode cX10_chamber 87 = .ok (.aload_n 0, 1) ∧ 88 = 87 + 1 := ⟨by decide +kernel, rfl⟩
theorem dX10_chamber_88 : decode cX10_chamber 88 = .ok (.iload_n 1, 1) ∧ 89 = 88 + 1 := ⟨by decide +kernel, rfl⟩
theorem dX10_chamber_89 : decode cX10_chamber 89 = .ok (.invokevirtual 108, 3) ∧ 92 = 89 + 3 := ⟨by decide +kernel, rfl⟩
theorem dX10_chamber_92 : decode cX10_chamber 92 = .ok (.l2i, 1) ∧ 93 = 92 + 1 := ⟨by decide +kernel, rfl⟩
theorem dX10_chamber_93 : decode cX10_chamber 93 = .ok (.ireturn, 1) ∧ 94 = 93 + 1 := ⟨by decide +kernel, rfl⟩
theorem dX10_chamber_94 : decode cX10_chamber 94 = .ok (.aload_n 0, 1) ∧ 95 = 94 + 1 := ⟨by decide +kernel, rfl⟩
theorem dX10_chamber_95 : decode cX10_chamber 95 = .ok (.iload_n 1, 1) ∧ 96 = 95 + 1 := ⟨by decide +kernel, rfl⟩
theorem dX10_chamber_96 : decode cX10_chamber 96 = .ok (.invokevirtual 364, 3) ∧ 99 = 96 + 3 := ⟨by decide +kernel, rfl⟩
theorem dX10_chamber_99 : decode cX10_chamber 99 = .ok (.ireturn, 1) ∧ 100 = 99 + 1 := ⟨by decide +kernel, rfl⟩
theorem dX10_chamber_100 : decode cX10_chamber 100 = .ok (.aload_n 0, 1) ∧ 101 = 100 + 1 := ⟨by decide +kernel, rfl⟩
theorem dX10_chamber_101 : decode cX10_chamber 101 = .ok (.iload_n 1, 1) ∧ 102 = 101 + 1 := ⟨by decide +kernel, rfl⟩
theorem dX10_chamber_102 : decode cX10_chamber 102 = .ok (.invokevirtual 367, 3) ∧ 105 = 102 + 3 := ⟨by decide +kernel, rfl⟩
theorem dX10_chamber_105 : decode cX10_chamber 105 = .ok (.ireturn, 1) ∧ 106 = 105 + 1 := ⟨by decide +kernel, rfl⟩
theorem dX10_chamber_106 : decode cX10_chamber 106 = .ok (.aload_n 0, 1) ∧ 107 = 106 + 1 := ⟨by decide +kernel, rfl⟩
theorem dX10_chamber_107 : decode cX10_chamber 107 = .ok (.getfield 7, 3) ∧ 110 = 107 + 3 := ⟨by decide +kernel, rfl⟩
theorem dX10_chamber_110 : decode cX10_chamber 110 = .ok (.iload_n 1, 1) ∧ 111 = 110 + 1 := ⟨by decide +kernel, rfl⟩
theorem dX10_chamber_111 : decode cX10_chamber 111 = .ok (.invokestatic 61, 3) ∧ 114 = 111 + 3 := ⟨by decide +kernel, rfl⟩
theorem dX10_chamber_114 : decode cX10_chamber 114 = .ok (.iload_n 2, 1) ∧ 115 = 114 + 1 := ⟨by decide +kernel, rfl⟩
theorem dX10_chamber_115 : decode cX10_chamber 115 = .ok (.iadd, 1) ∧ 116 = 115 + 1 := ⟨by decide +kernel, rfl⟩
theorem dX10_chamber_116 : decode cX10_chamber 116 = .ok (.laload, 1) ∧ 117 = 116 + 1 := ⟨by decide +kernel, rfl⟩
theorem dX10_chamber_117 : decode cX10_chamber 117 = .ok (.l2i, 1) ∧ 118 = 117 + 1 := ⟨by decide +kernel, rfl⟩
theorem dX10_chamber_118 : decode cX10_chamber 118 = .ok (.ireturn, 1) ∧ 119 = 118 + 1 := ⟨by decide +kernel, rfl⟩
theorem dX10_gas_0 : decode cX10_gas 0 = .ok (.aload_n 0, 1) ∧ 1 = 0 + 1 := ⟨by decide +kernel, rfl⟩
theorem dX10_gas_1 : decode cX10_gas 1 = .ok (.aload_n 0, 1) ∧ 2 = 1 + 1 := ⟨by decide +kernel, rfl⟩
theorem dX10_gas_2 : decode cX10_gas 2 = .ok (.iload_n 1, 1) ∧ 3 = 2 + 1 := ⟨by decide +kernel, rfl⟩
theorem dX10_gas_3 : decode cX10_gas 3 = .ok (.invokevirtual 179, 3) ∧ 6 = 3 + 3 := ⟨by decide +kernel, rfl⟩
theorem dX10_gas_6 : decode cX10_gas 6 = .ok (.ifCond .ne 7, 3) ∧ 9 = 6 + 3 := ⟨by decide +kernel, rfl⟩
theorem dX10_gas_9 : decode cX10_gas 9 = .ok (.iconst 1, 1) ∧ 10 = 9 + 1 := ⟨by decide +kernel, rfl⟩
theorem dX10_gas_10 : decode cX10_gas 10 = .ok (.goto 4, 3) ∧ 13 = 10 + 3 := ⟨by decide +kernel, rfl⟩
theorem dX10_gas_13 : decode cX10_gas 13 = .ok (.iconst 0, 1) ∧ 14 = 13 + 1 := ⟨by decide +kernel, rfl⟩
theorem dX10_gas_14 : decode cX10_gas 14 = .ok (.iconst 1, 1) ∧ 15 = 14 + 1 := ⟨by decide +kernel, rfl⟩
theorem dX10_gas_15 : decode cX10_gas 15 = .ok (.invokevirtual 151, 3) ∧ 18 = 15 + 3 := ⟨by decide +kernel, rfl⟩
theorem dX10_gas_18 : decode cX10_gas 18 = .ok (.ifCond .eq 7, 3) ∧ 21 = 18 + 3 := ⟨by decide +kernel, rfl⟩
theorem dX10_gas_21 : decode cX10_gas 21 = .ok (.lconst 0, 1) ∧ 22 = 21 + 1 := ⟨by decide +kernel, rfl⟩
theorem dX10_gas_22 : decode cX10_gas 22 = .ok (.goto 14, 3) ∧ 25 = 22 + 3 := ⟨by decide +kernel, rfl⟩
theorem dX10_gas_25 : decode cX10_gas 25 = .ok (.aload_n 0, 1) ∧ 26 = 25 + 1 := ⟨by decide +kernel, rfl⟩
theorem dX10_gas_26 : decode cX10_gas 26 = .ok (.getfield 7, 3) ∧ 29 = 26 + 3 := ⟨by decide +kernel, rfl⟩
theorem dX10_gas_29 : decode cX10_gas 29 = .ok (.iload_n 1, 1) ∧ 30 = 29 + 1 := ⟨by decide +kernel, rfl⟩
theorem dX10_gas_30 : decode cX10_gas 30 = .ok (.invokestatic 61, 3) ∧ 33 = 30 + 3 := ⟨by decide +kernel, rfl⟩
theorem dX10_gas_33 : decode cX10_gas 33 = .ok (.iconst 3, 1) ∧ 34 = 33 + 1 := ⟨by decide +kernel, rfl⟩
theorem dX10_gas_34 : decode cX10_gas 34 = .ok (.iadd, 1) ∧ 35 = 34 + 1 := ⟨by decide +kernel, rfl⟩
theorem dX10_gas_35 : decode cX10_gas 35 = .ok (.laload, 1) ∧ 36 = 35 + 1 := ⟨by decide +kernel, rfl⟩
theorem dX10_gas_36 : decode cX10_gas 36 = .ok (.lreturn, 1) ∧ 37 = 36 + 1 := ⟨by decide +kernel, rfl⟩
theorem dX10_pump_0 : decode cX10_pump 0 = .ok (.aload_n 0, 1) ∧ 1 = 0 + 1 := ⟨by decide +kernel, rfl⟩
theorem dX10_pump_1 : decode cX10_pump 1 = .ok (.aload_n 0, 1) ∧ 2 = 1 + 1 := ⟨by decide +kernel, rfl⟩
theorem dX10_pump_2 : decode cX10_pump 2 = .ok (.iload_n 1, 1) ∧ 3 = 2 + 1 := ⟨by decide +kernel, rfl⟩
theorem dX10_pump_3 : decode cX10_pump 3 = .ok (.invokevirtual 164, 3) ∧ 6 = 3 + 3 := ⟨by decide +kernel, rfl⟩
theorem dX10_pump_6 : decode cX10_pump 6 = .ok (.ifCond .ne 7, 3) ∧ 9 = 6 + 3 := ⟨by decide +kernel, rfl⟩
theorem dX10_pump_9 : decode cX10_pump 9 = .ok (.iconst 1, 1) ∧ 10 = 9 + 1 := ⟨by decide +kernel, rfl⟩
theorem dX10_pump_10 : decode cX10_pump 10 = .ok (.goto 4, 3) ∧ 13 = 10 + 3 := ⟨by decide +kernel, rfl⟩
theorem dX10_pump_13 : decode cX10_pump 13 = .ok (.iconst 0, 1) ∧ 14 = 13 + 1 := ⟨by decide +kernel, rfl⟩
theorem dX10_pump_14 : decode cX10_pump 14 = .ok (.iconst 1, 1) ∧ 15 = 14 + 1 := ⟨by decide +kernel, rfl⟩
theorem dX10_pump_15 : decode cX10_pump 15 = .ok (.invokevirtual 151, 3) ∧ 18 = 15 + 3 := ⟨by decide +kernel, rfl⟩
theorem dX10_pump_18 : decode cX10_pump 18 = .ok (.ifCond .ne 28, 3) ∧ 21 = 18 + 3 := ⟨by decide +kernel, rfl⟩
theorem dX10_pump_21 : decode cX10_pump 21 = .ok (.aload_n 0, 1) ∧ 22 = 21 + 1 := ⟨by decide +kernel, rfl⟩
theorem dX10_pump_22 : decode cX10_pump 22 = .ok (.iload_n 2, 1) ∧ 23 = 22 + 1 := ⟨by decide +kernel, rfl⟩
theorem dX10_pump_23 : decode cX10_pump 23 = .ok (.i2l, 1) ∧ 24 = 23 + 1 := ⟨by decide +kernel, rfl⟩
theorem dX10_pump_24 : decode cX10_pump 24 = .ok (.lconst 0, 1) ∧ 25 = 24 + 1 := ⟨by decide +kernel, rfl⟩
theorem dX10_pump_25 : decode cX10_pump 25 = .ok (.ldc2_w 360, 3) ∧ 28 = 25 + 3 := ⟨by decide +kernel, rfl⟩
theorem dX10_pump_28 : decode cX10_pump 28 = .ok (.invokestatic 39, 3) ∧ 31 = 28 + 3 := ⟨by decide +kernel, rfl⟩
theorem dX10_pump_31 : decode cX10_pump 31 = .ok (.ifCond .ne 7, 3) ∧ 34 = 31 + 3 := ⟨by decide +kernel, rfl⟩
theorem dX10_pump_34 : decode cX10_pump 34 = .ok (.iconst 1, 1) ∧ 35 = 34 + 1 := ⟨by decide +kernel, rfl⟩
theorem dX10_pump_35 : decode cX10_pump 35 = .ok (.goto 4, 3) ∧ 38 = 35 + 3 := ⟨by decide +kernel, rfl⟩
theorem dX10_pump_38 : decode cX10_pump 38 = .ok (.iconst 0, 1) ∧ 39 = 38 + 1 := ⟨by decide +kernel, rfl⟩
theorem dX10_pump_39 : decode cX10_pump 39 = .ok (.iconst 2, 1) ∧ 40 = 39 + 1 := ⟨by decide +kernel, rfl⟩
theorem dX10_pump_40 : decode cX10_pump 40 = .ok (.invokevirtual 151, 3) ∧ 43 = 40 + 3 := ⟨by decide +kernel, rfl⟩
theorem dX10_pump_43 : decode cX10_pump 43 = .ok (.ifCond .eq 7, 3) ∧ 46 = 43 + 3 := ⟨by decide +kernel, rfl⟩
theorem dX10_pump_46 : decode cX10_pump 46 = .ok (.iconst 0, 1) ∧ 47 = 46 + 1 := ⟨by decide +kernel, rfl⟩
theorem dX10_pump_47 : decode cX10_pump 47 = .ok (.goto 9, 3) ∧ 50 = 47 + 3 := ⟨by decide +kernel, rfl⟩
theorem dX10_pump_50 : decode cX10_pump 50 = .ok (.aload_n 0, 1) ∧ 51 = 50 + 1 := ⟨by decide +kernel, rfl⟩
theorem dX10_pump_51 : decode cX10_pump 51 = .ok (.iload_n 1, 1) ∧ 52 = 51 + 1 := ⟨by decide +kernel, rfl⟩
theorem dX10_pump_52 : decode cX10_pump 52 = .ok (.iload_n 2, 1) ∧ 53 = 52 + 1 := ⟨by decide +kernel, rfl⟩
theorem dX10_pump_53 : decode cX10_pump 53 = .ok (.invokevirtual 87, 3) ∧ 56 = 53 + 3 := ⟨by decide +kernel, rfl⟩
theorem dX10_pump_56 : decode cX10_pump 56 = .ok (.ireturn, 1) ∧ 57 = 56 + 1 := ⟨by decide +kernel, rfl⟩
theorem dX10_valve_0 : decode cX10_valve 0 = .ok (.aload_n 0, 1) ∧ 1 = 0 + 1 := ⟨by decide +kernel, rfl⟩
theorem dX10_valve_1 : decode cX10_valve 1 = .ok (.aload_n 0, 1) ∧ 2 = 1 + 1 := ⟨by decide +kernel, rfl⟩
theorem dX10_valve_2 : decode cX10_valve 2 = .ok (.iload_n 1, 1) ∧ 3 = 2 + 1 := ⟨by decide +kernel, rfl⟩
theorem dX10_valve_3 : decode cX10_valve 3 = .ok (.invokevirtual 148, 3) ∧ 6 = 3 + 3 := ⟨by decide +kernel, rfl⟩
theorem dX10_valve_6 : decode cX10_valve 6 = .ok (.ifCond .ne 7, 3) ∧ 9 = 6 + 3 := ⟨by decide +kernel, rfl⟩
theorem dX10_valve_9 : decode cX10_valve 9 = .ok (.iconst 1, 1) ∧ 10 = 9 + 1 := ⟨by decide +kernel, rfl⟩
theorem dX10_valve_10 : decode cX10_valve 10 = .ok (.goto 4, 3) ∧ 13 = 10 + 3 := ⟨by decide +kernel, rfl⟩
theorem dX10_valve_13 : decode cX10_valve 13 = .ok (.iconst 0, 1) ∧ 14 = 13 + 1 := ⟨by decide +kernel, rfl⟩
theorem dX10_valve_14 : decode cX10_valve 14 = .ok (.iconst 1, 1) ∧ 15 = 14 + 1 := ⟨by decide +kernel, rfl⟩
theorem dX10_valve_15 : decode cX10_valve 15 = .ok (.invokevirtual 151, 3) ∧ 18 = 15 + 3 := ⟨by decide +kernel, rfl⟩
theorem dX10_valve_18 : decode cX10_valve 18 = .ok (.ifCond .ne 28, 3) ∧ 21 = 18 + 3 := ⟨by decide +kernel, rfl⟩
theorem dX10_valve_21 : decode cX10_valve 21 = .ok (.aload_n 0, 1) ∧ 22 = 21 + 1 := ⟨by decide +kernel, rfl⟩
theorem dX10_valve_22 : decode cX10_valve 22 = .ok (.iload_n 2, 1) ∧ 23 = 22 + 1 := ⟨by decide +kernel, rfl⟩
theorem dX10_valve_23 : decode cX10_valve 23 = .ok (.i2l, 1) ∧ 24 = 23 + 1 := ⟨by decide +kernel, rfl⟩
theorem dX10_valve_24 : decode cX10_valve 24 = .ok (.lconst 0, 1) ∧ 25 = 24 + 1 := ⟨by decide +kernel, rfl⟩
theorem dX10_valve_25 : decode cX10_valve 25 = .ok (.ldc2_w 362, 3) ∧ 28 = 25 + 3 := ⟨by decide +kernel, rfl⟩
theorem dX10_valve_28 : decode cX10_valve 28 = .ok (.invokestatic 39, 3) ∧ 31 = 28 + 3 := ⟨by decide +kernel, rfl⟩
theorem dX10_valve_31 : decode cX10_valve 31 = .ok (.ifCond .ne 7, 3) ∧ 34 = 31 + 3 := ⟨by decide +kernel, rfl⟩
theorem dX10_valve_34 : decode cX10_valve 34 = .ok (.iconst 1, 1) ∧ 35 = 34 + 1 := ⟨by decide +kernel, rfl⟩
theorem dX10_valve_35 : decode cX10_valve 35 = .ok (.goto 4, 3) ∧ 38 = 35 + 3 := ⟨by decide +kernel, rfl⟩
theorem dX10_valve_38 : decode cX10_valve 38 = .ok (.iconst 0, 1) ∧ 39 = 38 + 1 := ⟨by decide +kernel, rfl⟩
theorem dX10_valve_39 : decode cX10_valve 39 = .ok (.iconst 2, 1) ∧ 40 = 39 + 1 := ⟨by decide +kernel, rfl⟩
theorem dX10_valve_40 : decode cX10_valve 40 = .ok (.invokevirtual 151, 3) ∧ 43 = 40 + 3 := ⟨by decide +kernel, rfl⟩
theorem dX10_valve_43 : decode cX10_valve 43 = .ok (.ifCond .eq 5, 3) ∧ 46 = 43 + 3 := ⟨by decide +kernel, rfl⟩
theorem dX10_valve_46 : decode cX10_valve 46 = .ok (.iconst 0, 1) ∧ 47 = 46 + 1 := ⟨by decide +kernel, rfl⟩
theorem dX10_valve_47 : decode cX10_valve 47 = .ok (.ireturn, 1) ∧ 48 = 47 + 1 := ⟨by decide +kernel, rfl⟩
theorem dX10_valve_48 : decode cX10_valve 48 = .ok (.iload_n 2, 1) ∧ 49 = 48 + 1 := ⟨by decide +kernel, rfl⟩
theorem dX10_valve_49 : decode cX10_valve 49 = .ok (.bipush 6, 2) ∧ 51 = 49 + 2 := ⟨by decide +kernel, rfl⟩
theorem dX10_valve_51 : decode cX10_valve 51 = .ok (.if_icmp .ge 12, 3) ∧ 54 = 51 + 3 := ⟨by decide +kernel, rfl⟩
theorem dX10_valve_54 : decode cX10_valve 54 = .ok (.aload_n 0, 1) ∧ 55 = 54 + 1 := ⟨by decide +kernel, rfl⟩
theorem dX10_valve_55 : decode cX10_valve 55 = .ok (.iload_n 1, 1) ∧ 56 = 55 + 1 := ⟨by decide +kernel, rfl⟩
theorem dX10_valve_56 : decode cX10_valve 56 = .ok (.iload_n 2, 1) ∧ 57 = 56 + 1 := ⟨by decide +kernel, rfl⟩
theorem dX10_valve_57 : decode cX10_valve 57 = .ok (.invokevirtual 74, 3) ∧ 60 = 57 + 3 := ⟨by decide +kernel, rfl⟩
theorem dX10_valve_60 : decode cX10_valve 60 = .ok (.goto 9, 3) ∧ 63 = 60 + 3 := ⟨by decide +kernel, rfl⟩
theorem dX10_valve_63 : decode cX10_valve 63 = .ok (.aload_n 0, 1) ∧ 64 = 63 + 1 := ⟨by decide +kernel, rfl⟩
theorem dX10_valve_64 : decode cX10_valve 64 = .ok (.iload_n 1, 1) ∧ 65 = 64 + 1 := ⟨by decide +kernel, rfl⟩
theorem dX10_valve_65 : decode cX10_valve 65 = .ok (.invokevirtual 90, 3) ∧ 68 = 65 + 3 := ⟨by decide +kernel, rfl⟩
theorem dX10_valve_68 : decode cX10_valve 68 = .ok (.l2i, 1) ∧ 69 = 68 + 1 := ⟨by decide +kernel, rfl⟩
theorem dX10_valve_69 : decode cX10_valve 69 = .ok (.ireturn, 1) ∧ 70 = 69 + 1 := ⟨by decide +kernel, rfl⟩
theorem dX10_flange_0 : decode cX10_flange 0 = .ok (.aload_n 0, 1) ∧ 1 = 0 + 1 := ⟨by decide +kernel, rfl⟩
theorem dX10_flange_1 : decode cX10_flange 1 = .ok (.aload_n 0, 1) ∧ 2 = 1 + 1 := ⟨by decide +kernel, rfl⟩
theorem dX10_flange_2 : decode cX10_flange 2 = .ok (.iload_n 1, 1) ∧ 3 = 2 + 1 := ⟨by decide +kernel, rfl⟩
theorem dX10_flange_3 : decode cX10_flange 3 = .ok (.invokevirtual 191, 3) ∧ 6 = 3 + 3 := ⟨by decide +kernel, rfl⟩
theorem dX10_flange_6 : decode cX10_flange 6 = .ok (.ifCond .ne 7, 3) ∧ 9 = 6 + 3 := ⟨by decide +kernel, rfl⟩
theorem dX10_flange_9 : decode cX10_flange 9 = .ok (.iconst 1, 1) ∧ 10 = 9 + 1 := ⟨by decide +kernel, rfl⟩
theorem dX10_flange_10 : decode cX10_flange 10 = .ok (.goto 4, 3) ∧ 13 = 10 + 3 := ⟨by decide +kernel, rfl⟩
theorem dX10_flange_13 : decode cX10_flange 13 = .ok (.iconst 0, 1) ∧ 14 = 13 + 1 := ⟨by decide +kernel, rfl⟩
theorem dX10_flange_14 : decode cX10_flange 14 = .ok (.iconst 1, 1) ∧ 15 = 14 + 1 := ⟨by decide +kernel, rfl⟩
theorem dX10_flange_15 : decode cX10_flange 15 = .ok (.invokevirtual 151, 3) ∧ 18 = 15 + 3 := ⟨by decide +kernel, rfl⟩
theorem dX10_flange_18 : decode cX10_flange 18 = .ok (.ifCond .ne 26, 3) ∧ 21 = 18 + 3 := ⟨by decide +kernel, rfl⟩
theorem dX10_flange_21 : decode cX10_flange 21 = .ok (.aload_n 0, 1) ∧ 22 = 21 + 1 := ⟨by decide +kernel, rfl⟩
theorem dX10_flange_22 : decode cX10_flange 22 = .ok (.iload_n 2, 1) ∧ 23 = 22 + 1 := ⟨by decide +kernel, rfl⟩
theorem dX10_flange_23 : decode cX10_flange 23 = .ok (.i2l, 1) ∧ 24 = 23 + 1 := ⟨by decide +kernel, rfl⟩
theorem dX10_flange_24 : decode cX10_flange 24 = .ok (.lconst 0, 1) ∧ 25 = 24 + 1 := ⟨by decide +kernel, rfl⟩
theorem dX10_flange_25 : decode cX10_flange 25 = .ok (.lconst 1, 1) ∧ 26 = 25 + 1 := ⟨by decide +kernel, rfl⟩
theorem dX10_flange_26 : decode cX10_flange 26 = .ok (.invokestatic 39, 3) ∧ 29 = 26 + 3 := ⟨by decide +kernel, rfl⟩
theorem dX10_flange_29 : decode cX10_flange 29 = .ok (.ifCond .ne 7, 3) ∧ 32 = 29 + 3 := ⟨by decide +kernel, rfl⟩
theorem dX10_flange_32 : decode cX10_flange 32 = .ok (.iconst 1, 1) ∧ 33 = 32 + 1 := ⟨by decide +kernel, rfl⟩
theorem dX10_flange_33 : decode cX10_flange 33 = .ok (.goto 4, 3) ∧ 36 = 33 + 3 := ⟨by decide +kernel, rfl⟩
theorem dX10_flange_36 : decode cX10_flange 36 = .ok (.iconst 0, 1) ∧ 37 = 36 + 1 := ⟨by decide +kernel, rfl⟩
theorem dX10_flange_37 : decode cX10_flange 37 = .ok (.iconst 2, 1) ∧ 38 = 37 + 1 := ⟨by decide +kernel, rfl⟩
theorem dX10_flange_38 : decode cX10_flange 38 = .ok (.invokevirtual 151, 3) ∧ 41 = 38 + 3 := ⟨by decide +kernel, rfl⟩
theorem dX10_flange_41 : decode cX10_flange 41 = .ok (.ifCond .eq 7, 3) ∧ 44 = 41 + 3 := ⟨by decide +kernel, rfl⟩
theorem dX10_flange_44 : decode cX10_flange 44 = .ok (.iconst 0, 1) ∧ 45 = 44 + 1 := ⟨by decide +kernel, rfl⟩
theorem dX10_flange_45 : decode cX10_flange 45 = .ok (.goto 15, 3) ∧ 48 = 45 + 3 := ⟨by decide +kernel, rfl⟩
theorem dX10_flange_48 : decode cX10_flange 48 = .ok (.aload_n 0, 1) ∧ 49 = 48 + 1 := ⟨by decide +kernel, rfl⟩
theorem dX10_flange_49 : decode cX10_flange 49 = .ok (.getfield 7, 3) ∧ 52 = 49 + 3 := ⟨by decide +kernel, rfl⟩
theorem dX10_flange_52 : decode cX10_flange 52 = .ok (.iload_n 1, 1) ∧ 53 = 52 + 1 := ⟨by decide +kernel, rfl⟩
theorem dX10_flange_53 : decode cX10_flange 53 = .ok (.invokestatic 96, 3) ∧ 56 = 53 + 3 := ⟨by decide +kernel, rfl⟩
theorem dX10_flange_56 : decode cX10_flange 56 = .ok (.iload_n 2, 1) ∧ 57 = 56 + 1 := ⟨by decide +kernel, rfl⟩
theorem dX10_flange_57 : decode cX10_flange 57 = .ok (.iadd, 1) ∧ 58 = 57 + 1 := ⟨by decide +kernel, rfl⟩
theorem dX10_flange_58 : decode cX10_flange 58 = .ok (.laload, 1) ∧ 59 = 58 + 1 := ⟨by decide +kernel, rfl⟩
theorem dX10_flange_59 : decode cX10_flange 59 = .ok (.l2i, 1) ∧ 60 = 59 + 1 := ⟨by decide +kernel, rfl⟩
theorem dX10_flange_60 : decode cX10_flange 60 = .ok (.ireturn, 1) ∧ 61 = 60 + 1 := ⟨by decide +kernel, rfl⟩
theorem dX10_isNoTest_0 : decode cX10_isNoTest 0 = .ok (.aload_n 0, 1) ∧ 1 = 0 + 1 := ⟨by decide +kernel, rfl⟩
theorem dX10_isNoTest_1 : decode cX10_isNoTest 1 = .ok (.iload_n 1, 1) ∧ 2 = 1 + 1 := ⟨by decide +kernel, rfl⟩
theorem dX10_isNoTest_2 : decode cX10_isNoTest 2 = .ok (.i2l, 1) ∧ 3 = 2 + 1 := ⟨by decide +kernel, rfl⟩
theorem dX10_isNoTest_3 : decode cX10_isNoTest 3 = .ok (.lconst 0, 1) ∧ 4 = 3 + 1 := ⟨by decide +kernel, rfl⟩
theorem dX10_isNoTest_4 : decode cX10_isNoTest 4 = .ok (.aload_n 0, 1) ∧ 5 = 4 + 1 := ⟨by decide +kernel, rfl⟩
theorem dX10_isNoTest_5 : decode cX10_isNoTest 5 = .ok (.getfield 7, 3) ∧ 8 = 5 + 3 := ⟨by decide +kernel, rfl⟩
theorem dX10_isNoTest_8 : decode cX10_isNoTest 8 = .ok (.bipush 7, 2) ∧ 10 = 8 + 2 := ⟨by decide +kernel, rfl⟩
theorem dX10_isNoTest_10 : decode cX10_isNoTest 10 = .ok (.laload, 1) ∧ 11 = 10 + 1 := ⟨by decide +kernel, rfl⟩
theorem dX10_isNoTest_11 : decode cX10_isNoTest 11 = .ok (.lconst 1, 1) ∧ 12 = 11 + 1 := ⟨by decide +kernel, rfl⟩
theorem dX10_isNoTest_12 : decode cX10_isNoTest 12 = .ok (.lsub, 1) ∧ 13 = 12 + 1 := ⟨by decide +kernel, rfl⟩
theorem dX10_isNoTest_13 : decode cX10_isNoTest 13 = .ok (.invokestatic 39, 3) ∧ 16 = 13 + 3 := ⟨by decide +kernel, rfl⟩
theorem dX10_isNoTest_16 : decode cX10_isNoTest 16 = .ok (.ifCond .ne 7, 3) ∧ 19 = 16 + 3 := ⟨by decide +kernel, rfl⟩
theorem dX10_isNoTest_19 : decode cX10_isNoTest 19 = .ok (.iconst 1, 1) ∧ 20 = 19 + 1 := ⟨by decide +kernel, rfl⟩
theorem dX10_isNoTest_20 : decode cX10_isNoTest 20 = .ok (.goto 4, 3) ∧ 23 = 20 + 3 := ⟨by decide +kernel, rfl⟩
theorem dX10_isNoTest_23 : decode cX10_isNoTest 23 = .ok (.iconst 0, 1) ∧ 24 = 23 + 1 := ⟨by decide +kernel, rfl⟩
theorem dX10_isNoTest_24 : decode cX10_isNoTest 24 = .ok (.iconst 1, 1) ∧ 25 = 24 + 1 := ⟨by decide +kernel, rfl⟩
theorem dX10_isNoTest_25 : decode cX10_isNoTest 25 = .ok (.invokevirtual 151, 3) ∧ 28 = 25 + 3 := ⟨by decide +kernel, rfl⟩
theorem dX10_isNoTest_28 : decode cX10_isNoTest 28 = .ok (.ireturn, 1) ∧ 29 = 28 + 1 := ⟨by decide +kernel, rfl⟩
theorem dX10_rise_0 : decode cX10_rise 0 = .ok (.aload_n 0, 1) ∧ 1 = 0 + 1 := ⟨by decide +kernel, rfl⟩
theorem dX10_rise_1 : decode cX10_rise 1 = .ok (.iload_n 1, 1) ∧ 2 = 1 + 1 := ⟨by decide +kernel, rfl⟩
theorem dX10_rise_2 : decode cX10_rise 2 = .ok (.invokevirtual 370, 3) ∧ 5 = 2 + 3 := ⟨by decide +kernel, rfl⟩
theorem dX10_rise_5 : decode cX10_rise 5 = .ok (.ifCond .ne 28, 3) ∧ 8 = 5 + 3 := ⟨by decide +kernel, rfl⟩
theorem dX10_rise_8 : decode cX10_rise 8 = .ok (.aload_n 0, 1) ∧ 9 = 8 + 1 := ⟨by decide +kernel, rfl⟩
theorem dX10_rise_9 : decode cX10_rise 9 = .ok (.iload_n 2, 1) ∧ 10 = 9 + 1 := ⟨by decide +kernel, rfl⟩
theorem dX10_rise_10 : decode cX10_rise 10 = .ok (.i2l, 1) ∧ 11 = 10 + 1 := ⟨by decide +kernel, rfl⟩
theorem dX10_rise_11 : decode cX10_rise 11 = .ok (.lconst 0, 1) ∧ 12 = 11 + 1 := ⟨by decide +kernel, rfl⟩
theorem dX10_rise_12 : decode cX10_rise 12 = .ok (.ldc2_w 373, 3) ∧ 15 = 12 + 3 := ⟨by decide +kernel, rfl⟩
theorem dX10_rise_15 : decode cX10_rise 15 = .ok (.invokestatic 39, 3) ∧ 18 = 15 + 3 := ⟨by decide +kernel, rfl⟩
theorem dX10_rise_18 : decode cX10_rise 18 = .ok (.ifCond .ne 7, 3) ∧ 21 = 18 + 3 := ⟨by decide +kernel, rfl⟩
theorem dX10_rise_21 : decode cX10_rise 21 = .ok (.iconst 1, 1) ∧ 22 = 21 + 1 := ⟨by decide +kernel, rfl⟩
theorem dX10_rise_22 : decode cX10_rise 22 = .ok (.goto 4, 3) ∧ 25 = 22 + 3 := ⟨by decide +kernel, rfl⟩
theorem dX10_rise_25 : decode cX10_rise 25 = .ok (.iconst 0, 1) ∧ 26 = 25 + 1 := ⟨by decide +kernel, rfl⟩
theorem dX10_rise_26 : decode cX10_rise 26 = .ok (.iconst 2, 1) ∧ 27 = 26 + 1 := ⟨by decide +kernel, rfl⟩
theorem dX10_rise_27 : decode cX10_rise 27 = .ok (.invokevirtual 151, 3) ∧ 30 = 27 + 3 := ⟨by decide +kernel, rfl⟩
theorem dX10_rise_30 : decode cX10_rise 30 = .ok (.ifCond .eq 7, 3) ∧ 33 = 30 + 3 := ⟨by decide +kernel, rfl⟩
theorem dX10_rise_33 : decode cX10_rise 33 = .ok (.iconst 0, 1) ∧ 34 = 33 + 1 := ⟨by decide +kernel, rfl⟩
theorem dX10_rise_34 : decode cX10_rise 34 = .ok (.goto 15, 3) ∧ 37 = 34 + 3 := ⟨by decide +kernel, rfl⟩
theorem dX10_rise_37 : decode cX10_rise 37 = .ok (.aload_n 0, 1) ∧ 38 = 37 + 1 := ⟨by decide +kernel, rfl⟩
theorem dX10_rise_38 : decode cX10_rise 38 = .ok (.getfield 7, 3) ∧ 41 = 38 + 3 := ⟨by decide +kernel, rfl⟩
theorem dX10_rise_41 : decode cX10_rise 41 = .ok (.iload_n 1, 1) ∧ 42 = 41 + 1 := ⟨by decide +kernel, rfl⟩
theorem dX10_rise_42 : decode cX10_rise 42 = .ok (.invokestatic 211, 3) ∧ 45 = 42 + 3 := ⟨by decide +kernel, rfl⟩
theorem dX10_rise_45 : decode cX10_rise 45 = .ok (.iload_n 2, 1) ∧ 46 = 45 + 1 := ⟨by decide +kernel, rfl⟩
theorem dX10_rise_46 : decode cX10_rise 46 = .ok (.iadd, 1) ∧ 47 = 46 + 1 := ⟨by decide +kernel, rfl⟩
theorem dX10_rise_47 : decode cX10_rise 47 = .ok (.laload, 1) ∧ 48 = 47 + 1 := ⟨by decide +kernel, rfl⟩
theorem dX10_rise_48 : decode cX10_rise 48 = .ok (.l2i, 1) ∧ 49 = 48 + 1 := ⟨by decide +kernel, rfl⟩
theorem dX10_rise_49 : decode cX10_rise 49 = .ok (.ireturn, 1) ∧ 50 = 49 + 1 := ⟨by decide +kernel, rfl⟩
theorem dX10_riseGas_0 : decode cX10_riseGas 0 = .ok (.aload_n 0, 1) ∧ 1 = 0 + 1 := ⟨by decide +kernel, rfl⟩
theorem dX10_riseGas_1 : decode cX10_riseGas 1 = .ok (.iload_n 1, 1) ∧ 2 = 1 + 1 := ⟨by decide +kernel, rfl⟩
theorem dX10_riseGas_2 : decode cX10_riseGas 2 = .ok (.invokevirtual 370, 3) ∧ 5 = 2 + 3 := ⟨by decide +kernel, rfl⟩
theorem dX10_riseGas_5 : decode cX10_riseGas 5 = .ok (.ifCond .eq 7, 3) ∧ 8 = 5 + 3 := ⟨by decide +kernel, rfl⟩
theorem dX10_riseGas_8 : decode cX10_riseGas 8 = .ok (.lconst 0, 1) ∧ 9 = 8 + 1 := ⟨by decide +kernel, rfl⟩
theorem dX10_riseGas_9 : decode cX10_riseGas 9 = .ok (.goto 22, 3) ∧ 12 = 9 + 3 := ⟨by decide +kernel, rfl⟩
theorem dX10_riseGas_12 : decode cX10_riseGas 12 = .ok (.aload_n 0, 1) ∧ 13 = 12 + 1 := ⟨by decide +kernel, rfl⟩
theorem dX10_riseGas_13 : decode cX10_riseGas 13 = .ok (.getfield 7, 3) ∧ 16 = 13 + 3 := ⟨by decide +kernel, rfl⟩
theorem dX10_riseGas_16 : decode cX10_riseGas 16 = .ok (.iload_n 1, 1) ∧ 17 = 16 + 1 := ⟨by decide +kernel, rfl⟩
theorem dX10_riseGas_17 : decode cX10_riseGas 17 = .ok (.invokestatic 211, 3) ∧ 20 = 17 + 3 := ⟨by decide +kernel, rfl⟩
theorem dX10_riseGas_20 : decode cX10_riseGas 20 = .ok (.iload_n 2, 1) ∧ 21 = 20 + 1 := ⟨by decide +kernel, rfl⟩
theorem dX10_riseGas_21 : decode cX10_riseGas 21 = .ok (.ifCond .eq 7, 3) ∧ 24 = 21 + 3 := ⟨by decide +kernel, rfl⟩
theorem dX10_riseGas_24 : decode cX10_riseGas 24 = .ok (.iconst 5, 1) ∧ 25 = 24 + 1 := ⟨by decide +kernel, rfl⟩
theorem dX10_riseGas_25 : decode cX10_riseGas 25 = .ok (.goto 4, 3) ∧ 28 = 25 + 3 := ⟨by decide +kernel, rfl⟩
theorem dX10_riseGas_28 : decode cX10_riseGas 28 = .ok (.iconst 4, 1) ∧ 29 = 28 + 1 := ⟨by decide +kernel, rfl⟩
theorem dX10_riseGas_29 : decode cX10_riseGas 29 = .ok (.iadd, 1) ∧ 30 = 29 + 1 := ⟨by decide +kernel, rfl⟩
theorem dX10_riseGas_30 : decode cX10_riseGas 30 = .ok (.laload, 1) ∧ 31 = 30 + 1 := ⟨by decide +kernel, rfl⟩
theorem dX10_riseGas_31 : decode cX10_riseGas 31 = .ok (.lreturn, 1) ∧ 32 = 31 + 1 := ⟨by decide +kernel, rfl⟩
theorem dX10_mayOpen_0 : decode cX10_mayOpen 0 = .ok (.aload_n 0, 1) ∧ 1 = 0 + 1 := ⟨by decide +kernel, rfl⟩
theorem dX10_mayOpen_1 : decode cX10_mayOpen 1 = .ok (.aload_n 0, 1) ∧ 2 = 1 + 1 := ⟨by decide +kernel, rfl⟩
theorem dX10_mayOpen_2 : decode cX10_mayOpen 2 = .ok (.iload_n 1, 1) ∧ 3 = 2 + 1 := ⟨by decide +kernel, rfl⟩
theorem dX10_mayOpen_3 : decode cX10_mayOpen 3 = .ok (.invokevirtual 148, 3) ∧ 6 = 3 + 3 := ⟨by decide +kernel, rfl⟩
theorem dX10_mayOpen_6 : decode cX10_mayOpen 6 = .ok (.ifCond .ne 7, 3) ∧ 9 = 6 + 3 := ⟨by decide +kernel, rfl⟩
theorem dX10_mayOpen_9 : decode cX10_mayOpen 9 = .ok (.iconst 1, 1) ∧ 10 = 9 + 1 := ⟨by decide +kernel, rfl⟩
theorem dX10_mayOpen_10 : decode cX10_mayOpen 10 = .ok (.goto 4, 3) ∧ 13 = 10 + 3 := ⟨by decide +kernel, rfl⟩
theorem dX10_mayOpen_13 : decode cX10_mayOpen 13 = .ok (.iconst 0, 1) ∧ 14 = 13 + 1 := ⟨by decide +kernel, rfl⟩
theorem dX10_mayOpen_14 : decode cX10_mayOpen 14 = .ok (.iconst 1, 1) ∧ 15 = 14 + 1 := ⟨by decide +kernel, rfl⟩
theorem dX10_mayOpen_15 : decode cX10_mayOpen 15 = .ok (.invokevirtual 151, 3) ∧ 18 = 15 + 3 := ⟨by decide +kernel, rfl⟩
theorem dX10_mayOpen_18 : decode cX10_mayOpen 18 = .ok (.ifCond .eq 5, 3) ∧ 21 = 18 + 3 := ⟨by decide +kernel, rfl⟩
theorem dX10_mayOpen_21 : decode cX10_mayOpen 21 = .ok (.iconst 0, 1) ∧ 22 = 21 + 1 := ⟨by decide +kernel, rfl⟩
theorem dX10_mayOpen_22 : decode cX10_mayOpen 22 = .ok (.ireturn, 1) ∧ 23 = 22 + 1 := ⟨by decide +kernel, rfl⟩
theorem dX10_mayOpen_23 : decode cX10_mayOpen 23 = .ok (.aload_n 0, 1) ∧ 24 = 23 + 1 := ⟨by decide +kernel, rfl⟩
theorem dX10_mayOpen_24 : decode cX10_mayOpen 24 = .ok (.iload_n 1, 1) ∧ 25 = 24 + 1 := ⟨by decide +kernel, rfl⟩
theorem dX10_mayOpen_25 : decode cX10_mayOpen 25 = .ok (.invokevirtual 99, 3) ∧ 28 = 25 + 3 := ⟨by decide +kernel, rfl⟩
theorem dX10_mayOpen_28 : decode cX10_mayOpen 28 = .ok (.ifCond .eq 7, 3) ∧ 31 = 28 + 3 := ⟨by decide +kernel, rfl⟩
theorem dX10_mayOpen_31 : decode cX10_mayOpen 31 = .ok (.iconst 1, 1) ∧ 32 = 31 + 1 := ⟨by decide +kernel, rfl⟩
theorem dX10_mayOpen_32 : decode cX10_mayOpen 32 = .ok (.goto 16, 3) ∧ 35 = 32 + 3 := ⟨by decide +kernel, rfl⟩
theorem dX10_mayOpen_35 : decode cX10_mayOpen 35 = .ok (.aload_n 0, 1) ∧ 36 = 35 + 1 := ⟨by decide +kernel, rfl⟩
theorem dX10_mayOpen_36 : decode cX10_mayOpen 36 = .ok (.iload_n 1, 1) ∧ 37 = 36 + 1 := ⟨by decide +kernel, rfl⟩
theorem dX10_mayOpen_37 : decode cX10_mayOpen 37 = .ok (.invokevirtual 103, 3) ∧ 40 = 37 + 3 := ⟨by decide +kernel, rfl⟩
theorem dX10_mayOpen_40 : decode cX10_mayOpen 40 = .ok (.ifCond .eq 7, 3) ∧ 43 = 40 + 3 := ⟨by decide +kernel, rfl⟩
theorem dX10_mayOpen_43 : decode cX10_mayOpen 43 = .ok (.iconst 0, 1) ∧ 44 = 43 + 1 := ⟨by decide +kernel, rfl⟩
theorem dX10_mayOpen_44 : decode cX10_mayOpen 44 = .ok (.goto 4, 3) ∧ 47 = 44 + 3 := ⟨by decide +kernel, rfl⟩
theorem dX10_mayOpen_47 : decode cX10_mayOpen 47 = .ok (.iconst 2, 1) ∧ 48 = 47 + 1 := ⟨by decide +kernel, rfl⟩
theorem dX10_mayOpen_48 : decode cX10_mayOpen 48 = .ok (.ireturn, 1) ∧ 49 = 48 + 1 := ⟨by decide +kernel, rfl⟩
theorem dX10_mayStart_0 : decode cX10_mayStart 0 = .ok (.aload_n 0, 1) ∧ 1 = 0 + 1 := ⟨by decide +kernel, rfl⟩
theorem dX10_mayStart_1 : decode cX10_mayStart 1 = .ok (.aload_n 0, 1) ∧ 2 = 1 + 1 := ⟨by decide +kernel, rfl⟩
theorem dX10_mayStart_2 : decode cX10_mayStart 2 = .ok (.iload_n 1, 1) ∧ 3 = 2 + 1 := ⟨by decide +kernel, rfl⟩
theorem dX10_mayStart_3 : decode cX10_mayStart 3 = .ok (.invokevirtual 164, 3) ∧ 6 = 3 + 3 := ⟨by decide +kernel, rfl⟩
theorem dX10_mayStart_6 : decode cX10_mayStart 6 = .ok (.ifCond .ne 7, 3) ∧ 9 = 6 + 3 := ⟨by decide +kernel, rfl⟩
theorem dX10_mayStart_9 : decode cX10_mayStart 9 = .ok (.iconst 1, 1) ∧ 10 = 9 + 1 := ⟨by decide +kernel, rfl⟩
theorem dX10_mayStart_10 : decode cX10_mayStart 10 = .ok (.goto 4, 3) ∧ 13 = 10 + 3 := ⟨by decide +kernel, rfl⟩
theorem dX10_mayStart_13 : decode cX10_mayStart 13 = .ok (.iconst 0, 1) ∧ 14 = 13 + 1 := ⟨by decide +kernel, rfl⟩
theorem dX10_mayStart_14 : decode cX10_mayStart 14 = .ok (.iconst 1, 1) ∧ 15 = 14 + 1 := ⟨by decide +kernel, rfl⟩
theorem dX10_mayStart_15 : decode cX10_mayStart 15 = .ok (.invokevirtual 151, 3) ∧ 18 = 15 + 3 := ⟨by decide +kernel, rfl⟩
theorem dX10_mayStart_18 : decode cX10_mayStart 18 = .ok (.ifCond .eq 5, 3) ∧ 21 = 18 + 3 := ⟨by decide +kernel, rfl⟩
theorem dX10_mayStart_21 : decode cX10_mayStart 21 = .ok (.iconst 0, 1) ∧ 22 = 21 + 1 := ⟨by decide +kernel, rfl⟩
theorem dX10_mayStart_22 : decode cX10_mayStart 22 = .ok (.ireturn, 1) ∧ 23 = 22 + 1 := ⟨by decide +kernel, rfl⟩
theorem dX10_mayStart_23 : decode cX10_mayStart 23 = .ok (.aload_n 0, 1) ∧ 24 = 23 + 1 := ⟨by decide +kernel, rfl⟩
theorem dX10_mayStart_24 : decode cX10_mayStart 24 = .ok (.iload_n 1, 1) ∧ 25 = 24 + 1 := ⟨by decide +kernel, rfl⟩
theorem dX10_mayStart_25 : decode cX10_mayStart 25 = .ok (.invokevirtual 135, 3) ∧ 28 = 25 + 3 := ⟨by decide +kernel, rfl⟩
theorem dX10_mayStart_28 : decode cX10_mayStart 28 = .ok (.ifCond .eq 7, 3) ∧ 31 = 28 + 3 := ⟨by decide +kernel, rfl⟩
theorem dX10_mayStart_31 : decode cX10_mayStart 31 = .ok (.iconst 1, 1) ∧ 32 = 31 + 1 := ⟨by decide +kernel, rfl⟩
theorem dX10_mayStart_32 : decode cX10_mayStart 32 = .ok (.goto 28, 3) ∧ 35 = 32 + 3 := ⟨by decide +kernel, rfl⟩
theorem dX10_mayStart_35 : decode cX10_mayStart 35 = .ok (.aload_n 0, 1) ∧ 36 = 35 + 1 := ⟨by decide +kernel, rfl⟩
theorem dX10_mayStart_36 : decode cX10_mayStart 36 = .ok (.iload_n 1, 1) ∧ 37 = 36 + 1 := ⟨by decide +kernel, rfl⟩
theorem dX10_mayStart_37 : decode cX10_mayStart 37 = .ok (.invokevirtual 119, 3) ∧ 40 = 37 + 3 := ⟨by decide +kernel, rfl⟩
theorem dX10_mayStart_40 : decode cX10_mayStart 40 = .ok (.ifCond .ne 7, 3) ∧ 43 = 40 + 3 := ⟨by decide +kernel, rfl⟩
theorem dX10_mayStart_43 : decode cX10_mayStart 43 = .ok (.iconst 2, 1) ∧ 44 = 43 + 1 := ⟨by decide +kernel, rfl⟩
theorem dX10_mayStart_44 : decode cX10_mayStart 44 = .ok (.goto 16, 3) ∧ 47 = 44 + 3 := ⟨by decide +kernel, rfl⟩
theorem dX10_mayStart_47 : decode cX10_mayStart 47 = .ok (.aload_n 0, 1) ∧ 48 = 47 + 1 := ⟨by decide +kernel, rfl⟩
theorem dX10_mayStart_48 : decode cX10_mayStart 48 = .ok (.iload_n 1, 1) ∧ 49 = 48 + 1 := ⟨by decide +kernel, rfl⟩
theorem dX10_mayStart_49 : decode cX10_mayStart 49 = .ok (.invokevirtual 122, 3) ∧ 52 = 49 + 3 := ⟨by decide +kernel, rfl⟩
theorem dX10_mayStart_52 : decode cX10_mayStart 52 = .ok (.ifCond .eq 7, 3) ∧ 55 = 52 + 3 := ⟨by decide +kernel, rfl⟩
theorem dX10_mayStart_55 : decode cX10_mayStart 55 = .ok (.iconst 0, 1) ∧ 56 = 55 + 1 := ⟨by decide +kernel, rfl⟩
theorem dX10_mayStart_56 : decode cX10_mayStart 56 = .ok (.goto 4, 3) ∧ 59 = 56 + 3 := ⟨by decide +kernel, rfl⟩
theorem dX10_mayStart_59 : decode cX10_mayStart 59 = .ok (.iconst 3, 1) ∧ 60 = 59 + 1 := ⟨by decide +kernel, rfl⟩
theorem dX10_mayStart_60 : decode cX10_mayStart 60 = .ok (.ireturn, 1) ∧ 61 = 60 + 1 := ⟨by decide +kernel, rfl⟩
theorem dX10_beside_0 : decode cX10_beside 0 = .ok (.iload_n 1, 1) ∧ 1 = 0 + 1 := ⟨by decide +kernel, rfl⟩
theorem dX10_beside_1 : decode cX10_beside 1 = .ok (.istore_n 3, 1) ∧ 2 = 1 + 1 := ⟨by decide +kernel, rfl⟩
theorem dX10_beside_2 : decode cX10_beside 2 = .ok (.iconst 0, 1) ∧ 3 = 2 + 1 := ⟨by decide +kernel, rfl⟩
theorem dX10_beside_3 : decode cX10_beside 3 = .ok (.istore 4, 2) ∧ 5 = 3 + 2 := ⟨by decide +kernel, rfl⟩
theorem dX10_beside_5 : decode cX10_beside 5 = .ok (.iload 4, 2) ∧ 7 = 5 + 2 := ⟨by decide +kernel, rfl⟩
theorem dX10_beside_7 : decode cX10_beside 7 = .ok (.aload_n 0, 1) ∧ 8 = 7 + 1 := ⟨by decide +kernel, rfl⟩
theorem dX10_beside_8 : decode cX10_beside 8 = .ok (.iconst 2, 1) ∧ 9 = 8 + 1 := ⟨by decide +kernel, rfl⟩
theorem dX10_beside_9 : decode cX10_beside 9 = .ok (.invokevirtual 93, 3) ∧ 12 = 9 + 3 := ⟨by decide +kernel, rfl⟩
theorem dX10_beside_12 : decode cX10_beside 12 = .ok (.if_icmp .ge 83, 3) ∧ 15 = 12 + 3 := ⟨by decide +kernel, rfl⟩
theorem dX10_beside_15 : decode cX10_beside 15 = .ok (.aload_n 0, 1) ∧ 16 = 15 + 1 := ⟨by decide +kernel, rfl⟩
theorem dX10_beside_16 : decode cX10_beside 16 = .ok (.iload 4, 2) ∧ 18 = 16 + 2 := ⟨by decide +kernel, rfl⟩
theorem dX10_beside_18 : decode cX10_beside 18 = .ok (.iconst 0, 1) ∧ 19 = 18 + 1 := ⟨by decide +kernel, rfl⟩
theorem dX10_beside_19 : decode cX10_beside 19 = .ok (.invokevirtual 74, 3) ∧ 22 = 19 + 3 := ⟨by decide +kernel, rfl⟩
theorem dX10_beside_22 : decode cX10_beside 22 = .ok (.istore 5, 2) ∧ 24 = 22 + 2 := ⟨by decide +kernel, rfl⟩
theorem dX10_beside_24 : decode cX10_beside 24 = .ok (.aload_n 0, 1) ∧ 25 = 24 + 1 := ⟨by decide +kernel, rfl⟩
theorem dX10_beside_25 : decode cX10_beside 25 = .ok (.iload 4, 2) ∧ 27 = 25 + 2 := ⟨by decide +kernel, rfl⟩
theorem dX10_beside_27 : decode cX10_beside 27 = .ok (.iconst 1, 1) ∧ 28 = 27 + 1 := ⟨by decide +kernel, rfl⟩
theorem dX10_beside_28 : decode cX10_beside 28 = .ok (.invokevirtual 74, 3) ∧ 31 = 28 + 3 := ⟨by decide +kernel, rfl⟩
theorem dX10_beside_31 : decode cX10_beside 31 = .ok (.istore 6, 2) ∧ 33 = 31 + 2 := ⟨by decide +kernel, rfl⟩
theorem dX10_beside_33 : decode cX10_beside 33 = .ok (.iload 6, 2) ∧ 35 = 33 + 2 := ⟨by decide +kernel, rfl⟩
theorem dX10_beside_35 : decode cX10_beside 35 = .ok (.iconst (-1), 1) ∧ 36 = 35 + 1 := ⟨by decide +kernel, rfl⟩
theorem dX10_beside_36 : decode cX10_beside 36 = .ok (.if_icmp .eq 53, 3) ∧ 39 = 36 + 3 := ⟨by decide +kernel, rfl⟩
theorem dX10_beside_39 : decode cX10_beside 39 = .ok (.iload_n 2, 1) ∧ 40 = 39 + 1 := ⟨by decide +kernel, rfl⟩
theorem dX10_beside_40 : decode cX10_beside 40 = .ok (.ifCond .ne 15, 3) ∧ 43 = 40 + 3 := ⟨by decide +kernel, rfl⟩
theorem dX10_beside_43 : decode cX10_beside 43 = .ok (.aload_n 0, 1) ∧ 44 = 43 + 1 := ⟨by decide +kernel, rfl⟩
theorem dX10_beside_44 : decode cX10_beside 44 = .ok (.iload 4, 2) ∧ 46 = 44 + 2 := ⟨by decide +kernel, rfl⟩
theorem dX10_beside_46 : decode cX10_beside 46 = .ok (.invokevirtual 99, 3) ∧ 49 = 46 + 3 := ⟨by decide +kernel, rfl⟩
theorem dX10_beside_49 : decode cX10_beside 49 = .ok (.ifCond .ne 6, 3) ∧ 52 = 49 + 3 := ⟨by decide +kernel, rfl⟩
theorem dX10_beside_52 : decode cX10_beside 52 = .ok (.goto 37, 3) ∧ 55 = 52 + 3 := ⟨by decide +kernel, rfl⟩
theorem dX10_beside_55 : decode cX10_beside 55 = .ok (.iload_n 1, 1) ∧ 56 = 55 + 1 := ⟨by decide +kernel, rfl⟩
theorem dX10_beside_56 : decode cX10_beside 56 = .ok (.iload 5, 2) ∧ 58 = 56 + 2 := ⟨by decide +kernel, rfl⟩
theorem dX10_beside_58 : decode cX10_beside 58 = .ok (.ishr, 1) ∧ 59 = 58 + 1 := ⟨by decide +kernel, rfl⟩
theorem dX10_beside_59 : decode cX10_beside 59 = .ok (.iconst 1, 1) ∧ 60 = 59 + 1 := ⟨by decide +kernel, rfl⟩
theorem dX10_beside_60 : decode cX10_beside 60 = .ok (.iand, 1) ∧ 61 = 60 + 1 := ⟨by decide +kernel, rfl⟩
theorem dX10_beside_61 : decode cX10_beside 61 = .ok (.iconst 1, 1) ∧ 62 = 61 + 1 := ⟨by decide +kernel, rfl⟩
theorem dX10_beside_62 : decode cX10_beside 62 = .ok (.if_icmp .ne 10, 3) ∧ 65 = 62 + 3 := ⟨by decide +kernel, rfl⟩
theorem dX10_beside_65 : decode cX10_beside 65 = .ok (.iload_n 3, 1) ∧ 66 = 65 + 1 := ⟨by decide +kernel, rfl⟩
theorem dX10_beside_66 : decode cX10_beside 66 = .ok (.iconst 1, 1) ∧ 67 = 66 + 1 := ⟨by decide +kernel, rfl⟩
theorem dX10_beside_67 : decode cX10_beside 67 = .ok (.iload 6, 2) ∧ 69 = 67 + 2 := ⟨by decide +kernel, rfl⟩
theorem dX10_beside_69 : decode cX10_beside 69 = .ok (.ishl, 1) ∧ 70 = 69 + 1 := ⟨by decide +kernel, rfl⟩
theorem dX10_beside_70 : decode cX10_beside 70 = .ok (.ior, 1) ∧ 71 = 70 + 1 := ⟨by decide +kernel, rfl⟩
theorem dX10_beside_71 : decode cX10_beside 71 = .ok (.istore_n 3, 1) ∧ 72 = 71 + 1 := ⟨by decide +kernel, rfl⟩
theorem dX10_beside_72 : decode cX10_beside 72 = .ok (.iload_n 1, 1) ∧ 73 = 72 + 1 := ⟨by decide +kernel, rfl⟩
theorem dX10_beside_73 : decode cX10_beside 73 = .ok (.iload 6, 2) ∧ 75 = 73 + 2 := ⟨by decide +kernel, rfl⟩
theorem dX10_beside_75 : decode cX10_beside 75 = .ok (.ishr, 1) ∧ 76 = 75 + 1 := ⟨by decide +kernel, rfl⟩
theorem dX10_beside_76 : decode cX10_beside 76 = .ok (.iconst 1, 1) ∧ 77 = 76 + 1 := ⟨by decide +kernel, rfl⟩
theorem dX10_beside_77 : decode cX10_beside 77 = .ok (.iand, 1) ∧ 78 = 77 + 1 := ⟨by decide +kernel, rfl⟩
theorem dX10_beside_78 : decode cX10_beside 78 = .ok (.iconst 1, 1) ∧ 79 = 78 + 1 := ⟨by decide +kernel, rfl⟩
theorem dX10_beside_79 : decode cX10_beside 79 = .ok (.if_icmp .ne 10, 3) ∧ 82 = 79 + 3 := ⟨by decide +kernel, rfl⟩
theorem dX10_beside_82 : decode cX10_beside 82 = .ok (.iload_n 3, 1) ∧ 83 = 82 + 1 := ⟨by decide +kernel, rfl⟩
theorem dX10_beside_83 : decode cX10_beside 83 = .ok (.iconst 1, 1) ∧ 84 = 83 + 1 := ⟨by decide +kernel, rfl⟩
theorem dX10_beside_84 : decode cX10_beside 84 = .ok (.iload 5, 2) ∧ 86 = 84 + 2 := ⟨by decide +kernel, rfl⟩
theorem dX10_beside_86 : decode cX10_beside 86 = .ok (.ishl, 1) ∧ 87 = 86 + 1 := ⟨by decide +kernel, rfl⟩
theorem dX10_beside_87 : decode cX10_beside 87 = .ok (.ior, 1) ∧ 88 = 87 + 1 := ⟨by decide +kernel, rfl⟩
theorem dX10_beside_88 : decode cX10_beside 88 = .ok (.istore_n 3, 1) ∧ 89 = 88 + 1 := ⟨by decide +kernel, rfl⟩
theorem dX10_beside_89 : decode cX10_beside 89 = .ok (.iinc 4 1, 3) ∧ 92 = 89 + 3 := ⟨by decide +kernel, rfl⟩
theorem dX10_beside_92 : decode cX10_beside 92 = .ok (.goto (-87), 3) ∧ 95 = 92 + 3 := ⟨by decide +kernel, rfl⟩
theorem dX10_beside_95 : decode cX10_beside 95 = .ok (.iload_n 3, 1) ∧ 96 = 95 + 1 := ⟨by decide +kernel, rfl⟩
theorem dX10_beside_96 : decode cX10_beside 96 = .ok (.ireturn, 1) ∧ 97 = 96 + 1 := ⟨by decide +kernel, rfl⟩
theorem dX10_joinedWith_0 : decode cX10_joinedWith 0 = .ok (.iconst 0, 1) ∧ 1 = 0 + 1 := ⟨by decide +kernel, rfl⟩
theorem dX10_joinedWith_1 : decode cX10_joinedWith 1 = .ok (.istore_n 2, 1) ∧ 2 = 1 + 1 := ⟨by decide +kernel, rfl⟩
theorem dX10_joinedWith_2 : decode cX10_joinedWith 2 = .ok (.iconst 1, 1) ∧ 3 = 2 + 1 := ⟨by decide +kernel, rfl⟩
theorem dX10_joinedWith_3 : decode cX10_joinedWith 3 = .ok (.iload_n 1, 1) ∧ 4 = 3 + 1 := ⟨by decide +kernel, rfl⟩
theorem dX10_joinedWith_4 : decode cX10_joinedWith 4 = .ok (.ishl, 1) ∧ 5 = 4 + 1 := ⟨by decide +kernel, rfl⟩
theorem dX10_joinedWith_5 : decode cX10_joinedWith 5 = .ok (.istore_n 3, 1) ∧ 6 = 5 + 1 := ⟨by decide +kernel, rfl⟩
theorem dX10_joinedWith_6 : decode cX10_joinedWith 6 = .ok (.iload_n 3, 1) ∧ 7 = 6 + 1 := ⟨by decide +kernel, rfl⟩
theorem dX10_joinedWith_7 : decode cX10_joinedWith 7 = .ok (.iload_n 2, 1) ∧ 8 = 7 + 1 := ⟨by decide +kernel, rfl⟩
theorem dX10_joinedWith_8 : decode cX10_joinedWith 8 = .ok (.if_icmp .eq 15, 3) ∧ 11 = 8 + 3 := ⟨by decide +kernel, rfl⟩
theorem dX10_joinedWith_11 : decode cX10_joinedWith 11 = .ok (.iload_n 3, 1) ∧ 12 = 11 + 1 := ⟨by decide +kernel, rfl⟩
theorem dX10_joinedWith_12 : decode cX10_joinedWith 12 = .ok (.istore_n 2, 1) ∧ 13 = 12 + 1 := ⟨by decide +kernel, rfl⟩
theorem dX10_joinedWith_13 : decode cX10_joinedWith 13 = .ok (.aload_n 0, 1) ∧ 14 = 13 + 1 := ⟨by decide +kernel, rfl⟩
theorem dX10_joinedWith_14 : decode cX10_joinedWith 14 = .ok (.iload_n 2, 1) ∧ 15 = 14 + 1 := ⟨by decide +kernel, rfl⟩
theorem dX10_joinedWith_15 : decode cX10_joinedWith 15 = .ok (.iconst 0, 1) ∧ 16 = 15 + 1 := ⟨by decide +kernel, rfl⟩
theorem dX10_joinedWith_16 : decode cX10_joinedWith 16 = .ok (.invokevirtual 375, 3) ∧ 19 = 16 + 3 := ⟨by decide +kernel, rfl⟩
theorem dX10_joinedWith_19 : decode cX10_joinedWith 19 = .ok (.istore_n 3, 1) ∧ 20 = 19 + 1 := ⟨by decide +kernel, rfl⟩
theorem dX10_joinedWith_20 : decode cX10_joinedWith 20 = .ok (.goto (-14), 3) ∧ 23 = 20 + 3 := ⟨by decide +kernel, rfl⟩
theorem dX10_joinedWith_23 : decode cX10_joinedWith 23 = .ok (.iload_n 2, 1) ∧ 24 = 23 + 1 := ⟨by decide +kernel, rfl⟩
theorem dX10_joinedWith_24 : decode cX10_joinedWith 24 = .ok (.ireturn, 1) ∧ 25 = 24 + 1 := ⟨by decide +kernel, rfl⟩
theorem dX10_joined_0 : decode cX10_joined 0 = .ok (.aload_n 0, 1) ∧ 1 = 0 + 1 := ⟨by decide +kernel, rfl⟩
theorem dX10_joined_1 : decode cX10_joined 1 = .ok (.aload_n 0, 1) ∧ 2 = 1 + 1 := ⟨by decide +kernel, rfl⟩
theorem dX10_joined_2 : decode cX10_joined 2 = .ok (.iload_n 1, 1) ∧ 3 = 2 + 1 := ⟨by decide +kernel, rfl⟩
theorem dX10_joined_3 : decode cX10_joined 3 = .ok (.invokevirtual 179, 3) ∧ 6 = 3 + 3 := ⟨by decide +kernel, rfl⟩
theorem dX10_joined_6 : decode cX10_joined 6 = .ok (.ifCond .ne 7, 3) ∧ 9 = 6 + 3 := ⟨by decide +kernel, rfl⟩
theorem dX10_joined_9 : decode cX10_joined 9 = .ok (.iconst 1, 1) ∧ 10 = 9 + 1 := ⟨by decide +kernel, rfl⟩
theorem dX10_joined_10 : decode cX10_joined 10 = .ok (.goto 4, 3) ∧ 13 = 10 + 3 := ⟨by decide +kernel, rfl⟩
theorem dX10_joined_13 : decode cX10_joined 13 = .ok (.iconst 0, 1) ∧ 14 = 13 + 1 := ⟨by decide +kernel, rfl⟩
theorem dX10_joined_14 : decode cX10_joined 14 = .ok (.iconst 1, 1) ∧ 15 = 14 + 1 := ⟨by decide +kernel, rfl⟩
theorem dX10_joined_15 : decode cX10_joined 15 = .ok (.invokevirtual 151, 3) ∧ 18 = 15 + 3 := ⟨by decide +kernel, rfl⟩
theorem dX10_joined_18 : decode cX10_joined 18 = .ok (.ifCond .eq 7, 3) ∧ 21 = 18 + 3 := ⟨by decide +kernel, rfl⟩
theorem dX10_joined_21 : decode cX10_joined 21 = .ok (.iconst 0, 1) ∧ 22 = 21 + 1 := ⟨by decide +kernel, rfl⟩
theorem dX10_joined_22 : decode cX10_joined 22 = .ok (.goto 8, 3) ∧ 25 = 22 + 3 := ⟨by decide +kernel, rfl⟩
theorem dX10_joined_25 : decode cX10_joined 25 = .ok (.aload_n 0, 1) ∧ 26 = 25 + 1 := ⟨by decide +kernel, rfl⟩
theorem dX10_joined_26 : decode cX10_joined 26 = .ok (.iload_n 1, 1) ∧ 27 = 26 + 1 := ⟨by decide +kernel, rfl⟩
theorem dX10_joined_27 : decode cX10_joined 27 = .ok (.invokevirtual 379, 3) ∧ 30 = 27 + 3 := ⟨by decide +kernel, rfl⟩
theorem dX10_joined_30 : decode cX10_joined 30 = .ok (.ireturn, 1) ∧ 31 = 30 + 1 := ⟨by decide +kernel, rfl⟩
theorem dX10_leadsOut_0 : decode cX10_leadsOut 0 = .ok (.iconst 0, 1) ∧ 1 = 0 + 1 := ⟨by decide +kernel, rfl⟩
theorem dX10_leadsOut_1 : decode cX10_leadsOut 1 = .ok (.istore_n 3, 1) ∧ 2 = 1 + 1 := ⟨by decide +kernel, rfl⟩
theorem dX10_leadsOut_2 : decode cX10_leadsOut 2 = .ok (.iload_n 3, 1) ∧ 3 = 2 + 1 := ⟨by decide +kernel, rfl⟩
theorem dX10_leadsOut_3 : decode cX10_leadsOut 3 = .ok (.aload_n 0, 1) ∧ 4 = 3 + 1 := ⟨by decide +kernel, rfl⟩
theorem dX10_leadsOut_4 : decode cX10_leadsOut 4 = .ok (.iconst 2, 1) ∧ 5 = 4 + 1 := ⟨by decide +kernel, rfl⟩
theorem dX10_leadsOut_5 : decode cX10_leadsOut 5 = .ok (.invokevirtual 93, 3) ∧ 8 = 5 + 3 := ⟨by decide +kernel, rfl⟩
theorem dX10_leadsOut_8 : decode cX10_leadsOut 8 = .ok (.if_icmp .ge 47, 3) ∧ 11 = 8 + 3 := ⟨by decide +kernel, rfl⟩
theorem dX10_leadsOut_11 : decode cX10_leadsOut 11 = .ok (.aload_n 0, 1) ∧ 12 = 11 + 1 := ⟨by decide +kernel, rfl⟩
theorem dX10_leadsOut_12 : decode cX10_leadsOut 12 = .ok (.iload_n 3, 1) ∧ 13 = 12 + 1 := ⟨by decide +kernel, rfl⟩
theorem dX10_leadsOut_13 : decode cX10_leadsOut 13 = .ok (.iconst 1, 1) ∧ 14 = 13 + 1 := ⟨by decide +kernel, rfl⟩
theorem dX10_leadsOut_14 : decode cX10_leadsOut 14 = .ok (.invokevirtual 74, 3) ∧ 17 = 14 + 3 := ⟨by decide +kernel, rfl⟩
theorem dX10_leadsOut_17 : decode cX10_leadsOut 17 = .ok (.iconst (-1), 1) ∧ 18 = 17 + 1 := ⟨by decide +kernel, rfl⟩
theorem dX10_leadsOut_18 : decode cX10_leadsOut 18 = .ok (.if_icmp .ne 31, 3) ∧ 21 = 18 + 3 := ⟨by decide +kernel, rfl⟩
theorem dX10_leadsOut_21 : decode cX10_leadsOut 21 = .ok (.iload_n 2, 1) ∧ 22 = 21 + 1 := ⟨by decide +kernel, rfl⟩
theorem dX10_leadsOut_22 : decode cX10_leadsOut 22 = .ok (.ifCond .ne 11, 3) ∧ 25 = 22 + 3 := ⟨by decide +kernel, rfl⟩
theorem dX10_leadsOut_25 : decode cX10_leadsOut 25 = .ok (.aload_n 0, 1) ∧ 26 = 25 + 1 := ⟨by decide +kernel, rfl⟩
theorem dX10_leadsOut_26 : decode cX10_leadsOut 26 = .ok (.iload_n 3, 1) ∧ 27 = 26 + 1 := ⟨by decide +kernel, rfl⟩
theorem dX10_leadsOut_27 : decode cX10_leadsOut 27 = .ok (.invokevirtual 99, 3) ∧ 30 = 27 + 3 := ⟨by decide +kernel, rfl⟩
theorem dX10_leadsOut_30 : decode cX10_leadsOut 30 = .ok (.ifCond .eq 19, 3) ∧ 33 = 30 + 3 := ⟨by decide +kernel, rfl⟩
theorem dX10_leadsOut_33 : decode cX10_leadsOut 33 = .ok (.iload_n 1, 1) ∧ 34 = 33 + 1 := ⟨by decide +kernel, rfl⟩
theorem dX10_leadsOut_34 : decode cX10_leadsOut 34 = .ok (.aload_n 0, 1) ∧ 35 = 34 + 1 := ⟨by decide +kernel, rfl⟩
theorem dX10_leadsOut_35 : decode cX10_leadsOut 35 = .ok (.iload_n 3, 1) ∧ 36 = 35 + 1 := ⟨by decide +kernel, rfl⟩
theorem dX10_leadsOut_36 : decode cX10_leadsOut 36 = .ok (.iconst 0, 1) ∧ 37 = 36 + 1 := ⟨by decide +kernel, rfl⟩
theorem dX10_leadsOut_37 : decode cX10_leadsOut 37 = .ok (.invokevirtual 74, 3) ∧ 40 = 37 + 3 := ⟨by decide +kernel, rfl⟩
theorem dX10_leadsOut_40 : decode cX10_leadsOut 40 = .ok (.ishr, 1) ∧ 41 = 40 + 1 := ⟨by decide +kernel, rfl⟩
theorem dX10_leadsOut_41 : decode cX10_leadsOut 41 = .ok (.iconst 1, 1) ∧ 42 = 41 + 1 := ⟨by decide +kernel, rfl⟩
theorem dX10_leadsOut_42 : decode cX10_leadsOut 42 = .ok (.iand, 1) ∧ 43 = 42 + 1 := ⟨by decide +kernel, rfl⟩
theorem dX10_leadsOut_43 : decode cX10_leadsOut 43 = .ok (.iconst 1, 1) ∧ 44 = 43 + 1 := ⟨by decide +kernel, rfl⟩
theorem dX10_leadsOut_44 : decode cX10_leadsOut 44 = .ok (.if_icmp .ne 5, 3) ∧ 47 = 44 + 3 := ⟨by decide +kernel, rfl⟩
theorem dX10_leadsOut_47 : decode cX10_leadsOut 47 = .ok (.iconst 1, 1) ∧ 48 = 47 + 1 := ⟨by decide +kernel, rfl⟩
theorem dX10_leadsOut_48 : decode cX10_leadsOut 48 = .ok (.ireturn, 1) ∧ 49 = 48 + 1 := ⟨by decide +kernel, rfl⟩
theorem dX10_leadsOut_49 : decode cX10_leadsOut 49 = .ok (.iinc 3 1, 3) ∧ 52 = 49 + 3 := ⟨by decide +kernel, rfl⟩
theorem dX10_leadsOut_52 : decode cX10_leadsOut 52 = .ok (.goto (-50), 3) ∧ 55 = 52 + 3 := ⟨by decide +kernel, rfl⟩
theorem dX10_leadsOut_55 : decode cX10_leadsOut 55 = .ok (.iconst 0, 1) ∧ 56 = 55 + 1 := ⟨by decide +kernel, rfl⟩
theorem dX10_leadsOut_56 : decode cX10_leadsOut 56 = .ok (.ireturn, 1) ∧ 57 = 56 + 1 := ⟨by decide +kernel, rfl⟩
theorem dX10_isVented_0 : decode cX10_isVented 0 = .ok (.aload_n 0, 1) ∧ 1 = 0 + 1 := ⟨by decide +kernel, rfl⟩
theorem dX10_isVented_1 : decode cX10_isVented 1 = .ok (.aload_n 0, 1) ∧ 2 = 1 + 1 := ⟨by decide +kernel, rfl⟩
theorem dX10_isVented_2 : decode cX10_isVented 2 = .ok (.iload_n 1, 1) ∧ 3 = 2 + 1 := ⟨by decide +kernel, rfl⟩
theorem dX10_isVented_3 : decode cX10_isVented 3 = .ok (.invokevirtual 179, 3) ∧ 6 = 3 + 3 := ⟨by decide +kernel, rfl⟩
theorem dX10_isVented_6 : decode cX10_isVented 6 = .ok (.ifCond .ne 7, 3) ∧ 9 = 6 + 3 := ⟨by decide +kernel, rfl⟩
theorem dX10_isVented_9 : decode cX10_isVented 9 = .ok (.iconst 1, 1) ∧ 10 = 9 + 1 := ⟨by decide +kernel, rfl⟩
theorem dX10_isVented_10 : decode cX10_isVented 10 = .ok (.goto 4, 3) ∧ 13 = 10 + 3 := ⟨by decide +kernel, rfl⟩
theorem dX10_isVented_13 : decode cX10_isVented 13 = .ok (.iconst 0, 1) ∧ 14 = 13 + 1 := ⟨by decide +kernel, rfl⟩
theorem dX10_isVented_14 : decode cX10_isVented 14 = .ok (.iconst 1, 1) ∧ 15 = 14 + 1 := ⟨by decide +kernel, rfl⟩
theorem dX10_isVented_15 : decode cX10_isVented 15 = .ok (.invokevirtual 151, 3) ∧ 18 = 15 + 3 := ⟨by decide +kernel, rfl⟩
theorem dX10_isVented_18 : decode cX10_isVented 18 = .ok (.ifCond .ne 20, 3) ∧ 21 = 18 + 3 := ⟨by decide +kernel, rfl⟩
theorem dX10_isVented_21 : decode cX10_isVented 21 = .ok (.aload_n 0, 1) ∧ 22 = 21 + 1 := ⟨by decide +kernel, rfl⟩
theorem dX10_isVented_22 : decode cX10_isVented 22 = .ok (.aload_n 0, 1) ∧ 23 = 22 + 1 := ⟨by decide +kernel, rfl⟩
theorem dX10_isVented_23 : decode cX10_isVented 23 = .ok (.iload_n 1, 1) ∧ 24 = 23 + 1 := ⟨by decide +kernel, rfl⟩
theorem dX10_isVented_24 : decode cX10_isVented 24 = .ok (.invokevirtual 379, 3) ∧ 27 = 24 + 3 := ⟨by decide +kernel, rfl⟩
theorem dX10_isVented_27 : decode cX10_isVented 27 = .ok (.iconst 0, 1) ∧ 28 = 27 + 1 := ⟨by decide +kernel, rfl⟩
theorem dX10_isVented_28 : decode cX10_isVented 28 = .ok (.invokevirtual 382, 3) ∧ 31 = 28 + 3 := ⟨by decide +kernel, rfl⟩
theorem dX10_isVented_31 : decode cX10_isVented 31 = .ok (.ifCond .eq 7, 3) ∧ 34 = 31 + 3 := ⟨by decide +kernel, rfl⟩
theorem dX10_isVented_34 : decode cX10_isVented 34 = .ok (.iconst 1, 1) ∧ 35 = 34 + 1 := ⟨by decide +kernel, rfl⟩
theorem dX10_isVented_35 : decode cX10_isVented 35 = .ok (.goto 4, 3) ∧ 38 = 35 + 3 := ⟨by decide +kernel, rfl⟩
theorem dX10_isVented_38 : decode cX10_isVented 38 = .ok (.iconst 0, 1) ∧ 39 = 38 + 1 := ⟨by decide +kernel, rfl⟩
theorem dX10_isVented_39 : decode cX10_isVented 39 = .ok (.ireturn, 1) ∧ 40 = 39 + 1 := ⟨by decide +kernel, rfl⟩
theorem dX10_spread_0 : decode cX10_spread 0 = .ok (.aload_n 0, 1) ∧ 1 = 0 + 1 := ⟨by decide +kernel, rfl⟩
theorem dX10_spread_1 : decode cX10_spread 1 = .ok (.aload_n 0, 1) ∧ 2 = 1 + 1 := ⟨by decide +kernel, rfl⟩
theorem dX10_spread_2 : decode cX10_spread 2 = .ok (.iload_n 1, 1) ∧ 3 = 2 + 1 := ⟨by decide +kernel, rfl⟩
theorem dX10_spread_3 : decode cX10_spread 3 = .ok (.invokevirtual 179, 3) ∧ 6 = 3 + 3 := ⟨by decide +kernel, rfl⟩
theorem dX10_spread_6 : decode cX10_spread 6 = .ok (.ifCond .ne 7, 3) ∧ 9 = 6 + 3 := ⟨by decide +kernel, rfl⟩
theorem dX10_spread_9 : decode cX10_spread 9 = .ok (.iconst 1, 1) ∧ 10 = 9 + 1 := ⟨by decide +kernel, rfl⟩
theorem dX10_spread_10 : decode cX10_spread 10 = .ok (.goto 4, 3) ∧ 13 = 10 + 3 := ⟨by decide +kernel, rfl⟩
theorem dX10_spread_13 : decode cX10_spread 13 = .ok (.iconst 0, 1) ∧ 14 = 13 + 1 := ⟨by decide +kernel, rfl⟩
theorem dX10_spread_14 : decode cX10_spread 14 = .ok (.iconst 1, 1) ∧ 15 = 14 + 1 := ⟨by decide +kernel, rfl⟩
theorem dX10_spread_15 : decode cX10_spread 15 = .ok (.invokevirtual 151, 3) ∧ 18 = 15 + 3 := ⟨by decide +kernel, rfl⟩
theorem dX10_spread_18 : decode cX10_spread 18 = .ok (.ifCond .eq 5, 3) ∧ 21 = 18 + 3 := ⟨by decide +kernel, rfl⟩
theorem dX10_spread_21 : decode cX10_spread 21 = .ok (.iconst 0, 1) ∧ 22 = 21 + 1 := ⟨by decide +kernel, rfl⟩
theorem dX10_spread_22 : decode cX10_spread 22 = .ok (.ireturn, 1) ∧ 23 = 22 + 1 := ⟨by decide +kernel, rfl⟩
theorem dX10_spread_23 : decode cX10_spread 23 = .ok (.aload_n 0, 1) ∧ 24 = 23 + 1 := ⟨by decide +kernel, rfl⟩
theorem dX10_spread_24 : decode cX10_spread 24 = .ok (.iload_n 1, 1) ∧ 25 = 24 + 1 := ⟨by decide +kernel, rfl⟩
theorem dX10_spread_25 : decode cX10_spread 25 = .ok (.invokevirtual 379, 3) ∧ 28 = 25 + 3 := ⟨by decide +kernel, rfl⟩
theorem dX10_spread_28 : decode cX10_spread 28 = .ok (.istore_n 2, 1) ∧ 29 = 28 + 1 := ⟨by decide +kernel, rfl⟩
theorem dX10_spread_29 : decode cX10_spread 29 = .ok (.aload_n 0, 1) ∧ 30 = 29 + 1 := ⟨by decide +kernel, rfl⟩
theorem dX10_spread_30 : decode cX10_spread 30 = .ok (.iload_n 1, 1) ∧ 31 = 30 + 1 := ⟨by decide +kernel, rfl⟩
theorem dX10_spread_31 : decode cX10_spread 31 = .ok (.invokevirtual 78, 3) ∧ 34 = 31 + 3 := ⟨by decide +kernel, rfl⟩
theorem dX10_spread_34 : decode cX10_spread 34 = .ok (.lstore_n 3, 1) ∧ 35 = 34 + 1 := ⟨by decide +kernel, rfl⟩
theorem dX10_spread_35 : decode cX10_spread 35 = .ok (.lload_n 3, 1) ∧ 36 = 35 + 1 := ⟨by decide +kernel, rfl⟩
theorem dX10_spread_36 : decode cX10_spread 36 = .ok (.lstore 5, 2) ∧ 38 = 36 + 2 := ⟨by decide +kernel, rfl⟩
theorem dX10_spread_38 : decode cX10_spread 38 = .ok (.iconst 0, 1) ∧ 39 = 38 + 1 := ⟨by decide +kernel, rfl⟩
theorem dX10_spread_39 : decode cX10_spread 39 = .ok (.istore 7, 2) ∧ 41 = 39 + 2 := ⟨by decide +kernel, rfl⟩
theorem dX10_spread_41 : decode cX10_spread 41 = .ok (.iload 7, 2) ∧ 43 = 41 + 2 := ⟨by decide +kernel, rfl⟩
theorem dX10_spread_43 : decode cX10_spread 43 = .ok (.aload_n 0, 1) ∧ 44 = 43 + 1 := ⟨by decide +kernel, rfl⟩
theorem dX10_spread_44 : decode cX10_spread 44 = .ok (.iconst 0, 1) ∧ 45 = 44 + 1 := ⟨by decide +kernel, rfl⟩
theorem dX10_spread_45 : decode cX10_spread 45 = .ok (.invokevirtual 93, 3) ∧ 48 = 45 + 3 := ⟨by decide +kernel, rfl⟩
theorem dX10_spread_48 : decode cX10_spread 48 = .ok (.if_icmp .ge 45, 3) ∧ 51 = 48 + 3 := ⟨by decide +kernel, rfl⟩
theorem dX10_spread_51 : decode cX10_spread 51 = .ok (.iload_n 2, 1) ∧ 52 = 51 + 1 := ⟨by decide +kernel, rfl⟩
theorem dX10_spread_52 : decode cX10_spread 52 = .ok (.iload 7, 2) ∧ 54 = 52 + 2 := ⟨by decide +kernel, rfl⟩
theorem dX10_spread_54 : decode cX10_spread 54 = .ok (.ishr, 1) ∧ 55 = 54 + 1 := ⟨by decide +kernel, rfl⟩
theorem dX10_spread_55 : decode cX10_spread 55 = .ok (.iconst 1, 1) ∧ 56 = 55 + 1 := ⟨by decide +kernel, rfl⟩
theorem dX10_spread_56 : decode cX10_spread 56 = .ok (.iand, 1) ∧ 57 = 56 + 1 := ⟨by decide +kernel, rfl⟩
theorem dX10_spread_57 : decode cX10_spread 57 = .ok (.ifCond .ne 6, 3) ∧ 60 = 57 + 3 := ⟨by decide +kernel, rfl⟩
theorem dX10_spread_60 : decode cX10_spread 60 = .ok (.goto 27, 3) ∧ 63 = 60 + 3 := ⟨by decide +kernel, rfl⟩
theorem dX10_spread_63 : decode cX10_spread 63 = .ok (.lload_n 3, 1) ∧ 64 = 63 + 1 := ⟨by decide +kernel, rfl⟩
theorem dX10_spread_64 : decode cX10_spread 64 = .ok (.aload_n 0, 1) ∧ 65 = 64 + 1 := ⟨by decide +kernel, rfl⟩
theorem dX10_spread_65 : decode cX10_spread 65 = .ok (.iload 7, 2) ∧ 67 = 65 + 2 := ⟨by decide +kernel, rfl⟩
theorem dX10_spread_67 : decode cX10_spread 67 = .ok (.invokevirtual 78, 3) ∧ 70 = 67 + 3 := ⟨by decide +kernel, rfl⟩
theorem dX10_spread_70 : decode cX10_spread 70 = .ok (.invokestatic 111, 3) ∧ 73 = 70 + 3 := ⟨by decide +kernel, rfl⟩
theorem dX10_spread_73 : decode cX10_spread 73 = .ok (.lstore_n 3, 1) ∧ 74 = 73 + 1 := ⟨by decide +kernel, rfl⟩
theorem dX10_spread_74 : decode cX10_spread 74 = .ok (.lload 5, 2) ∧ 76 = 74 + 2 := ⟨by decide +kernel, rfl⟩
theorem dX10_spread_76 : decode cX10_spread 76 = .ok (.aload_n 0, 1) ∧ 77 = 76 + 1 := ⟨by decide +kernel, rfl⟩
theorem dX10_spread_77 : decode cX10_spread 77 = .ok (.iload 7, 2) ∧ 79 = 77 + 2 := ⟨by decide +kernel, rfl⟩
theorem dX10_spread_79 : decode cX10_spread 79 = .ok (.invokevirtual 78, 3) ∧ 82 = 79 + 3 := ⟨by decide +kernel, rfl⟩
theorem dX10_spread_82 : decode cX10_spread 82 = .ok (.invokestatic 386, 3) ∧ 85 = 82 + 3 := ⟨by decide +kernel, rfl⟩
theorem dX10_spread_85 : decode cX10_spread 85 = .ok (.lstore 5, 2) ∧ 87 = 85 + 2 := ⟨by decide +kernel, rfl⟩
theorem dX10_spread_87 : decode cX10_spread 87 = .ok (.iinc 7 1, 3) ∧ 90 = 87 + 3 := ⟨by decide +kernel, rfl⟩
theorem dX10_spread_90 : decode cX10_spread 90 = .ok (.goto (-49), 3) ∧ 93 = 90 + 3 := ⟨by decide +kernel, rfl⟩
theorem dX10_spread_93 : decode cX10_spread 93 = .ok (.lload 5, 2) ∧ 95 = 93 + 2 := ⟨by decide +kernel, rfl⟩
theorem dX10_spread_95 : decode cX10_spread 95 = .ok (.lload_n 3, 1) ∧ 96 = 95 + 1 := ⟨by decide +kernel, rfl⟩
theorem dX10_spread_96 : decode cX10_spread 96 = .ok (.lsub, 1) ∧ 97 = 96 + 1 := ⟨by decide +kernel, rfl⟩
theorem dX10_spread_97 : decode cX10_spread 97 = .ok (.l2i, 1) ∧ 98 = 97 + 1 := ⟨by decide +kernel, rfl⟩
theorem dX10_spread_98 : decode cX10_spread 98 = .ok (.ireturn, 1) ∧ 99 = 98 + 1 := ⟨by decide +kernel, rfl⟩
theorem dX10_isIsolated_0 : decode cX10_isIsolated 0 = .ok (.aload_n 0, 1) ∧ 1 = 0 + 1 := ⟨by decide +kernel, rfl⟩
theorem dX10_isIsolated_1 : decode cX10_isIsolated 1 = .ok (.aload_n 0, 1) ∧ 2 = 1 + 1 := ⟨by decide +kernel, rfl⟩
theorem dX10_isIsolated_2 : decode cX10_isIsolated 2 = .ok (.iload_n 1, 1) ∧ 3 = 2 + 1 := ⟨by decide +kernel, rfl⟩
theorem dX10_isIsolated_3 : decode cX10_isIsolated 3 = .ok (.invokevirtual 179, 3) ∧ 6 = 3 + 3 := ⟨by decide +kernel, rfl⟩
theorem dX10_isIsolated_6 : decode cX10_isIsolated 6 = .ok (.ifCond .ne 7, 3) ∧ 9 = 6 + 3 := ⟨by decide +kernel, rfl⟩
theorem dX10_isIsolated_9 : decode cX10_isIsolated 9 = .ok (.iconst 1, 1) ∧ 10 = 9 + 1 := ⟨by decide +kernel, rfl⟩
theorem dX10_isIsolated_10 : decode cX10_isIsolated 10 = .ok (.goto 4, 3) ∧ 13 = 10 + 3 := ⟨by decide +kernel, rfl⟩
theorem dX10_isIsolated_13 : decode cX10_isIsolated 13 = .ok (.iconst 0, 1) ∧ 14 = 13 + 1 := ⟨by decide +kernel, rfl⟩
theorem dX10_isIsolated_14 : decode cX10_isIsolated 14 = .ok (.iconst 1, 1) ∧ 15 = 14 + 1 := ⟨by decide +kernel, rfl⟩
theorem dX10_isIsolated_15 : decode cX10_isIsolated 15 = .ok (.invokevirtual 151, 3) ∧ 18 = 15 + 3 := ⟨by decide +kernel, rfl⟩
theorem dX10_isIsolated_18 : decode cX10_isIsolated 18 = .ok (.ifCond .ne 15, 3) ∧ 21 = 18 + 3 := ⟨by decide +kernel, rfl⟩
theorem dX10_isIsolated_21 : decode cX10_isIsolated 21 = .ok (.aload_n 0, 1) ∧ 22 = 21 + 1 := ⟨by decide +kernel, rfl⟩
theorem dX10_isIsolated_22 : decode cX10_isIsolated 22 = .ok (.iload_n 1, 1) ∧ 23 = 22 + 1 := ⟨by decide +kernel, rfl⟩
theorem dX10_isIsolated_23 : decode cX10_isIsolated 23 = .ok (.invokevirtual 217, 3) ∧ 26 = 23 + 3 := ⟨by decide +kernel, rfl⟩
theorem dX10_isIsolated_26 : decode cX10_isIsolated 26 = .ok (.ifCond .eq 7, 3) ∧ 29 = 26 + 3 := ⟨by decide +kernel, rfl⟩
theorem dX10_isIsolated_29 : decode cX10_isIsolated 29 = .ok (.iconst 1, 1) ∧ 30 = 29 + 1 := ⟨by decide +kernel, rfl⟩
theorem dX10_isIsolated_30 : decode cX10_isIsolated 30 = .ok (.goto 4, 3) ∧ 33 = 30 + 3 := ⟨by decide +kernel, rfl⟩
theorem dX10_isIsolated_33 : decode cX10_isIsolated 33 = .ok (.iconst 0, 1) ∧ 34 = 33 + 1 := ⟨by decide +kernel, rfl⟩
theorem dX10_isIsolated_34 : decode cX10_isIsolated 34 = .ok (.ireturn, 1) ∧ 35 = 34 + 1 := ⟨by decide +kernel, rfl⟩
theorem dX10_fewestValves_0 : decode cX10_fewestValves 0 = .ok (.aload_n 0, 1) ∧ 1 = 0 + 1 := ⟨by decide +kernel, rfl⟩
theorem dX10_fewestValves_1 : decode cX10_fewestValves 1 = .ok (.aload_n 0, 1) ∧ 2 = 1 + 1 := ⟨by decide +kernel, rfl⟩
theorem dX10_fewestValves_2 : decode cX10_fewestValves 2 = .ok (.iload_n 1, 1) ∧ 3 = 2 + 1 := ⟨by decide +kernel, rfl⟩
theorem dX10_fewestValves_3 : decode cX10_fewestValves 3 = .ok (.invokevirtual 179, 3) ∧ 6 = 3 + 3 := ⟨by decide +kernel, rfl⟩
theorem dX10_fewestValves_6 : decode cX10_fewestValves 6 = .ok (.ifCond .ne 7, 3) ∧ 9 = 6 + 3 := ⟨by decide +kernel, rfl⟩
theorem dX10_fewestValves_9 : decode cX10_fewestValves 9 = .ok (.iconst 1, 1) ∧ 10 = 9 + 1 := ⟨by decide +kernel, rfl⟩
theorem dX10_fewestValves_10 : decode cX10_fewestValves 10 = .ok (.goto 4, 3) ∧ 13 = 10 + 3 := ⟨by decide +kernel, rfl⟩
theorem dX10_fewestValves_13 : decode cX10_fewestValves 13 = .ok (.iconst 0, 1) ∧ 14 = 13 + 1 := ⟨by decide +kernel, rfl⟩
theorem dX10_fewestValves_14 : decode cX10_fewestValves 14 = .ok (.iconst 1, 1) ∧ 15 = 14 + 1 := ⟨by decide +kernel, rfl⟩
theorem dX10_fewestValves_15 : decode cX10_fewestValves 15 = .ok (.invokevirtual 151, 3) ∧ 18 = 15 + 3 := ⟨by decide +kernel, rfl⟩
theorem dX10_fewestValves_18 : decode cX10_fewestValves 18 = .ok (.ifCond .ne 29, 3) ∧ 21 = 18 + 3 := ⟨by decide +kernel, rfl⟩
theorem dX10_fewestValves_21 : decode cX10_fewestValves 21 = .ok (.aload_n 0, 1) ∧ 22 = 21 + 1 := ⟨by decide +kernel, rfl⟩
theorem dX10_fewestValves_22 : decode cX10_fewestValves 22 = .ok (.iload_n 2, 1) ∧ 23 = 22 + 1 := ⟨by decide +kernel, rfl⟩
theorem dX10_fewestValves_23 : decode cX10_fewestValves 23 = .ok (.iconst (-1), 1) ∧ 24 = 23 + 1 := ⟨by decide +kernel, rfl⟩
theorem dX10_fewestValves_24 : decode cX10_fewestValves 24 = .ok (.if_icmp .eq 15, 3) ∧ 27 = 24 + 3 := ⟨by decide +kernel, rfl⟩
theorem dX10_fewestValves_27 : decode cX10_fewestValves 27 = .ok (.aload_n 0, 1) ∧ 28 = 27 + 1 := ⟨by decide +kernel, rfl⟩
theorem dX10_fewestValves_28 : decode cX10_fewestValves 28 = .ok (.iload_n 2, 1) ∧ 29 = 28 + 1 := ⟨by decide +kernel, rfl⟩
theorem dX10_fewestValves_29 : decode cX10_fewestValves 29 = .ok (.invokevirtual 179, 3) ∧ 32 = 29 + 3 := ⟨by decide +kernel, rfl⟩
theorem dX10_fewestValves_32 : decode cX10_fewestValves 32 = .ok (.ifCond .ne 7, 3) ∧ 35 = 32 + 3 := ⟨by decide +kernel, rfl⟩
theorem dX10_fewestValves_35 : decode cX10_fewestValves 35 = .ok (.iconst 1, 1) ∧ 36 = 35 + 1 := ⟨by decide +kernel, rfl⟩
theorem dX10_fewestValves_36 : decode cX10_fewestValves 36 = .ok (.goto 4, 3) ∧ 39 = 36 + 3 := ⟨by decide +kernel, rfl⟩
theorem dX10_fewestValves_39 : decode cX10_fewestValves 39 = .ok (.iconst 0, 1) ∧ 40 = 39 + 1 := ⟨by decide +kernel, rfl⟩
theorem dX10_fewestValves_40 : decode cX10_fewestValves 40 = .ok (.iconst 2, 1) ∧ 41 = 40 + 1 := ⟨by decide +kernel, rfl⟩
theorem dX10_fewestValves_41 : decode cX10_fewestValves 41 = .ok (.invokevirtual 151, 3) ∧ 44 = 41 + 3 := ⟨by decide +kernel, rfl⟩
theorem dX10_fewestValves_44 : decode cX10_fewestValves 44 = .ok (.ifCond .eq 5, 3) ∧ 47 = 44 + 3 := ⟨by decide +kernel, rfl⟩
theorem dX10_fewestValves_47 : decode cX10_fewestValves 47 = .ok (.iconst 0, 1) ∧ 48 = 47 + 1 := ⟨by decide +kernel, rfl⟩
theorem dX10_fewestValves_48 : decode cX10_fewestValves 48 = .ok (.ireturn, 1) ∧ 49 = 48 + 1 := ⟨by decide +kernel, rfl⟩
theorem dX10_fewestValves_49 : decode cX10_fewestValves 49 = .ok (.iconst 1, 1) ∧ 50 = 49 + 1 := ⟨by decide +kernel, rfl⟩
theorem dX10_fewestValves_50 : decode cX10_fewestValves 50 = .ok (.iload_n 1, 1) ∧ 51 = 50 + 1 := ⟨by decide +kernel, rfl⟩
theorem dX10_fewestValves_51 : decode cX10_fewestValves 51 = .ok (.ishl, 1) ∧ 52 = 51 + 1 := ⟨by decide +kernel, rfl⟩
theorem dX10_fewestValves_52 : decode cX10_fewestValves 52 = .ok (.istore_n 3, 1) ∧ 53 = 52 + 1 := ⟨by decide +kernel, rfl⟩
theorem dX10_fewestValves_53 : decode cX10_fewestValves 53 = .ok (.iconst 0, 1) ∧ 54 = 53 + 1 := ⟨by decide +kernel, rfl⟩
theorem dX10_fewestValves_54 : decode cX10_fewestValves 54 = .ok (.istore 4, 2) ∧ 56 = 54 + 2 := ⟨by decide +kernel, rfl⟩
theorem dX10_fewestValves_56 : decode cX10_fewestValves 56 = .ok (.iload 4, 2) ∧ 58 = 56 + 2 := ⟨by decide +kernel, rfl⟩
theorem dX10_fewestValves_58 : decode cX10_fewestValves 58 = .ok (.bipush 8, 2) ∧ 60 = 58 + 2 := ⟨by decide +kernel, rfl⟩
theorem dX10_fewestValves_60 : decode cX10_fewestValves 60 = .ok (.if_icmp .gt 52, 3) ∧ 63 = 60 + 3 := ⟨by decide +kernel, rfl⟩
theorem dX10_fewestValves_63 : decode cX10_fewestValves 63 = .ok (.iload_n 2, 1) ∧ 64 = 63 + 1 := ⟨by decide +kernel, rfl⟩
theorem dX10_fewestValves_64 : decode cX10_fewestValves 64 = .ok (.iconst (-1), 1) ∧ 65 = 64 + 1 := ⟨by decide +kernel, rfl⟩
theorem dX10_fewestValves_65 : decode cX10_fewestValves 65 = .ok (.if_icmp .eq 15, 3) ∧ 68 = 65 + 3 := ⟨by decide +kernel, rfl⟩
theorem dX10_fewestValves_68 : decode cX10_fewestValves 68 = .ok (.iload_n 3, 1) ∧ 69 = 68 + 1 := ⟨by decide +kernel, rfl⟩
theorem dX10_fewestValves_69 : decode cX10_fewestValves 69 = .ok (.iload_n 2, 1) ∧ 70 = 69 + 1 := ⟨by decide +kernel, rfl⟩
theorem dX10_fewestValves_70 : decode cX10_fewestValves 70 = .ok (.ishr, 1) ∧ 71 = 70 + 1 := ⟨by decide +kernel, rfl⟩
theorem dX10_fewestValves_71 : decode cX10_fewestValves 71 = .ok (.iconst 1, 1) ∧ 72 = 71 + 1 := ⟨by decide +kernel, rfl⟩
theorem dX10_fewestValves_72 : decode cX10_fewestValves 72 = .ok (.iand, 1) ∧ 73 = 72 + 1 := ⟨by decide +kernel, rfl⟩
theorem dX10_fewestValves_73 : decode cX10_fewestValves 73 = .ok (.iconst 1, 1) ∧ 74 = 73 + 1 := ⟨by decide +kernel, rfl⟩
theorem dX10_fewestValves_74 : decode cX10_fewestValves 74 = .ok (.if_icmp .ne 6, 3) ∧ 77 = 74 + 3 := ⟨by decide +kernel, rfl⟩
theorem dX10_fewestValves_77 : decode cX10_fewestValves 77 = .ok (.iload 4, 2) ∧ 79 = 77 + 2 := ⟨by decide +kernel, rfl⟩
theorem dX10_fewestValves_79 : decode cX10_fewestValves 79 = .ok (.ireturn, 1) ∧ 80 = 79 + 1 := ⟨by decide +kernel, rfl⟩
theorem dX10_fewestValves_80 : decode cX10_fewestValves 80 = .ok (.iload_n 2, 1) ∧ 81 = 80 + 1 := ⟨by decide +kernel, rfl⟩
theorem dX10_fewestValves_81 : decode cX10_fewestValves 81 = .ok (.iconst (-1), 1) ∧ 82 = 81 + 1 := ⟨by decide +kernel, rfl⟩
theorem dX10_fewestValves_82 : decode cX10_fewestValves 82 = .ok (.if_icmp .ne 17, 3) ∧ 85 = 82 + 3 := ⟨by decide +kernel, rfl⟩
theorem dX10_fewestValves_85 : decode cX10_fewestValves 85 = .ok (.aload_n 0, 1) ∧ 86 = 85 + 1 := ⟨by decide +kernel, rfl⟩
theorem dX10_fewestValves_86 : decode cX10_fewestValves 86 = .ok (.iload_n 3, 1) ∧ 87 = 86 + 1 := ⟨by decide +kernel, rfl⟩
theorem dX10_fewestValves_87 : decode cX10_fewestValves 87 = .ok (.iconst 1, 1) ∧ 88 = 87 + 1 := ⟨by decide +kernel, rfl⟩
theorem dX10_fewestValves_88 : decode cX10_fewestValves 88 = .ok (.invokevirtual 382, 3) ∧ 91 = 88 + 3 := ⟨by decide +kernel, rfl⟩
theorem dX10_fewestValves_91 : decode cX10_fewestValves 91 = .ok (.ifCond .eq 8, 3) ∧ 94 = 91 + 3 := ⟨by decide +kernel, rfl⟩
theorem dX10_fewestValves_94 : decode cX10_fewestValves 94 = .ok (.iload 4, 2) ∧ 96 = 94 + 2 := ⟨by decide +kernel, rfl⟩
theorem dX10_fewestValves_96 : decode cX10_fewestValves 96 = .ok (.iconst 1, 1) ∧ 97 = 96 + 1 := ⟨by decide +kernel, rfl⟩
theorem dX10_fewestValves_97 : decode cX10_fewestValves 97 = .ok (.iadd, 1) ∧ 98 = 97 + 1 := ⟨by decide +kernel, rfl⟩
theorem dX10_fewestValves_98 : decode cX10_fewestValves 98 = .ok (.ireturn, 1) ∧ 99 = 98 + 1 := ⟨by decide +kernel, rfl⟩
theorem dX10_fewestValves_99 : decode cX10_fewestValves 99 = .ok (.aload_n 0, 1) ∧ 100 = 99 + 1 := ⟨by decide +kernel, rfl⟩
theorem dX10_fewestValves_100 : decode cX10_fewestValves 100 = .ok (.iload_n 3, 1) ∧ 101 = 100 + 1 := ⟨by decide +kernel, rfl⟩
theorem dX10_fewestValves_101 : decode cX10_fewestValves 101 = .ok (.iconst 1, 1) ∧ 102 = 101 + 1 := ⟨by decide +kernel, rfl⟩
theorem dX10_fewestValves_102 : decode cX10_fewestValves 102 = .ok (.invokevirtual 375, 3) ∧ 105 = 102 + 3 := ⟨by decide +kernel, rfl⟩
theorem dX10_fewestValves_105 : decode cX10_fewestValves 105 = .ok (.istore_n 3, 1) ∧ 106 = 105 + 1 := ⟨by decide +kernel, rfl⟩
theorem dX10_fewestValves_106 : decode cX10_fewestValves 106 = .ok (.iinc 4 1, 3) ∧ 109 = 106 + 3 := ⟨by decide +kernel, rfl⟩
theorem dX10_fewestValves_109 : decode cX10_fewestValves 109 = .ok (.goto (-53), 3) ∧ 112 = 109 + 3 := ⟨by decide +kernel, rfl⟩
theorem dX10_fewestValves_112 : decode cX10_fewestValves 112 = .ok (.iconst (-1), 1) ∧ 113 = 112 + 1 := ⟨by decide +kernel, rfl⟩
theorem dX10_fewestValves_113 : decode cX10_fewestValves 113 = .ok (.ireturn, 1) ∧ 114 = 113 + 1 := ⟨by decide +kernel, rfl⟩
theorem dX10_settled_0 : decode cX10_settled 0 = .ok (.aload_n 0, 1) ∧ 1 = 0 + 1 := ⟨by decide +kernel, rfl⟩
theorem dX10_settled_1 : decode cX10_settled 1 = .ok (.aload_n 0, 1) ∧ 2 = 1 + 1 := ⟨by decide +kernel, rfl⟩
theorem dX10_settled_2 : decode cX10_settled 2 = .ok (.iload_n 1, 1) ∧ 3 = 2 + 1 := ⟨by decide +kernel, rfl⟩
theorem dX10_settled_3 : decode cX10_settled 3 = .ok (.invokevirtual 179, 3) ∧ 6 = 3 + 3 := ⟨by decide +kernel, rfl⟩
theorem dX10_settled_6 : decode cX10_settled 6 = .ok (.ifCond .ne 7, 3) ∧ 9 = 6 + 3 := ⟨by decide +kernel, rfl⟩
theorem dX10_settled_9 : decode cX10_settled 9 = .ok (.iconst 1, 1) ∧ 10 = 9 + 1 := ⟨by decide +kernel, rfl⟩
theorem dX10_settled_10 : decode cX10_settled 10 = .ok (.goto 4, 3) ∧ 13 = 10 + 3 := ⟨by decide +kernel, rfl⟩
theorem dX10_settled_13 : decode cX10_settled 13 = .ok (.iconst 0, 1) ∧ 14 = 13 + 1 := ⟨by decide +kernel, rfl⟩
theorem dX10_settled_14 : decode cX10_settled 14 = .ok (.iconst 1, 1) ∧ 15 = 14 + 1 := ⟨by decide +kernel, rfl⟩
theorem dX10_settled_15 : decode cX10_settled 15 = .ok (.invokevirtual 151, 3) ∧ 18 = 15 + 3 := ⟨by decide +kernel, rfl⟩
theorem dX10_settled_18 : decode cX10_settled 18 = .ok (.ifCond .eq 5, 3) ∧ 21 = 18 + 3 := ⟨by decide +kernel, rfl⟩
theorem dX10_settled_21 : decode cX10_settled 21 = .ok (.iconst 0, 1) ∧ 22 = 21 + 1 := ⟨by decide +kernel, rfl⟩
theorem dX10_settled_22 : decode cX10_settled 22 = .ok (.ireturn, 1) ∧ 23 = 22 + 1 := ⟨by decide +kernel, rfl⟩
theorem dX10_settled_23 : decode cX10_settled 23 = .ok (.aload_n 0, 1) ∧ 24 = 23 + 1 := ⟨by decide +kernel, rfl⟩
theorem dX10_settled_24 : decode cX10_settled 24 = .ok (.iload_n 1, 1) ∧ 25 = 24 + 1 := ⟨by decide +kernel, rfl⟩
theorem dX10_settled_25 : decode cX10_settled 25 = .ok (.invokevirtual 379, 3) ∧ 28 = 25 + 3 := ⟨by decide +kernel, rfl⟩
theorem dX10_settled_28 : decode cX10_settled 28 = .ok (.istore_n 2, 1) ∧ 29 = 28 + 1 := ⟨by decide +kernel, rfl⟩
theorem dX10_settled_29 : decode cX10_settled 29 = .ok (.lconst 0, 1) ∧ 30 = 29 + 1 := ⟨by decide +kernel, rfl⟩
theorem dX10_settled_30 : decode cX10_settled 30 = .ok (.lstore_n 3, 1) ∧ 31 = 30 + 1 := ⟨by decide +kernel, rfl⟩
theorem dX10_settled_31 : decode cX10_settled 31 = .ok (.lconst 0, 1) ∧ 32 = 31 + 1 := ⟨by decide +kernel, rfl⟩
theorem dX10_settled_32 : decode cX10_settled 32 = .ok (.lstore 5, 2) ∧ 34 = 32 + 2 := ⟨by decide +kernel, rfl⟩
theorem dX10_settled_34 : decode cX10_settled 34 = .ok (.iconst 0, 1) ∧ 35 = 34 + 1 := ⟨by decide +kernel, rfl⟩
theorem dX10_settled_35 : decode cX10_settled 35 = .ok (.istore 7, 2) ∧ 37 = 35 + 2 := ⟨by decide +kernel, rfl⟩
theorem dX10_settled_37 : decode cX10_settled 37 = .ok (.iload 7, 2) ∧ 39 = 37 + 2 := ⟨by decide +kernel, rfl⟩
theorem dX10_settled_39 : decode cX10_settled 39 = .ok (.aload_n 0, 1) ∧ 40 = 39 + 1 := ⟨by decide +kernel, rfl⟩
theorem dX10_settled_40 : decode cX10_settled 40 = .ok (.iconst 0, 1) ∧ 41 = 40 + 1 := ⟨by decide +kernel, rfl⟩
theorem dX10_settled_41 : decode cX10_settled 41 = .ok (.invokevirtual 93, 3) ∧ 44 = 41 + 3 := ⟨by decide +kernel, rfl⟩
theorem dX10_settled_44 : decode cX10_settled 44 = .ok (.if_icmp .ge 63, 3) ∧ 47 = 44 + 3 := ⟨by decide +kernel, rfl⟩
theorem dX10_settled_47 : decode cX10_settled 47 = .ok (.lload_n 3, 1) ∧ 48 = 47 + 1 := ⟨by decide +kernel, rfl⟩
theorem dX10_settled_48 : decode cX10_settled 48 = .ok (.iload_n 2, 1) ∧ 49 = 48 + 1 := ⟨by decide +kernel, rfl⟩
theorem dX10_settled_49 : decode cX10_settled 49 = .ok (.iload 7, 2) ∧ 51 = 49 + 2 := ⟨by decide +kernel, rfl⟩
theorem dX10_settled_51 : decode cX10_settled 51 = .ok (.ishr, 1) ∧ 52 = 51 + 1 := ⟨by decide +kernel, rfl⟩
theorem dX10_settled_52 : decode cX10_settled 52 = .ok (.iconst 1, 1) ∧ 53 = 52 + 1 := ⟨by decide +kernel, rfl⟩
theorem dX10_settled_53 : decode cX10_settled 53 = .ok (.iand, 1) ∧ 54 = 53 + 1 := ⟨by decide +kernel, rfl⟩
theorem dX10_settled_54 : decode cX10_settled 54 = .ok (.iconst 1, 1) ∧ 55 = 54 + 1 := ⟨by decide +kernel, rfl⟩
theorem dX10_settled_55 : decode cX10_settled 55 = .ok (.if_icmp .ne 18, 3) ∧ 58 = 55 + 3 := ⟨by decide +kernel, rfl⟩
theorem dX10_settled_58 : decode cX10_settled 58 = .ok (.aload_n 0, 1) ∧ 59 = 58 + 1 := ⟨by decide +kernel, rfl⟩
theorem dX10_settled_59 : decode cX10_settled 59 = .ok (.getfield 7, 3) ∧ 62 = 59 + 3 := ⟨by decide +kernel, rfl⟩
theorem dX10_settled_62 : decode cX10_settled 62 = .ok (.iload 7, 2) ∧ 64 = 62 + 2 := ⟨by decide +kernel, rfl⟩
theorem dX10_settled_64 : decode cX10_settled 64 = .ok (.invokestatic 61, 3) ∧ 67 = 64 + 3 := ⟨by decide +kernel, rfl⟩
theorem dX10_settled_67 : decode cX10_settled 67 = .ok (.iconst 3, 1) ∧ 68 = 67 + 1 := ⟨by decide +kernel, rfl⟩
theorem dX10_settled_68 : decode cX10_settled 68 = .ok (.iadd, 1) ∧ 69 = 68 + 1 := ⟨by decide +kernel, rfl⟩
theorem dX10_settled_69 : decode cX10_settled 69 = .ok (.laload, 1) ∧ 70 = 69 + 1 := ⟨by decide +kernel, rfl⟩
theorem dX10_settled_70 : decode cX10_settled 70 = .ok (.goto 4, 3) ∧ 73 = 70 + 3 := ⟨by decide +kernel, rfl⟩
theorem dX10_settled_73 : decode cX10_settled 73 = .ok (.lconst 0, 1) ∧ 74 = 73 + 1 := ⟨by decide +kernel, rfl⟩
theorem dX10_settled_74 : decode cX10_settled 74 = .ok (.ladd, 1) ∧ 75 = 74 + 1 := ⟨by decide +kernel, rfl⟩
theorem dX10_settled_75 : decode cX10_settled 75 = .ok (.lstore_n 3, 1) ∧ 76 = 75 + 1 := ⟨by decide +kernel, rfl⟩
theorem dX10_settled_76 : decode cX10_settled 76 = .ok (.lload 5, 2) ∧ 78 = 76 + 2 := ⟨by decide +kernel, rfl⟩
theorem dX10_settled_78 : decode cX10_settled 78 = .ok (.iload_n 2, 1) ∧ 79 = 78 + 1 := ⟨by decide +kernel, rfl⟩
theorem dX10_settled_79 : decode cX10_settled 79 = .ok (.iload 7, 2) ∧ 81 = 79 + 2 := ⟨by decide +kernel, rfl⟩
theorem dX10_settled_81 : decode cX10_settled 81 = .ok (.ishr, 1) ∧ 82 = 81 + 1 := ⟨by decide +kernel, rfl⟩
theorem dX10_settled_82 : decode cX10_settled 82 = .ok (.iconst 1, 1) ∧ 83 = 82 + 1 := ⟨by decide +kernel, rfl⟩
theorem dX10_settled_83 : decode cX10_settled 83 = .ok (.iand, 1) ∧ 84 = 83 + 1 := ⟨by decide +kernel, rfl⟩
theorem dX10_settled_84 : decode cX10_settled 84 = .ok (.iconst 1, 1) ∧ 85 = 84 + 1 := ⟨by decide +kernel, rfl⟩
theorem dX10_settled_85 : decode cX10_settled 85 = .ok (.if_icmp .ne 12, 3) ∧ 88 = 85 + 3 := ⟨by decide +kernel, rfl⟩
theorem dX10_settled_88 : decode cX10_settled 88 = .ok (.aload_n 0, 1) ∧ 89 = 88 + 1 := ⟨by decide +kernel, rfl⟩
theorem dX10_settled_89 : decode cX10_settled 89 = .ok (.iload 7, 2) ∧ 91 = 89 + 2 := ⟨by decide +kernel, rfl⟩
theorem dX10_settled_91 : decode cX10_settled 91 = .ok (.invokevirtual 64, 3) ∧ 94 = 91 + 3 := ⟨by decide +kernel, rfl⟩
theorem dX10_settled_94 : decode cX10_settled 94 = .ok (.goto 4, 3) ∧ 97 = 94 + 3 := ⟨by decide +kernel, rfl⟩
theorem dX10_settled_97 : decode cX10_settled 97 = .ok (.lconst 0, 1) ∧ 98 = 97 + 1 := ⟨by decide +kernel, rfl⟩
theorem dX10_settled_98 : decode cX10_settled 98 = .ok (.ladd, 1) ∧ 99 = 98 + 1 := ⟨by decide +kernel, rfl⟩
theorem dX10_settled_99 : decode cX10_settled 99 = .ok (.lstore 5, 2) ∧ 101 = 99 + 2 := ⟨by decide +kernel, rfl⟩
theorem dX10_settled_101 : decode cX10_settled 101 = .ok (.iinc 7 1, 3) ∧ 104 = 101 + 3 := ⟨by decide +kernel, rfl⟩
theorem dX10_settled_104 : decode cX10_settled 104 = .ok (.goto (-67), 3) ∧ 107 = 104 + 3 := ⟨by decide +kernel, rfl⟩
theorem dX10_settled_107 : decode cX10_settled 107 = .ok (.lload_n 3, 1) ∧ 108 = 107 + 1 := ⟨by decide +kernel, rfl⟩
theorem dX10_settled_108 : decode cX10_settled 108 = .ok (.lload 5, 2) ∧ 110 = 108 + 2 := ⟨by decide +kernel, rfl⟩
theorem dX10_settled_110 : decode cX10_settled 110 = .ok (.ldiv, 1) ∧ 111 = 110 + 1 := ⟨by decide +kernel, rfl⟩
theorem dX10_settled_111 : decode cX10_settled 111 = .ok (.l2i, 1) ∧ 112 = 111 + 1 := ⟨by decide +kernel, rfl⟩
theorem dX10_settled_112 : decode cX10_settled 112 = .ok (.ireturn, 1) ∧ 113 = 112 + 1 := ⟨by decide +kernel, rfl⟩
theorem dX10_openable_0 : decode cX10_openable 0 = .ok (.aload_n 0, 1) ∧ 1 = 0 + 1 := ⟨by decide +kernel, rfl⟩
theorem dX10_openable_1 : decode cX10_openable 1 = .ok (.iconst 0, 1) ∧ 2 = 1 + 1 := ⟨by decide +kernel, rfl⟩
theorem dX10_openable_2 : decode cX10_openable 2 = .ok (.putfield 36, 3) ∧ 5 = 2 + 3 := ⟨by decide +kernel, rfl⟩
theorem dX10_openable_5 : decode cX10_openable 5 = .ok (.iconst 0, 1) ∧ 6 = 5 + 1 := ⟨by decide +kernel, rfl⟩
theorem dX10_openable_6 : decode cX10_openable 6 = .ok (.istore_n 1, 1) ∧ 7 = 6 + 1 := ⟨by decide +kernel, rfl⟩
theorem dX10_openable_7 : decode cX10_openable 7 = .ok (.iconst 0, 1) ∧ 8 = 7 + 1 := ⟨by decide +kernel, rfl⟩
theorem dX10_openable_8 : decode cX10_openable 8 = .ok (.istore_n 2, 1) ∧ 9 = 8 + 1 := ⟨by decide +kernel, rfl⟩
theorem dX10_openable_9 : decode cX10_openable 9 = .ok (.iload_n 2, 1) ∧ 10 = 9 + 1 := ⟨by decide +kernel, rfl⟩
theorem dX10_openable_10 : decode cX10_openable 10 = .ok (.aload_n 0, 1) ∧ 11 = 10 + 1 := ⟨by decide +kernel, rfl⟩
theorem dX10_openable_11 : decode cX10_openable 11 = .ok (.iconst 2, 1) ∧ 12 = 11 + 1 := ⟨by decide +kernel, rfl⟩
theorem dX10_openable_12 : decode cX10_openable 12 = .ok (.invokevirtual 93, 3) ∧ 15 = 12 + 3 := ⟨by decide +kernel, rfl⟩
theorem dX10_openable_15 : decode cX10_openable 15 = .ok (.if_icmp .ge 27, 3) ∧ 18 = 15 + 3 := ⟨by decide +kernel, rfl⟩
theorem dX10_openable_18 : decode cX10_openable 18 = .ok (.iload_n 1, 1) ∧ 19 = 18 + 1 := ⟨by decide +kernel, rfl⟩
theorem dX10_openable_19 : decode cX10_openable 19 = .ok (.aload_n 0, 1) ∧ 20 = 19 + 1 := ⟨by decide +kernel, rfl⟩
theorem dX10_openable_20 : decode cX10_openable 20 = .ok (.iload_n 2, 1) ∧ 21 = 20 + 1 := ⟨by decide +kernel, rfl⟩
theorem dX10_openable_21 : decode cX10_openable 21 = .ok (.invokevirtual 155, 3) ∧ 24 = 21 + 3 := ⟨by decide +kernel, rfl⟩
theorem dX10_openable_24 : decode cX10_openable 24 = .ok (.ifCond .eq 9, 3) ∧ 27 = 24 + 3 := ⟨by decide +kernel, rfl⟩
theorem dX10_openable_27 : decode cX10_openable 27 = .ok (.iconst 1, 1) ∧ 28 = 27 + 1 := ⟨by decide +kernel, rfl⟩
theorem dX10_openable_28 : decode cX10_openable 28 = .ok (.iload_n 2, 1) ∧ 29 = 28 + 1 := ⟨by decide +kernel, rfl⟩
theorem dX10_openable_29 : decode cX10_openable 29 = .ok (.ishl, 1) ∧ 30 = 29 + 1 := ⟨by decide +kernel, rfl⟩
theorem dX10_openable_30 : decode cX10_openable 30 = .ok (.goto 4, 3) ∧ 33 = 30 + 3 := ⟨by decide +kernel, rfl⟩
theorem dX10_openable_33 : decode cX10_openable 33 = .ok (.iconst 0, 1) ∧ 34 = 33 + 1 := ⟨by decide +kernel, rfl⟩
theorem dX10_openable_34 : decode cX10_openable 34 = .ok (.ior, 1) ∧ 35 = 34 + 1 := ⟨by decide +kernel, rfl⟩
theorem dX10_openable_35 : decode cX10_openable 35 = .ok (.istore_n 1, 1) ∧ 36 = 35 + 1 := ⟨by decide +kernel, rfl⟩
theorem dX10_openable_36 : decode cX10_openable 36 = .ok (.iinc 2 1, 3) ∧ 39 = 36 + 3 := ⟨by decide +kernel, rfl⟩
theorem dX10_openable_39 : decode cX10_openable 39 = .ok (.goto (-30), 3) ∧ 42 = 39 + 3 := ⟨by decide +kernel, rfl⟩
theorem dX10_openable_42 : decode cX10_openable 42 = .ok (.iload_n 1, 1) ∧ 43 = 42 + 1 := ⟨by decide +kernel, rfl⟩
theorem dX10_openable_43 : decode cX10_openable 43 = .ok (.ireturn, 1) ∧ 44 = 43 + 1 := ⟨by decide +kernel, rfl⟩
theorem dX10_widest_0 : decode cX10_widest 0 = .ok (.iconst (-1), 1) ∧ 1 = 0 + 1 := ⟨by decide +kernel, rfl⟩
theorem dX10_widest_1 : decode cX10_widest 1 = .ok (.istore_n 1, 1) ∧ 2 = 1 + 1 := ⟨by decide +kernel, rfl⟩
theorem dX10_widest_2 : decode cX10_widest 2 = .ok (.iconst 0, 1) ∧ 3 = 2 + 1 := ⟨by decide +kernel, rfl⟩
theorem dX10_widest_3 : decode cX10_widest 3 = .ok (.istore_n 2, 1) ∧ 4 = 3 + 1 := ⟨by decide +kernel, rfl⟩
theorem dX10_widest_4 : decode cX10_widest 4 = .ok (.iload_n 2, 1) ∧ 5 = 4 + 1 := ⟨by decide +kernel, rfl⟩
theorem dX10_widest_5 : decode cX10_widest 5 = .ok (.aload_n 0, 1) ∧ 6 = 5 + 1 := ⟨by decide +kernel, rfl⟩
theorem dX10_widest_6 : decode cX10_widest 6 = .ok (.iconst 2, 1) ∧ 7 = 6 + 1 := ⟨by decide +kernel, rfl⟩
theorem dX10_widest_7 : decode cX10_widest 7 = .ok (.invokevirtual 93, 3) ∧ 10 = 7 + 3 := ⟨by decide +kernel, rfl⟩
theorem dX10_widest_10 : decode cX10_widest 10 = .ok (.if_icmp .ge 38, 3) ∧ 13 = 10 + 3 := ⟨by decide +kernel, rfl⟩
theorem dX10_widest_13 : decode cX10_widest 13 = .ok (.aload_n 0, 1) ∧ 14 = 13 + 1 := ⟨by decide +kernel, rfl⟩
theorem dX10_widest_14 : decode cX10_widest 14 = .ok (.iload_n 2, 1) ∧ 15 = 14 + 1 := ⟨by decide +kernel, rfl⟩
theorem dX10_widest_15 : decode cX10_widest 15 = .ok (.invokevirtual 99, 3) ∧ 18 = 15 + 3 := ⟨by decide +kernel, rfl⟩
theorem dX10_widest_18 : decode cX10_widest 18 = .ok (.ifCond .ne 24, 3) ∧ 21 = 18 + 3 := ⟨by decide +kernel, rfl⟩
theorem dX10_widest_21 : decode cX10_widest 21 = .ok (.iload_n 1, 1) ∧ 22 = 21 + 1 := ⟨by decide +kernel, rfl⟩
theorem dX10_widest_22 : decode cX10_widest 22 = .ok (.iconst (-1), 1) ∧ 23 = 22 + 1 := ⟨by decide +kernel, rfl⟩
theorem dX10_widest_23 : decode cX10_widest 23 = .ok (.if_icmp .eq 17, 3) ∧ 26 = 23 + 3 := ⟨by decide +kernel, rfl⟩
theorem dX10_widest_26 : decode cX10_widest 26 = .ok (.aload_n 0, 1) ∧ 27 = 26 + 1 := ⟨by decide +kernel, rfl⟩
theorem dX10_widest_27 : decode cX10_widest 27 = .ok (.iload_n 2, 1) ∧ 28 = 27 + 1 := ⟨by decide +kernel, rfl⟩
theorem dX10_widest_28 : decode cX10_widest 28 = .ok (.invokevirtual 90, 3) ∧ 31 = 28 + 3 := ⟨by decide +kernel, rfl⟩
theorem dX10_widest_31 : decode cX10_widest 31 = .ok (.aload_n 0, 1) ∧ 32 = 31 + 1 := ⟨by decide +kernel, rfl⟩
theorem dX10_widest_32 : decode cX10_widest 32 = .ok (.iload_n 1, 1) ∧ 33 = 32 + 1 := ⟨by decide +kernel, rfl⟩
theorem dX10_widest_33 : decode cX10_widest 33 = .ok (.invokevirtual 90, 3) ∧ 36 = 33 + 3 := ⟨by decide +kernel, rfl⟩
theorem dX10_widest_36 : decode cX10_widest 36 = .ok (.lcmp, 1) ∧ 37 = 36 + 1 := ⟨by decide +kernel, rfl⟩
theorem dX10_widest_37 : decode cX10_widest 37 = .ok (.ifCond .le 5, 3) ∧ 40 = 37 + 3 := ⟨by decide +kernel, rfl⟩
theorem dX10_widest_40 : decode cX10_widest 40 = .ok (.iload_n 2, 1) ∧ 41 = 40 + 1 := ⟨by decide +kernel, rfl⟩
theorem dX10_widest_41 : decode cX10_widest 41 = .ok (.istore_n 1, 1) ∧ 42 = 41 + 1 := ⟨by decide +kernel, rfl⟩
theorem dX10_widest_42 : decode cX10_widest 42 = .ok (.iinc 2 1, 3) ∧ 45 = 42 + 3 := ⟨by decide +kernel, rfl⟩
theorem dX10_widest_45 : decode cX10_widest 45 = .ok (.goto (-41), 3) ∧ 48 = 45 + 3 := ⟨by decide +kernel, rfl⟩
theorem dX10_widest_48 : decode cX10_widest 48 = .ok (.aload_n 0, 1) ∧ 49 = 48 + 1 := ⟨by decide +kernel, rfl⟩
theorem dX10_widest_49 : decode cX10_widest 49 = .ok (.iload_n 1, 1) ∧ 50 = 49 + 1 := ⟨by decide +kernel, rfl⟩
theorem dX10_widest_50 : decode cX10_widest 50 = .ok (.iconst (-1), 1) ∧ 51 = 50 + 1 := ⟨by decide +kernel, rfl⟩
theorem dX10_widest_51 : decode cX10_widest 51 = .ok (.if_icmp .ne 7, 3) ∧ 54 = 51 + 3 := ⟨by decide +kernel, rfl⟩
theorem dX10_widest_54 : decode cX10_widest 54 = .ok (.iconst 1, 1) ∧ 55 = 54 + 1 := ⟨by decide +kernel, rfl⟩
theorem dX10_widest_55 : decode cX10_widest 55 = .ok (.goto 4, 3) ∧ 58 = 55 + 3 := ⟨by decide +kernel, rfl⟩
theorem dX10_widest_58 : decode cX10_widest 58 = .ok (.iconst 0, 1) ∧ 59 = 58 + 1 := ⟨by decide +kernel, rfl⟩
theorem dX10_widest_59 : decode cX10_widest 59 = .ok (.iconst 1, 1) ∧ 60 = 59 + 1 := ⟨by decide +kernel, rfl⟩
theorem dX10_widest_60 : decode cX10_widest 60 = .ok (.invokevirtual 151, 3) ∧ 63 = 60 + 3 := ⟨by decide +kernel, rfl⟩
theorem dX10_widest_63 : decode cX10_widest 63 = .ok (.ifCond .eq 7, 3) ∧ 66 = 63 + 3 := ⟨by decide +kernel, rfl⟩
theorem dX10_widest_66 : decode cX10_widest 66 = .ok (.iconst 0, 1) ∧ 67 = 66 + 1 := ⟨by decide +kernel, rfl⟩
theorem dX10_widest_67 : decode cX10_widest 67 = .ok (.goto 4, 3) ∧ 70 = 67 + 3 := ⟨by decide +kernel, rfl⟩
theorem dX10_widest_70 : decode cX10_widest 70 = .ok (.iload_n 1, 1) ∧ 71 = 70 + 1 := ⟨by decide +kernel, rfl⟩
theorem dX10_widest_71 : decode cX10_widest 71 = .ok (.ireturn, 1) ∧ 72 = 71 + 1 := ⟨by decide +kernel, rfl⟩
theorem dX10_isNoLook_0 : decode cX10_isNoLook 0 = .ok (.aload_n 0, 1) ∧ 1 = 0 + 1 := ⟨by decide +kernel, rfl⟩
theorem dX10_isNoLook_1 : decode cX10_isNoLook 1 = .ok (.aload_n 0, 1) ∧ 2 = 1 + 1 := ⟨by decide +kernel, rfl⟩
theorem dX10_isNoLook_2 : decode cX10_isNoLook 2 = .ok (.iload_n 1, 1) ∧ 3 = 2 + 1 := ⟨by decide +kernel, rfl⟩
theorem dX10_isNoLook_3 : decode cX10_isNoLook 3 = .ok (.invokevirtual 179, 3) ∧ 6 = 3 + 3 := ⟨by decide +kernel, rfl⟩
theorem dX10_isNoLook_6 : decode cX10_isNoLook 6 = .ok (.ifCond .ne 7, 3) ∧ 9 = 6 + 3 := ⟨by decide +kernel, rfl⟩
theorem dX10_isNoLook_9 : decode cX10_isNoLook 9 = .ok (.iconst 1, 1) ∧ 10 = 9 + 1 := ⟨by decide +kernel, rfl⟩
theorem dX10_isNoLook_10 : decode cX10_isNoLook 10 = .ok (.goto 4, 3) ∧ 13 = 10 + 3 := ⟨by decide +kernel, rfl⟩
theorem dX10_isNoLook_13 : decode cX10_isNoLook 13 = .ok (.iconst 0, 1) ∧ 14 = 13 + 1 := ⟨by decide +kernel, rfl⟩
theorem dX10_isNoLook_14 : decode cX10_isNoLook 14 = .ok (.iconst 1, 1) ∧ 15 = 14 + 1 := ⟨by decide +kernel, rfl⟩
theorem dX10_isNoLook_15 : decode cX10_isNoLook 15 = .ok (.invokevirtual 151, 3) ∧ 18 = 15 + 3 := ⟨by decide +kernel, rfl⟩
theorem dX10_isNoLook_18 : decode cX10_isNoLook 18 = .ok (.ifCond .ne 23, 3) ∧ 21 = 18 + 3 := ⟨by decide +kernel, rfl⟩
theorem dX10_isNoLook_21 : decode cX10_isNoLook 21 = .ok (.aload_n 0, 1) ∧ 22 = 21 + 1 := ⟨by decide +kernel, rfl⟩
theorem dX10_isNoLook_22 : decode cX10_isNoLook 22 = .ok (.iload_n 2, 1) ∧ 23 = 22 + 1 := ⟨by decide +kernel, rfl⟩
theorem dX10_isNoLook_23 : decode cX10_isNoLook 23 = .ok (.invokestatic 173, 3) ∧ 26 = 23 + 3 := ⟨by decide +kernel, rfl⟩
theorem dX10_isNoLook_26 : decode cX10_isNoLook 26 = .ok (.ifCond .ne 7, 3) ∧ 29 = 26 + 3 := ⟨by decide +kernel, rfl⟩
theorem dX10_isNoLook_29 : decode cX10_isNoLook 29 = .ok (.iconst 1, 1) ∧ 30 = 29 + 1 := ⟨by decide +kernel, rfl⟩
theorem dX10_isNoLook_30 : decode cX10_isNoLook 30 = .ok (.goto 4, 3) ∧ 33 = 30 + 3 := ⟨by decide +kernel, rfl⟩
theorem dX10_isNoLook_33 : decode cX10_isNoLook 33 = .ok (.iconst 0, 1) ∧ 34 = 33 + 1 := ⟨by decide +kernel, rfl⟩
theorem dX10_isNoLook_34 : decode cX10_isNoLook 34 = .ok (.iconst 2, 1) ∧ 35 = 34 + 1 := ⟨by decide +kernel, rfl⟩
theorem dX10_isNoLook_35 : decode cX10_isNoLook 35 = .ok (.invokevirtual 151, 3) ∧ 38 = 35 + 3 := ⟨by decide +kernel, rfl⟩
theorem dX10_isNoLook_38 : decode cX10_isNoLook 38 = .ok (.ifCond .eq 7, 3) ∧ 41 = 38 + 3 := ⟨by decide +kernel, rfl⟩
theorem dX10_isNoLook_41 : decode cX10_isNoLook 41 = .ok (.iconst 1, 1) ∧ 42 = 41 + 1 := ⟨by decide +kernel, rfl⟩
theorem dX10_isNoLook_42 : decode cX10_isNoLook 42 = .ok (.goto 4, 3) ∧ 45 = 42 + 3 := ⟨by decide +kernel, rfl⟩
theorem dX10_isNoLook_45 : decode cX10_isNoLook 45 = .ok (.iconst 0, 1) ∧ 46 = 45 + 1 := ⟨by decide +kernel, rfl⟩
theorem dX10_isNoLook_46 : decode cX10_isNoLook 46 = .ok (.ireturn, 1) ∧ 47 = 46 + 1 := ⟨by decide +kernel, rfl⟩
theorem dX10_think_0 : decode cX10_think 0 = .ok (.aload_n 0, 1) ∧ 1 = 0 + 1 := ⟨by decide +kernel, rfl⟩
theorem dX10_think_1 : decode cX10_think 1 = .ok (.getfield 7, 3) ∧ 4 = 1 + 3 := ⟨by decide +kernel, rfl⟩
theorem dX10_think_4 : decode cX10_think 4 = .ok (.aload_n 0, 1) ∧ 5 = 4 + 1 := ⟨by decide +kernel, rfl⟩
theorem dX10_think_5 : decode cX10_think 5 = .ok (.getfield 16, 3) ∧ 8 = 5 + 3 := ⟨by decide +kernel, rfl⟩
theorem dX10_think_8 : decode cX10_think 8 = .ok (.invokestatic 50, 3) ∧ 11 = 8 + 3 := ⟨by decide +kernel, rfl⟩
theorem dX10_think_11 : decode cX10_think 11 = .ok (.return_, 1) ∧ 12 = 11 + 1 := ⟨by decide +kernel, rfl⟩
theorem dX10_wake_0 : decode cX10_wake 0 = .ok (.aload_n 0, 1) ∧ 1 = 0 + 1 := ⟨by decide +kernel, rfl⟩
theorem dX10_wake_1 : decode cX10_wake 1 = .ok (.getfield 16, 3) ∧ 4 = 1 + 3 := ⟨by decide +kernel, rfl⟩
theorem dX10_wake_4 : decode cX10_wake 4 = .ok (.aload_n 0, 1) ∧ 5 = 4 + 1 := ⟨by decide +kernel, rfl⟩
theorem dX10_wake_5 : decode cX10_wake 5 = .ok (.getfield 7, 3) ∧ 8 = 5 + 3 := ⟨by decide +kernel, rfl⟩
theorem dX10_wake_8 : decode cX10_wake 8 = .ok (.invokestatic 50, 3) ∧ 11 = 8 + 3 := ⟨by decide +kernel, rfl⟩
theorem dX10_wake_11 : decode cX10_wake 11 = .ok (.return_, 1) ∧ 12 = 11 + 1 := ⟨by decide +kernel, rfl⟩
theorem dX10_pressureIn_0 : decode cX10_pressureIn 0 = .ok (.aload_n 0, 1) ∧ 1 = 0 + 1 := ⟨by decide +kernel, rfl⟩
theorem dX10_pressureIn_1 : decode cX10_pressureIn 1 = .ok (.iload_n 2, 1) ∧ 2 = 1 + 1 := ⟨by decide +kernel, rfl⟩
theorem dX10_pressureIn_2 : decode cX10_pressureIn 2 = .ok (.invokevirtual 176, 3) ∧ 5 = 2 + 3 := ⟨by decide +kernel, rfl⟩
theorem dX10_pressureIn_5 : decode cX10_pressureIn 5 = .ok (.istore_n 3, 1) ∧ 6 = 5 + 1 := ⟨by decide +kernel, rfl⟩
theorem dX10_pressureIn_6 : decode cX10_pressureIn 6 = .ok (.aload_n 0, 1) ∧ 7 = 6 + 1 := ⟨by decide +kernel, rfl⟩
theorem dX10_pressureIn_7 : decode cX10_pressureIn 7 = .ok (.iload_n 1, 1) ∧ 8 = 7 + 1 := ⟨by decide +kernel, rfl⟩
theorem dX10_pressureIn_8 : decode cX10_pressureIn 8 = .ok (.invokevirtual 78, 3) ∧ 11 = 8 + 3 := ⟨by decide +kernel, rfl⟩
theorem dX10_pressureIn_11 : decode cX10_pressureIn 11 = .ok (.lreturn, 1) ∧ 12 = 11 + 1 := ⟨by decide +kernel, rfl⟩
theorem dX10_pressureAfter_0 : decode cX10_pressureAfter 0 = .ok (.aload_n 0, 1) ∧ 1 = 0 + 1 := ⟨by decide +kernel, rfl⟩
theorem dX10_pressureAfter_1 : decode cX10_pressureAfter 1 = .ok (.iload_n 1, 1) ∧ 2 = 1 + 1 := ⟨by decide +kernel, rfl⟩
theorem dX10_pressureAfter_2 : decode cX10_pressureAfter 2 = .ok (.iload_n 2, 1) ∧ 3 = 2 + 1 := ⟨by decide +kernel, rfl⟩
theorem dX10_pressureAfter_3 : decode cX10_pressureAfter 3 = .ok (.invokevirtual 389, 3) ∧ 6 = 3 + 3 := ⟨by decide +kernel, rfl⟩
theorem dX10_pressureAfter_6 : decode cX10_pressureAfter 6 = .ok (.ifCond .eq 5, 3) ∧ 9 = 6 + 3 := ⟨by decide +kernel, rfl⟩
theorem dX10_pressureAfter_9 : decode cX10_pressureAfter 9 = .ok (.iconst 0, 1) ∧ 10 = 9 + 1 := ⟨by decide +kernel, rfl⟩
theorem dX10_pressureAfter_10 : decode cX10_pressureAfter 10 = .ok (.ireturn, 1) ∧ 11 = 10 + 1 := ⟨by decide +kernel, rfl⟩
theorem dX10_pressureAfter_11 : decode cX10_pressureAfter 11 = .ok (.aload_n 0, 1) ∧ 12 = 11 + 1 := ⟨by decide +kernel, rfl⟩
theorem dX10_pressureAfter_12 : decode cX10_pressureAfter 12 = .ok (.invokevirtual 393, 3) ∧ 15 = 12 + 3 := ⟨by decide +kernel, rfl⟩
theorem dX10_pressureAfter_15 : decode cX10_pressureAfter 15 = .ok (.aload_n 0, 1) ∧ 16 = 15 + 1 := ⟨by decide +kernel, rfl⟩
theorem dX10_pressureAfter_16 : decode cX10_pressureAfter 16 = .ok (.iload_n 1, 1) ∧ 17 = 16 + 1 := ⟨by decide +kernel, rfl⟩
theorem dX10_pressureAfter_17 : decode cX10_pressureAfter 17 = .ok (.iload_n 2, 1) ∧ 18 = 17 + 1 := ⟨by decide +kernel, rfl⟩
theorem dX10_pressureAfter_18 : decode cX10_pressureAfter 18 = .ok (.invokevirtual 396, 3) ∧ 21 = 18 + 3 := ⟨by decide +kernel, rfl⟩
theorem dX10_pressureAfter_21 : decode cX10_pressureAfter 21 = .ok (.lstore_n 3, 1) ∧ 22 = 21 + 1 := ⟨by decide +kernel, rfl⟩
theorem dX10_pressureAfter_22 : decode cX10_pressureAfter 22 = .ok (.aload_n 0, 1) ∧ 23 = 22 + 1 := ⟨by decide +kernel, rfl⟩
theorem dX10_pressureAfter_23 : decode cX10_pressureAfter 23 = .ok (.invokevirtual 399, 3) ∧ 26 = 23 + 3 := ⟨by decide +kernel, rfl⟩
theorem dX10_pressureAfter_26 : decode cX10_pressureAfter 26 = .ok (.lload_n 3, 1) ∧ 27 = 26 + 1 := ⟨by decide +kernel, rfl⟩
theorem dX10_pressureAfter_27 : decode cX10_pressureAfter 27 = .ok (.l2i, 1) ∧ 28 = 27 + 1 := ⟨by decide +kernel, rfl⟩
theorem dX10_pressureAfter_28 : decode cX10_pressureAfter 28 = .ok (.ireturn, 1) ∧ 29 = 28 + 1 := ⟨by decide +kernel, rfl⟩
theorem dX10_lowest_0 : decode cX10_lowest 0 = .ok (.aload_n 0, 1) ∧ 1 = 0 + 1 := ⟨by decide +kernel, rfl⟩
theorem dX10_lowest_1 : decode cX10_lowest 1 = .ok (.iload_n 1, 1) ∧ 2 = 1 + 1 := ⟨by decide +kernel, rfl⟩
theorem dX10_lowest_2 : decode cX10_lowest 2 = .ok (.iload_n 2, 1) ∧ 3 = 2 + 1 := ⟨by decide +kernel, rfl⟩
theorem dX10_lowest_3 : decode cX10_lowest 3 = .ok (.invokevirtual 389, 3) ∧ 6 = 3 + 3 := ⟨by decide +kernel, rfl⟩
theorem dX10_lowest_6 : decode cX10_lowest 6 = .ok (.ifCond .eq 5, 3) ∧ 9 = 6 + 3 := ⟨by decide +kernel, rfl⟩
theorem dX10_lowest_9 : decode cX10_lowest 9 = .ok (.iconst 0, 1) ∧ 10 = 9 + 1 := ⟨by decide +kernel, rfl⟩
theorem dX10_lowest_10 : decode cX10_lowest 10 = .ok (.ireturn, 1) ∧ 11 = 10 + 1 := ⟨by decide +kernel, rfl⟩
theorem dX10_lowest_11 : decode cX10_lowest 11 = .ok (.aload_n 0, 1) ∧ 12 = 11 + 1 := ⟨by decide +kernel, rfl⟩
theorem dX10_lowest_12 : decode cX10_lowest 12 = .ok (.invokevirtual 393, 3) ∧ 15 = 12 + 3 := ⟨by decide +kernel, rfl⟩
theorem dX10_lowest_15 : decode cX10_lowest 15 = .ok (.aload_n 0, 1) ∧ 16 = 15 + 1 := ⟨by decide +kernel, rfl⟩
theorem dX10_lowest_16 : decode cX10_lowest 16 = .ok (.iload_n 1, 1) ∧ 17 = 16 + 1 := ⟨by decide +kernel, rfl⟩
theorem dX10_lowest_17 : decode cX10_lowest 17 = .ok (.invokevirtual 78, 3) ∧ 20 = 17 + 3 := ⟨by decide +kernel, rfl⟩
theorem dX10_lowest_20 : decode cX10_lowest 20 = .ok (.lstore_n 3, 1) ∧ 21 = 20 + 1 := ⟨by decide +kernel, rfl⟩
theorem dX10_lowest_21 : decode cX10_lowest 21 = .ok (.iconst 0, 1) ∧ 22 = 21 + 1 := ⟨by decide +kernel, rfl⟩
theorem dX10_lowest_22 : decode cX10_lowest 22 = .ok (.istore 5, 2) ∧ 24 = 22 + 2 := ⟨by decide +kernel, rfl⟩
theorem dX10_lowest_24 : decode cX10_lowest 24 = .ok (.iload 5, 2) ∧ 26 = 24 + 2 := ⟨by decide +kernel, rfl⟩
theorem dX10_lowest_26 : decode cX10_lowest 26 = .ok (.iload_n 2, 1) ∧ 27 = 26 + 1 := ⟨by decide +kernel, rfl⟩
theorem dX10_lowest_27 : decode cX10_lowest 27 = .ok (.if_icmp .ge 20, 3) ∧ 30 = 27 + 3 := ⟨by decide +kernel, rfl⟩
theorem dX10_lowest_30 : decode cX10_lowest 30 = .ok (.lload_n 3, 1) ∧ 31 = 30 + 1 := ⟨by decide +kernel, rfl⟩
theorem dX10_lowest_31 : decode cX10_lowest 31 = .ok (.aload_n 0, 1) ∧ 32 = 31 + 1 := ⟨by decide +kernel, rfl⟩
theorem dX10_lowest_32 : decode cX10_lowest 32 = .ok (.iload_n 1, 1) ∧ 33 = 32 + 1 := ⟨by decide +kernel, rfl⟩
theorem dX10_lowest_33 : decode cX10_lowest 33 = .ok (.iconst 1, 1) ∧ 34 = 33 + 1 := ⟨by decide +kernel, rfl⟩
theorem dX10_lowest_34 : decode cX10_lowest 34 = .ok (.invokevirtual 396, 3) ∧ 37 = 34 + 3 := ⟨by decide +kernel, rfl⟩
theorem dX10_lowest_37 : decode cX10_lowest 37 = .ok (.invokestatic 111, 3) ∧ 40 = 37 + 3 := ⟨by decide +kernel, rfl⟩
theorem dX10_lowest_40 : decode cX10_lowest 40 = .ok (.lstore_n 3, 1) ∧ 41 = 40 + 1 := ⟨by decide +kernel, rfl⟩
theorem dX10_lowest_41 : decode cX10_lowest 41 = .ok (.iinc 5 1, 3) ∧ 44 = 41 + 3 := ⟨by decide +kernel, rfl⟩
theorem dX10_lowest_44 : decode cX10_lowest 44 = .ok (.goto (-20), 3) ∧ 47 = 44 + 3 := ⟨by decide +kernel, rfl⟩
theorem dX10_lowest_47 : decode cX10_lowest 47 = .ok (.aload_n 0, 1) ∧ 48 = 47 + 1 := ⟨by decide +kernel, rfl⟩
theorem dX10_lowest_48 : decode cX10_lowest 48 = .ok (.invokevirtual 399, 3) ∧ 51 = 48 + 3 := ⟨by decide +kernel, rfl⟩
theorem dX10_lowest_51 : decode cX10_lowest 51 = .ok (.lload_n 3, 1) ∧ 52 = 51 + 1 := ⟨by decide +kernel, rfl⟩
theorem dX10_lowest_52 : decode cX10_lowest 52 = .ok (.l2i, 1) ∧ 53 = 52 + 1 := ⟨by decide +kernel, rfl⟩
theorem dX10_lowest_53 : decode cX10_lowest 53 = .ok (.ireturn, 1) ∧ 54 = 53 + 1 := ⟨by decide +kernel, rfl⟩
theorem dX10_ticksTo_0 : decode cX10_ticksTo 0 = .ok (.aload_n 0, 1) ∧ 1 = 0 + 1 := ⟨by decide +kernel, rfl⟩
theorem dX10_ticksTo_1 : decode cX10_ticksTo 1 = .ok (.aload_n 0, 1) ∧ 2 = 1 + 1 := ⟨by decide +kernel, rfl⟩
theorem dX10_ticksTo_2 : decode cX10_ticksTo 2 = .ok (.iload_n 1, 1) ∧ 3 = 2 + 1 := ⟨by decide +kernel, rfl⟩
theorem dX10_ticksTo_3 : decode cX10_ticksTo 3 = .ok (.invokevirtual 179, 3) ∧ 6 = 3 + 3 := ⟨by decide +kernel, rfl⟩
theorem dX10_ticksTo_6 : decode cX10_ticksTo 6 = .ok (.ifCond .ne 7, 3) ∧ 9 = 6 + 3 := ⟨by decide +kernel, rfl⟩
theorem dX10_ticksTo_9 : decode cX10_ticksTo 9 = .ok (.iconst 1, 1) ∧ 10 = 9 + 1 := ⟨by decide +kernel, rfl⟩
theorem dX10_ticksTo_10 : decode cX10_ticksTo 10 = .ok (.goto 4, 3) ∧ 13 = 10 + 3 := ⟨by decide +kernel, rfl⟩
theorem dX10_ticksTo_13 : decode cX10_ticksTo 13 = .ok (.iconst 0, 1) ∧ 14 = 13 + 1 := ⟨by decide +kernel, rfl⟩
theorem dX10_ticksTo_14 : decode cX10_ticksTo 14 = .ok (.iconst 1, 1) ∧ 15 = 14 + 1 := ⟨by decide +kernel, rfl⟩
theorem dX10_ticksTo_15 : decode cX10_ticksTo 15 = .ok (.invokevirtual 151, 3) ∧ 18 = 15 + 3 := ⟨by decide +kernel, rfl⟩
theorem dX10_ticksTo_18 : decode cX10_ticksTo 18 = .ok (.ifCond .ne 23, 3) ∧ 21 = 18 + 3 := ⟨by decide +kernel, rfl⟩
theorem dX10_ticksTo_21 : decode cX10_ticksTo 21 = .ok (.aload_n 0, 1) ∧ 22 = 21 + 1 := ⟨by decide +kernel, rfl⟩
theorem dX10_ticksTo_22 : decode cX10_ticksTo 22 = .ok (.iload_n 2, 1) ∧ 23 = 22 + 1 := ⟨by decide +kernel, rfl⟩
theorem dX10_ticksTo_23 : decode cX10_ticksTo 23 = .ok (.invokestatic 182, 3) ∧ 26 = 23 + 3 := ⟨by decide +kernel, rfl⟩
theorem dX10_ticksTo_26 : decode cX10_ticksTo 26 = .ok (.ifCond .ne 7, 3) ∧ 29 = 26 + 3 := ⟨by decide +kernel, rfl⟩
theorem dX10_ticksTo_29 : decode cX10_ticksTo 29 = .ok (.iconst 1, 1) ∧ 30 = 29 + 1 := ⟨by decide +kernel, rfl⟩
theorem dX10_ticksTo_30 : decode cX10_ticksTo 30 = .ok (.goto 4, 3) ∧ 33 = 30 + 3 := ⟨by decide +kernel, rfl⟩
theorem dX10_ticksTo_33 : decode cX10_ticksTo 33 = .ok (.iconst 0, 1) ∧ 34 = 33 + 1 := ⟨by decide +kernel, rfl⟩
theorem dX10_ticksTo_34 : decode cX10_ticksTo 34 = .ok (.iconst 2, 1) ∧ 35 = 34 + 1 := ⟨by decide +kernel, rfl⟩
theorem dX10_ticksTo_35 : decode cX10_ticksTo 35 = .ok (.invokevirtual 151, 3) ∧ 38 = 35 + 3 := ⟨by decide +kernel, rfl⟩
theorem dX10_ticksTo_38 : decode cX10_ticksTo 38 = .ok (.ifCond .eq 5, 3) ∧ 41 = 38 + 3 := ⟨by decide +kernel, rfl⟩
theorem dX10_ticksTo_41 : decode cX10_ticksTo 41 = .ok (.iconst 0, 1) ∧ 42 = 41 + 1 := ⟨by decide +kernel, rfl⟩
theorem dX10_ticksTo_42 : decode cX10_ticksTo 42 = .ok (.ireturn, 1) ∧ 43 = 42 + 1 := ⟨by decide +kernel, rfl⟩
theorem dX10_ticksTo_43 : decode cX10_ticksTo 43 = .ok (.aload_n 0, 1) ∧ 44 = 43 + 1 := ⟨by decide +kernel, rfl⟩
theorem dX10_ticksTo_44 : decode cX10_ticksTo 44 = .ok (.invokevirtual 393, 3) ∧ 47 = 44 + 3 := ⟨by decide +kernel, rfl⟩
theorem dX10_ticksTo_47 : decode cX10_ticksTo 47 = .ok (.aload_n 0, 1) ∧ 48 = 47 + 1 := ⟨by decide +kernel, rfl⟩
theorem dX10_ticksTo_48 : decode cX10_ticksTo 48 = .ok (.iload_n 1, 1) ∧ 49 = 48 + 1 := ⟨by decide +kernel, rfl⟩
theorem dX10_ticksTo_49 : decode cX10_ticksTo 49 = .ok (.iload_n 2, 1) ∧ 50 = 49 + 1 := ⟨by decide +kernel, rfl⟩
theorem dX10_ticksTo_50 : decode cX10_ticksTo 50 = .ok (.invokevirtual 185, 3) ∧ 53 = 50 + 3 := ⟨by decide +kernel, rfl⟩
theorem dX10_ticksTo_53 : decode cX10_ticksTo 53 = .ok (.istore_n 3, 1) ∧ 54 = 53 + 1 := ⟨by decide +kernel, rfl⟩
theorem dX10_ticksTo_54 : decode cX10_ticksTo 54 = .ok (.aload_n 0, 1) ∧ 55 = 54 + 1 := ⟨by decide +kernel, rfl⟩
theorem dX10_ticksTo_55 : decode cX10_ticksTo 55 = .ok (.invokevirtual 399, 3) ∧ 58 = 55 + 3 := ⟨by decide +kernel, rfl⟩
theorem dX10_ticksTo_58 : decode cX10_ticksTo 58 = .ok (.aload_n 0, 1) ∧ 59 = 58 + 1 := ⟨by decide +kernel, rfl⟩
theorem dX10_ticksTo_59 : decode cX10_ticksTo 59 = .ok (.iload_n 3, 1) ∧ 60 = 59 + 1 := ⟨by decide +kernel, rfl⟩
theorem dX10_ticksTo_60 : decode cX10_ticksTo 60 = .ok (.iconst (-1), 1) ∧ 61 = 60 + 1 := ⟨by decide +kernel, rfl⟩
theorem dX10_ticksTo_61 : decode cX10_ticksTo 61 = .ok (.if_icmp .ne 7, 3) ∧ 64 = 61 + 3 := ⟨by decide +kernel, rfl⟩
theorem dX10_ticksTo_64 : decode cX10_ticksTo 64 = .ok (.iconst 1, 1) ∧ 65 = 64 + 1 := ⟨by decide +kernel, rfl⟩
theorem dX10_ticksTo_65 : decode cX10_ticksTo 65 = .ok (.goto 4, 3) ∧ 68 = 65 + 3 := ⟨by decide +kernel, rfl⟩
theorem dX10_ticksTo_68 : decode cX10_ticksTo 68 = .ok (.iconst 0, 1) ∧ 69 = 68 + 1 := ⟨by decide +kernel, rfl⟩
theorem dX10_ticksTo_69 : decode cX10_ticksTo 69 = .ok (.iconst 3, 1) ∧ 70 = 69 + 1 := ⟨by decide +kernel, rfl⟩
theorem dX10_ticksTo_70 : decode cX10_ticksTo 70 = .ok (.invokevirtual 151, 3) ∧ 73 = 70 + 3 := ⟨by decide +kernel, rfl⟩
theorem dX10_ticksTo_73 : decode cX10_ticksTo 73 = .ok (.ifCond .eq 7, 3) ∧ 76 = 73 + 3 := ⟨by decide +kernel, rfl⟩
theorem dX10_ticksTo_76 : decode cX10_ticksTo 76 = .ok (.iconst 0, 1) ∧ 77 = 76 + 1 := ⟨by decide +kernel, rfl⟩
theorem dX10_ticksTo_77 : decode cX10_ticksTo 77 = .ok (.goto 4, 3) ∧ 80 = 77 + 3 := ⟨by decide +kernel, rfl⟩
theorem dX10_ticksTo_80 : decode cX10_ticksTo 80 = .ok (.iload_n 3, 1) ∧ 81 = 80 + 1 := ⟨by decide +kernel, rfl⟩
theorem dX10_ticksTo_81 : decode cX10_ticksTo 81 = .ok (.ireturn, 1) ∧ 82 = 81 + 1 := ⟨by decide +kernel, rfl⟩
theorem dX10_tripsIn_0 : decode cX10_tripsIn 0 = .ok (.aload_n 0, 1) ∧ 1 = 0 + 1 := ⟨by decide +kernel, rfl⟩
theorem dX10_tripsIn_1 : decode cX10_tripsIn 1 = .ok (.iload_n 1, 1) ∧ 2 = 1 + 1 := ⟨by decide +kernel, rfl⟩
theorem dX10_tripsIn_2 : decode cX10_tripsIn 2 = .ok (.invokestatic 173, 3) ∧ 5 = 2 + 3 := ⟨by decide +kernel, rfl⟩
theorem dX10_tripsIn_5 : decode cX10_tripsIn 5 = .ok (.ifCond .ne 7, 3) ∧ 8 = 5 + 3 := ⟨by decide +kernel, rfl⟩
theorem dX10_tripsIn_8 : decode cX10_tripsIn 8 = .ok (.iconst 1, 1) ∧ 9 = 8 + 1 := ⟨by decide +kernel, rfl⟩
theorem dX10_tripsIn_9 : decode cX10_tripsIn 9 = .ok (.goto 4, 3) ∧ 12 = 9 + 3 := ⟨by decide +kernel, rfl⟩
theorem dX10_tripsIn_12 : decode cX10_tripsIn 12 = .ok (.iconst 0, 1) ∧ 13 = 12 + 1 := ⟨by decide +kernel, rfl⟩
theorem dX10_tripsIn_13 : decode cX10_tripsIn 13 = .ok (.iconst 1, 1) ∧ 14 = 13 + 1 := ⟨by decide +kernel, rfl⟩
theorem dX10_tripsIn_14 : decode cX10_tripsIn 14 = .ok (.invokevirtual 151, 3) ∧ 17 = 14 + 3 := ⟨by decide +kernel, rfl⟩
theorem dX10_tripsIn_17 : decode cX10_tripsIn 17 = .ok (.ifCond .eq 5, 3) ∧ 20 = 17 + 3 := ⟨by decide +kernel, rfl⟩
theorem dX10_tripsIn_20 : decode cX10_tripsIn 20 = .ok (.iconst 0, 1) ∧ 21 = 20 + 1 := ⟨by decide +kernel, rfl⟩
theorem dX10_tripsIn_21 : decode cX10_tripsIn 21 = .ok (.ireturn, 1) ∧ 22 = 21 + 1 := ⟨by decide +kernel, rfl⟩
theorem dX10_tripsIn_22 : decode cX10_tripsIn 22 = .ok (.aload_n 0, 1) ∧ 23 = 22 + 1 := ⟨by decide +kernel, rfl⟩
theorem dX10_tripsIn_23 : decode cX10_tripsIn 23 = .ok (.invokevirtual 393, 3) ∧ 26 = 23 + 3 := ⟨by decide +kernel, rfl⟩
theorem dX10_tripsIn_26 : decode cX10_tripsIn 26 = .ok (.aload_n 0, 1) ∧ 27 = 26 + 1 := ⟨by decide +kernel, rfl⟩
theorem dX10_tripsIn_27 : decode cX10_tripsIn 27 = .ok (.iload_n 1, 1) ∧ 28 = 27 + 1 := ⟨by decide +kernel, rfl⟩
theorem dX10_tripsIn_28 : decode cX10_tripsIn 28 = .ok (.invokevirtual 176, 3) ∧ 31 = 28 + 3 := ⟨by decide +kernel, rfl⟩
theorem dX10_tripsIn_31 : decode cX10_tripsIn 31 = .ok (.istore_n 2, 1) ∧ 32 = 31 + 1 := ⟨by decide +kernel, rfl⟩
theorem dX10_tripsIn_32 : decode cX10_tripsIn 32 = .ok (.aload_n 0, 1) ∧ 33 = 32 + 1 := ⟨by decide +kernel, rfl⟩
theorem dX10_tripsIn_33 : decode cX10_tripsIn 33 = .ok (.invokevirtual 399, 3) ∧ 36 = 33 + 3 := ⟨by decide +kernel, rfl⟩
theorem dX10_tripsIn_36 : decode cX10_tripsIn 36 = .ok (.iload_n 2, 1) ∧ 37 = 36 + 1 := ⟨by decide +kernel, rfl⟩
theorem dX10_tripsIn_37 : decode cX10_tripsIn 37 = .ok (.ireturn, 1) ∧ 38 = 37 + 1 := ⟨by decide +kernel, rfl⟩
theorem dX10_meanPressure_0 : decode cX10_meanPressure 0 = .ok (.aload_n 0, 1) ∧ 1 = 0 + 1 := ⟨by decide +kernel, rfl⟩
theorem dX10_meanPressure_1 : decode cX10_meanPressure 1 = .ok (.iload_n 1, 1) ∧ 2 = 1 + 1 := ⟨by decide +kernel, rfl⟩
theorem dX10_meanPressure_2 : decode cX10_meanPressure 2 = .ok (.iload_n 2, 1) ∧ 3 = 2 + 1 := ⟨by decide +kernel, rfl⟩
theorem dX10_meanPressure_3 : decode cX10_meanPressure 3 = .ok (.invokevirtual 389, 3) ∧ 6 = 3 + 3 := ⟨by decide +kernel, rfl⟩
theorem dX10_meanPressure_6 : decode cX10_meanPressure 6 = .ok (.ifCond .eq 5, 3) ∧ 9 = 6 + 3 := ⟨by decide +kernel, rfl⟩
theorem dX10_meanPressure_9 : decode cX10_meanPressure 9 = .ok (.dconst 0, 1) ∧ 10 = 9 + 1 := ⟨by decide +kernel, rfl⟩
theorem dX10_meanPressure_10 : decode cX10_meanPressure 10 = .ok (.dreturn, 1) ∧ 11 = 10 + 1 := ⟨by decide +kernel, rfl⟩
theorem dX10_meanPressure_11 : decode cX10_meanPressure 11 = .ok (.aload_n 0, 1) ∧ 12 = 11 + 1 := ⟨by decide +kernel, rfl⟩
theorem dX10_meanPressure_12 : decode cX10_meanPressure 12 = .ok (.invokevirtual 393, 3) ∧ 15 = 12 + 3 := ⟨by decide +kernel, rfl⟩
theorem dX10_meanPressure_15 : decode cX10_meanPressure 15 = .ok (.lconst 0, 1) ∧ 16 = 15 + 1 := ⟨by decide +kernel, rfl⟩
theorem dX10_meanPressure_16 : decode cX10_meanPressure 16 = .ok (.lstore_n 3, 1) ∧ 17 = 16 + 1 := ⟨by decide +kernel, rfl⟩
theorem dX10_meanPressure_17 : decode cX10_meanPressure 17 = .ok (.iconst 0, 1) ∧ 18 = 17 + 1 := ⟨by decide +kernel, rfl⟩
theorem dX10_meanPressure_18 : decode cX10_meanPressure 18 = .ok (.istore 5, 2) ∧ 20 = 18 + 2 := ⟨by decide +kernel, rfl⟩
theorem dX10_meanPressure_20 : decode cX10_meanPressure 20 = .ok (.iload 5, 2) ∧ 22 = 20 + 2 := ⟨by decide +kernel, rfl⟩
theorem dX10_meanPressure_22 : decode cX10_meanPressure 22 = .ok (.iload_n 2, 1) ∧ 23 = 22 + 1 := ⟨by decide +kernel, rfl⟩
theorem dX10_meanPressure_23 : decode cX10_meanPressure 23 = .ok (.if_icmp .ge 18, 3) ∧ 26 = 23 + 3 := ⟨by decide +kernel, rfl⟩
theorem dX10_meanPressure_26 : decode cX10_meanPressure 26 = .ok (.lload_n 3, 1) ∧ 27 = 26 + 1 := ⟨by decide +kernel, rfl⟩
theorem dX10_meanPressure_27 : decode cX10_meanPressure 27 = .ok (.aload_n 0, 1) ∧ 28 = 27 + 1 := ⟨by decide +kernel, rfl⟩
theorem dX10_meanPressure_28 : decode cX10_meanPressure 28 = .ok (.iload_n 1, 1) ∧ 29 = 28 + 1 := ⟨by decide +kernel, rfl⟩
theorem dX10_meanPressure_29 : decode cX10_meanPressure 29 = .ok (.iconst 1, 1) ∧ 30 = 29 + 1 := ⟨by decide +kernel, rfl⟩
theorem dX10_meanPressure_30 : decode cX10_meanPressure 30 = .ok (.invokevirtual 396, 3) ∧ 33 = 30 + 3 := ⟨by decide +kernel, rfl⟩
theorem dX10_meanPressure_33 : decode cX10_meanPressure 33 = .ok (.ladd, 1) ∧ 34 = 33 + 1 := ⟨by decide +kernel, rfl⟩
theorem dX10_meanPressure_34 : decode cX10_meanPressure 34 = .ok (.lstore_n 3, 1) ∧ 35 = 34 + 1 := ⟨by decide +kernel, rfl⟩
theorem dX10_meanPressure_35 : decode cX10_meanPressure 35 = .ok (.iinc 5 1, 3) ∧ 38 = 35 + 3 := ⟨by decide +kernel, rfl⟩
theorem dX10_meanPressure_38 : decode cX10_meanPressure 38 = .ok (.goto (-18), 3) ∧ 41 = 38 + 3 := ⟨by decide +kernel, rfl⟩
theorem dX10_meanPressure_41 : decode cX10_meanPressure 41 = .ok (.aload_n 0, 1) ∧ 42 = 41 + 1 := ⟨by decide +kernel, rfl⟩
theorem dX10_meanPressure_42 : decode cX10_meanPressure 42 = .ok (.invokevirtual 399, 3) ∧ 45 = 42 + 3 := ⟨by decide +kernel, rfl⟩
theorem dX10_meanPressure_45 : decode cX10_meanPressure 45 = .ok (.lload_n 3, 1) ∧ 46 = 45 + 1 := ⟨by decide +kernel, rfl⟩
theorem dX10_meanPressure_46 : decode cX10_meanPressure 46 = .ok (.l2d, 1) ∧ 47 = 46 + 1 := ⟨by decide +kernel, rfl⟩
theorem dX10_meanPressure_47 : decode cX10_meanPressure 47 = .ok (.iload_n 2, 1) ∧ 48 = 47 + 1 := ⟨by decide +kernel, rfl⟩
theorem dX10_meanPressure_48 : decode cX10_meanPressure 48 = .ok (.i2d, 1) ∧ 49 = 48 + 1 := ⟨by decide +kernel, rfl⟩
theorem dX10_meanPressure_49 : decode cX10_meanPressure 49 = .ok (.ddiv, 1) ∧ 50 = 49 + 1 := ⟨by decide +kernel, rfl⟩
theorem dX10_meanPressure_50 : decode cX10_meanPressure 50 = .ok (.dreturn, 1) ∧ 51 = 50 + 1 := ⟨by decide +kernel, rfl⟩
theorem dX10_bestPump_0 : decode cX10_bestPump 0 = .ok (.aload_n 0, 1) ∧ 1 = 0 + 1 := ⟨by decide +kernel, rfl⟩
theorem dX10_bestPump_1 : decode cX10_bestPump 1 = .ok (.iload_n 1, 1) ∧ 2 = 1 + 1 := ⟨by decide +kernel, rfl⟩
theorem dX10_bestPump_2 : decode cX10_bestPump 2 = .ok (.iload_n 2, 1) ∧ 3 = 2 + 1 := ⟨by decide +kernel, rfl⟩
theorem dX10_bestPump_3 : decode cX10_bestPump 3 = .ok (.invokevirtual 389, 3) ∧ 6 = 3 + 3 := ⟨by decide +kernel, rfl⟩
theorem dX10_bestPump_6 : decode cX10_bestPump 6 = .ok (.ifCond .eq 5, 3) ∧ 9 = 6 + 3 := ⟨by decide +kernel, rfl⟩
theorem dX10_bestPump_9 : decode cX10_bestPump 9 = .ok (.iconst 0, 1) ∧ 10 = 9 + 1 := ⟨by decide +kernel, rfl⟩
theorem dX10_bestPump_10 : decode cX10_bestPump 10 = .ok (.ireturn, 1) ∧ 11 = 10 + 1 := ⟨by decide +kernel, rfl⟩
theorem dX10_bestPump_11 : decode cX10_bestPump 11 = .ok (.aload_n 0, 1) ∧ 12 = 11 + 1 := ⟨by decide +kernel, rfl⟩
theorem dX10_bestPump_12 : decode cX10_bestPump 12 = .ok (.invokevirtual 393, 3) ∧ 15 = 12 + 3 := ⟨by decide +kernel, rfl⟩
theorem dX10_bestPump_15 : decode cX10_bestPump 15 = .ok (.iconst (-1), 1) ∧ 16 = 15 + 1 := ⟨by decide +kernel, rfl⟩
theorem dX10_bestPump_16 : decode cX10_bestPump 16 = .ok (.istore_n 3, 1) ∧ 17 = 16 + 1 := ⟨by decide +kernel, rfl⟩
theorem dX10_bestPump_17 : decode cX10_bestPump 17 = .ok (.lconst 0, 1) ∧ 18 = 17 + 1 := ⟨by decide +kernel, rfl⟩
theorem dX10_bestPump_18 : decode cX10_bestPump 18 = .ok (.lstore 4, 2) ∧ 20 = 18 + 2 := ⟨by decide +kernel, rfl⟩
theorem dX10_bestPump_20 : decode cX10_bestPump 20 = .ok (.iconst 0, 1) ∧ 21 = 20 + 1 := ⟨by decide +kernel, rfl⟩
theorem dX10_bestPump_21 : decode cX10_bestPump 21 = .ok (.istore 6, 2) ∧ 23 = 21 + 2 := ⟨by decide +kernel, rfl⟩
theorem dX10_bestPump_23 : decode cX10_bestPump 23 = .ok (.iload 6, 2) ∧ 25 = 23 + 2 := ⟨by decide +kernel, rfl⟩
theorem dX10_bestPump_25 : decode cX10_bestPump 25 = .ok (.aload_n 0, 1) ∧ 26 = 25 + 1 := ⟨by decide +kernel, rfl⟩
theorem dX10_bestPump_26 : decode cX10_bestPump 26 = .ok (.iconst 1, 1) ∧ 27 = 26 + 1 := ⟨by decide +kernel, rfl⟩
theorem dX10_bestPump_27 : decode cX10_bestPump 27 = .ok (.invokevirtual 93, 3) ∧ 30 = 27 + 3 := ⟨by decide +kernel, rfl⟩
theorem dX10_bestPump_30 : decode cX10_bestPump 30 = .ok (.if_icmp .ge 65, 3) ∧ 33 = 30 + 3 := ⟨by decide +kernel, rfl⟩
theorem dX10_bestPump_33 : decode cX10_bestPump 33 = .ok (.aload_n 0, 1) ∧ 34 = 33 + 1 := ⟨by decide +kernel, rfl⟩
theorem dX10_bestPump_34 : decode cX10_bestPump 34 = .ok (.iload 6, 2) ∧ 36 = 34 + 2 := ⟨by decide +kernel, rfl⟩
theorem dX10_bestPump_36 : decode cX10_bestPump 36 = .ok (.invokevirtual 167, 3) ∧ 39 = 36 + 3 := ⟨by decide +kernel, rfl⟩
theorem dX10_bestPump_39 : decode cX10_bestPump 39 = .ok (.ifCond .ne 6, 3) ∧ 42 = 39 + 3 := ⟨by decide +kernel, rfl⟩
theorem dX10_bestPump_42 : decode cX10_bestPump 42 = .ok (.goto 47, 3) ∧ 45 = 42 + 3 := ⟨by decide +kernel, rfl⟩
theorem dX10_bestPump_45 : decode cX10_bestPump 45 = .ok (.aload_n 0, 1) ∧ 46 = 45 + 1 := ⟨by decide +kernel, rfl⟩
theorem dX10_bestPump_46 : decode cX10_bestPump 46 = .ok (.iload 6, 2) ∧ 48 = 46 + 2 := ⟨by decide +kernel, rfl⟩
theorem dX10_bestPump_48 : decode cX10_bestPump 48 = .ok (.iconst 1, 1) ∧ 49 = 48 + 1 := ⟨by decide +kernel, rfl⟩
theorem dX10_bestPump_49 : decode cX10_bestPump 49 = .ok (.invokevirtual 170, 3) ∧ 52 = 49 + 3 := ⟨by decide +kernel, rfl⟩
theorem dX10_bestPump_52 : decode cX10_bestPump 52 = .ok (.istore 7, 2) ∧ 54 = 52 + 2 := ⟨by decide +kernel, rfl⟩
theorem dX10_bestPump_54 : decode cX10_bestPump 54 = .ok (.aload_n 0, 1) ∧ 55 = 54 + 1 := ⟨by decide +kernel, rfl⟩
theorem dX10_bestPump_55 : decode cX10_bestPump 55 = .ok (.iload_n 1, 1) ∧ 56 = 55 + 1 := ⟨by decide +kernel, rfl⟩
theorem dX10_bestPump_56 : decode cX10_bestPump 56 = .ok (.iload_n 2, 1) ∧ 57 = 56 + 1 := ⟨by decide +kernel, rfl⟩
theorem dX10_bestPump_57 : decode cX10_bestPump 57 = .ok (.invokevirtual 396, 3) ∧ 60 = 57 + 3 := ⟨by decide +kernel, rfl⟩
theorem dX10_bestPump_60 : decode cX10_bestPump 60 = .ok (.lstore 8, 2) ∧ 62 = 60 + 2 := ⟨by decide +kernel, rfl⟩
theorem dX10_bestPump_62 : decode cX10_bestPump 62 = .ok (.aload_n 0, 1) ∧ 63 = 62 + 1 := ⟨by decide +kernel, rfl⟩
theorem dX10_bestPump_63 : decode cX10_bestPump 63 = .ok (.invokevirtual 399, 3) ∧ 66 = 63 + 3 := ⟨by decide +kernel, rfl⟩
theorem dX10_bestPump_66 : decode cX10_bestPump 66 = .ok (.iload_n 3, 1) ∧ 67 = 66 + 1 := ⟨by decide +kernel, rfl⟩
theorem dX10_bestPump_67 : decode cX10_bestPump 67 = .ok (.iconst (-1), 1) ∧ 68 = 67 + 1 := ⟨by decide +kernel, rfl⟩
theorem dX10_bestPump_68 : decode cX10_bestPump 68 = .ok (.if_icmp .eq 14, 3) ∧ 71 = 68 + 3 := ⟨by decide +kernel, rfl⟩
theorem dX10_bestPump_71 : decode cX10_bestPump 71 = .ok (.lload 8, 2) ∧ 73 = 71 + 2 := ⟨by decide +kernel, rfl⟩
theorem dX10_bestPump_73 : decode cX10_bestPump 73 = .ok (.lload 4, 2) ∧ 75 = 73 + 2 := ⟨by decide +kernel, rfl⟩
theorem dX10_bestPump_75 : decode cX10_bestPump 75 = .ok (.lcmp, 1) ∧ 76 = 75 + 1 := ⟨by decide +kernel, rfl⟩
theorem dX10_bestPump_76 : decode cX10_bestPump 76 = .ok (.ifCond .lt 6, 3) ∧ 79 = 76 + 3 := ⟨by decide +kernel, rfl⟩
theorem dX10_bestPump_79 : decode cX10_bestPump 79 = .ok (.goto 10, 3) ∧ 82 = 79 + 3 := ⟨by decide +kernel, rfl⟩
theorem dX10_bestPump_82 : decode cX10_bestPump 82 = .ok (.iload 6, 2) ∧ 84 = 82 + 2 := ⟨by decide +kernel, rfl⟩
theorem dX10_bestPump_84 : decode cX10_bestPump 84 = .ok (.istore_n 3, 1) ∧ 85 = 84 + 1 := ⟨by decide +kernel, rfl⟩
theorem dX10_bestPump_85 : decode cX10_bestPump 85 = .ok (.lload 8, 2) ∧ 87 = 85 + 2 := ⟨by decide +kernel, rfl⟩
theorem dX10_bestPump_87 : decode cX10_bestPump 87 = .ok (.lstore 4, 2) ∧ 89 = 87 + 2 := ⟨by decide +kernel, rfl⟩
theorem dX10_bestPump_89 : decode cX10_bestPump 89 = .ok (.iinc 6 1, 3) ∧ 92 = 89 + 3 := ⟨by decide +kernel, rfl⟩
theorem dX10_bestPump_92 : decode cX10_bestPump 92 = .ok (.goto (-69), 3) ∧ 95 = 92 + 3 := ⟨by decide +kernel, rfl⟩
theorem dX10_bestPump_95 : decode cX10_bestPump 95 = .ok (.aload_n 0, 1) ∧ 96 = 95 + 1 := ⟨by decide +kernel, rfl⟩
theorem dX10_bestPump_96 : decode cX10_bestPump 96 = .ok (.iload_n 3, 1) ∧ 97 = 96 + 1 := ⟨by decide +kernel, rfl⟩
theorem dX10_bestPump_97 : decode cX10_bestPump 97 = .ok (.iconst (-1), 1) ∧ 98 = 97 + 1 := ⟨by decide +kernel, rfl⟩
theorem dX10_bestPump_98 : decode cX10_bestPump 98 = .ok (.if_icmp .ne 7, 3) ∧ 101 = 98 + 3 := ⟨by decide +kernel, rfl⟩
theorem dX10_bestPump_101 : decode cX10_bestPump 101 = .ok (.iconst 1, 1) ∧ 102 = 101 + 1 := ⟨by decide +kernel, rfl⟩
theorem dX10_bestPump_102 : decode cX10_bestPump 102 = .ok (.goto 4, 3) ∧ 105 = 102 + 3 := ⟨by decide +kernel, rfl⟩
theorem dX10_bestPump_105 : decode cX10_bestPump 105 = .ok (.iconst 0, 1) ∧ 106 = 105 + 1 := ⟨by decide +kernel, rfl⟩
theorem dX10_bestPump_106 : decode cX10_bestPump 106 = .ok (.iconst 3, 1) ∧ 107 = 106 + 1 := ⟨by decide +kernel, rfl⟩
theorem dX10_bestPump_107 : decode cX10_bestPump 107 = .ok (.invokevirtual 151, 3) ∧ 110 = 107 + 3 := ⟨by decide +kernel, rfl⟩
theorem dX10_bestPump_110 : decode cX10_bestPump 110 = .ok (.ifCond .eq 7, 3) ∧ 113 = 110 + 3 := ⟨by decide +kernel, rfl⟩
theorem dX10_bestPump_113 : decode cX10_bestPump 113 = .ok (.iconst 0, 1) ∧ 114 = 113 + 1 := ⟨by decide +kernel, rfl⟩
theorem dX10_bestPump_114 : decode cX10_bestPump 114 = .ok (.goto 4, 3) ∧ 117 = 114 + 3 := ⟨by decide +kernel, rfl⟩
theorem dX10_bestPump_117 : decode cX10_bestPump 117 = .ok (.iload_n 3, 1) ∧ 118 = 117 + 1 := ⟨by decide +kernel, rfl⟩
theorem dX10_bestPump_118 : decode cX10_bestPump 118 = .ok (.ireturn, 1) ∧ 119 = 118 + 1 := ⟨by decide +kernel, rfl⟩
theorem dX10_bestValve_0 : decode cX10_bestValve 0 = .ok (.aload_n 0, 1) ∧ 1 = 0 + 1 := ⟨by decide +kernel, rfl⟩
theorem dX10_bestValve_1 : decode cX10_bestValve 1 = .ok (.iload_n 1, 1) ∧ 2 = 1 + 1 := ⟨by decide +kernel, rfl⟩
theorem dX10_bestValve_2 : decode cX10_bestValve 2 = .ok (.iload_n 2, 1) ∧ 3 = 2 + 1 := ⟨by decide +kernel, rfl⟩
theorem dX10_bestValve_3 : decode cX10_bestValve 3 = .ok (.invokevirtual 389, 3) ∧ 6 = 3 + 3 := ⟨by decide +kernel, rfl⟩
theorem dX10_bestValve_6 : decode cX10_bestValve 6 = .ok (.ifCond .eq 5, 3) ∧ 9 = 6 + 3 := ⟨by decide +kernel, rfl⟩
theorem dX10_bestValve_9 : decode cX10_bestValve 9 = .ok (.iconst 0, 1) ∧ 10 = 9 + 1 := ⟨by decide +kernel, rfl⟩
theorem dX10_bestValve_10 : decode cX10_bestValve 10 = .ok (.ireturn, 1) ∧ 11 = 10 + 1 := ⟨by decide +kernel, rfl⟩
theorem dX10_bestValve_11 : decode cX10_bestValve 11 = .ok (.aload_n 0, 1) ∧ 12 = 11 + 1 := ⟨by decide +kernel, rfl⟩
theorem dX10_bestValve_12 : decode cX10_bestValve 12 = .ok (.invokevirtual 393, 3) ∧ 15 = 12 + 3 := ⟨by decide +kernel, rfl⟩
theorem dX10_bestValve_15 : decode cX10_bestValve 15 = .ok (.iconst (-1), 1) ∧ 16 = 15 + 1 := ⟨by decide +kernel, rfl⟩
theorem dX10_bestValve_16 : decode cX10_bestValve 16 = .ok (.istore_n 3, 1) ∧ 17 = 16 + 1 := ⟨by decide +kernel, rfl⟩
theorem dX10_bestValve_17 : decode cX10_bestValve 17 = .ok (.lconst 0, 1) ∧ 18 = 17 + 1 := ⟨by decide +kernel, rfl⟩
theorem dX10_bestValve_18 : decode cX10_bestValve 18 = .ok (.lstore 4, 2) ∧ 20 = 18 + 2 := ⟨by decide +kernel, rfl⟩
theorem dX10_bestValve_20 : decode cX10_bestValve 20 = .ok (.iconst 0, 1) ∧ 21 = 20 + 1 := ⟨by decide +kernel, rfl⟩
theorem dX10_bestValve_21 : decode cX10_bestValve 21 = .ok (.istore 6, 2) ∧ 23 = 21 + 2 := ⟨by decide +kernel, rfl⟩
theorem dX10_bestValve_23 : decode cX10_bestValve 23 = .ok (.iload 6, 2) ∧ 25 = 23 + 2 := ⟨by decide +kernel, rfl⟩
theorem dX10_bestValve_25 : decode cX10_bestValve 25 = .ok (.aload_n 0, 1) ∧ 26 = 25 + 1 := ⟨by decide +kernel, rfl⟩
theorem dX10_bestValve_26 : decode cX10_bestValve 26 = .ok (.iconst 2, 1) ∧ 27 = 26 + 1 := ⟨by decide +kernel, rfl⟩
theorem dX10_bestValve_27 : decode cX10_bestValve 27 = .ok (.invokevirtual 93, 3) ∧ 30 = 27 + 3 := ⟨by decide +kernel, rfl⟩
theorem dX10_bestValve_30 : decode cX10_bestValve 30 = .ok (.if_icmp .ge 65, 3) ∧ 33 = 30 + 3 := ⟨by decide +kernel, rfl⟩
theorem dX10_bestValve_33 : decode cX10_bestValve 33 = .ok (.aload_n 0, 1) ∧ 34 = 33 + 1 := ⟨by decide +kernel, rfl⟩
theorem dX10_bestValve_34 : decode cX10_bestValve 34 = .ok (.iload 6, 2) ∧ 36 = 34 + 2 := ⟨by decide +kernel, rfl⟩
theorem dX10_bestValve_36 : decode cX10_bestValve 36 = .ok (.invokevirtual 155, 3) ∧ 39 = 36 + 3 := ⟨by decide +kernel, rfl⟩
theorem dX10_bestValve_39 : decode cX10_bestValve 39 = .ok (.ifCond .ne 6, 3) ∧ 42 = 39 + 3 := ⟨by decide +kernel, rfl⟩
theorem dX10_bestValve_42 : decode cX10_bestValve 42 = .ok (.goto 47, 3) ∧ 45 = 42 + 3 := ⟨by decide +kernel, rfl⟩
theorem dX10_bestValve_45 : decode cX10_bestValve 45 = .ok (.aload_n 0, 1) ∧ 46 = 45 + 1 := ⟨by decide +kernel, rfl⟩
theorem dX10_bestValve_46 : decode cX10_bestValve 46 = .ok (.iload 6, 2) ∧ 48 = 46 + 2 := ⟨by decide +kernel, rfl⟩
theorem dX10_bestValve_48 : decode cX10_bestValve 48 = .ok (.iconst 1, 1) ∧ 49 = 48 + 1 := ⟨by decide +kernel, rfl⟩
theorem dX10_bestValve_49 : decode cX10_bestValve 49 = .ok (.invokevirtual 161, 3) ∧ 52 = 49 + 3 := ⟨by decide +kernel, rfl⟩
theorem dX10_bestValve_52 : decode cX10_bestValve 52 = .ok (.istore 7, 2) ∧ 54 = 52 + 2 := ⟨by decide +kernel, rfl⟩
theorem dX10_bestValve_54 : decode cX10_bestValve 54 = .ok (.aload_n 0, 1) ∧ 55 = 54 + 1 := ⟨by decide +kernel, rfl⟩
theorem dX10_bestValve_55 : decode cX10_bestValve 55 = .ok (.iload_n 1, 1) ∧ 56 = 55 + 1 := ⟨by decide +kernel, rfl⟩
theorem dX10_bestValve_56 : decode cX10_bestValve 56 = .ok (.iload_n 2, 1) ∧ 57 = 56 + 1 := ⟨by decide +kernel, rfl⟩
theorem dX10_bestValve_57 : decode cX10_bestValve 57 = .ok (.invokevirtual 396, 3) ∧ 60 = 57 + 3 := ⟨by decide +kernel, rfl⟩
theorem dX10_bestValve_60 : decode cX10_bestValve 60 = .ok (.lstore 8, 2) ∧ 62 = 60 + 2 := ⟨by decide +kernel, rfl⟩
theorem dX10_bestValve_62 : decode cX10_bestValve 62 = .ok (.aload_n 0, 1) ∧ 63 = 62 + 1 := ⟨by decide +kernel, rfl⟩
theorem dX10_bestValve_63 : decode cX10_bestValve 63 = .ok (.invokevirtual 399, 3) ∧ 66 = 63 + 3 := ⟨by decide +kernel, rfl⟩
theorem dX10_bestValve_66 : decode cX10_bestValve 66 = .ok (.iload_n 3, 1) ∧ 67 = 66 + 1 := ⟨by decide +kernel, rfl⟩
theorem dX10_bestValve_67 : decode cX10_bestValve 67 = .ok (.iconst (-1), 1) ∧ 68 = 67 + 1 := ⟨by decide +kernel, rfl⟩
theorem dX10_bestValve_68 : decode cX10_bestValve 68 = .ok (.if_icmp .eq 14, 3) ∧ 71 = 68 + 3 := ⟨by decide +kernel, rfl⟩
theorem dX10_bestValve_71 : decode cX10_bestValve 71 = .ok (.lload 8, 2) ∧ 73 = 71 + 2 := ⟨by decide +kernel, rfl⟩
theorem dX10_bestValve_73 : decode cX10_bestValve 73 = .ok (.lload 4, 2) ∧ 75 = 73 + 2 := ⟨by decide +kernel, rfl⟩
theorem dX10_bestValve_75 : decode cX10_bestValve 75 = .ok (.lcmp, 1) ∧ 76 = 75 + 1 := ⟨by decide +kernel, rfl⟩
theorem dX10_bestValve_76 : decode cX10_bestValve 76 = .ok (.ifCond .lt 6, 3) ∧ 79 = 76 + 3 := ⟨by decide +kernel, rfl⟩
theorem dX10_bestValve_79 : decode cX10_bestValve 79 = .ok (.goto 10, 3) ∧ 82 = 79 + 3 := ⟨by decide +kernel, rfl⟩
theorem dX10_bestValve_82 : decode cX10_bestValve 82 = .ok (.iload 6, 2) ∧ 84 = 82 + 2 := ⟨by decide +kernel, rfl⟩
theorem dX10_bestValve_84 : decode cX10_bestValve 84 = .ok (.istore_n 3, 1) ∧ 85 = 84 + 1 := ⟨by decide +kernel, rfl⟩
theorem dX10_bestValve_85 : decode cX10_bestValve 85 = .ok (.lload 8, 2) ∧ 87 = 85 + 2 := ⟨by decide +kernel, rfl⟩
theorem dX10_bestValve_87 : decode cX10_bestValve 87 = .ok (.lstore 4, 2) ∧ 89 = 87 + 2 := ⟨by decide +kernel, rfl⟩
theorem dX10_bestValve_89 : decode cX10_bestValve 89 = .ok (.iinc 6 1, 3) ∧ 92 = 89 + 3 := ⟨by decide +kernel, rfl⟩
theorem dX10_bestValve_92 : decode cX10_bestValve 92 = .ok (.goto (-69), 3) ∧ 95 = 92 + 3 := ⟨by decide +kernel, rfl⟩
theorem dX10_bestValve_95 : decode cX10_bestValve 95 = .ok (.aload_n 0, 1) ∧ 96 = 95 + 1 := ⟨by decide +kernel, rfl⟩
theorem dX10_bestValve_96 : decode cX10_bestValve 96 = .ok (.iload_n 3, 1) ∧ 97 = 96 + 1 := ⟨by decide +kernel, rfl⟩
theorem dX10_bestValve_97 : decode cX10_bestValve 97 = .ok (.iconst (-1), 1) ∧ 98 = 97 + 1 := ⟨by decide +kernel, rfl⟩
theorem dX10_bestValve_98 : decode cX10_bestValve 98 = .ok (.if_icmp .ne 7, 3) ∧ 101 = 98 + 3 := ⟨by decide +kernel, rfl⟩
theorem dX10_bestValve_101 : decode cX10_bestValve 101 = .ok (.iconst 1, 1) ∧ 102 = 101 + 1 := ⟨by decide +kernel, rfl⟩
theorem dX10_bestValve_102 : decode cX10_bestValve 102 = .ok (.goto 4, 3) ∧ 105 = 102 + 3 := ⟨by decide +kernel, rfl⟩
theorem dX10_bestValve_105 : decode cX10_bestValve 105 = .ok (.iconst 0, 1) ∧ 106 = 105 + 1 := ⟨by decide +kernel, rfl⟩
theorem dX10_bestValve_106 : decode cX10_bestValve 106 = .ok (.iconst 3, 1) ∧ 107 = 106 + 1 := ⟨by decide +kernel, rfl⟩
theorem dX10_bestValve_107 : decode cX10_bestValve 107 = .ok (.invokevirtual 151, 3) ∧ 110 = 107 + 3 := ⟨by decide +kernel, rfl⟩
theorem dX10_bestValve_110 : decode cX10_bestValve 110 = .ok (.ifCond .eq 7, 3) ∧ 113 = 110 + 3 := ⟨by decide +kernel, rfl⟩
theorem dX10_bestValve_113 : decode cX10_bestValve 113 = .ok (.iconst 0, 1) ∧ 114 = 113 + 1 := ⟨by decide +kernel, rfl⟩
theorem dX10_bestValve_114 : decode cX10_bestValve 114 = .ok (.goto 4, 3) ∧ 117 = 114 + 3 := ⟨by decide +kernel, rfl⟩
theorem dX10_bestValve_117 : decode cX10_bestValve 117 = .ok (.iload_n 3, 1) ∧ 118 = 117 + 1 := ⟨by decide +kernel, rfl⟩
theorem dX10_bestValve_118 : decode cX10_bestValve 118 = .ok (.ireturn, 1) ∧ 119 = 118 + 1 := ⟨by decide +kernel, rfl⟩
theorem dX10_leaksOf_0 : decode cX10_leaksOf 0 = .ok (.lconst 0, 1) ∧ 1 = 0 + 1 := ⟨by decide +kernel, rfl⟩
theorem dX10_leaksOf_1 : decode cX10_leaksOf 1 = .ok (.lstore_n 2, 1) ∧ 2 = 1 + 1 := ⟨by decide +kernel, rfl⟩
theorem dX10_leaksOf_2 : decode cX10_leaksOf 2 = .ok (.iconst 0, 1) ∧ 3 = 2 + 1 := ⟨by decide +kernel, rfl⟩
theorem dX10_leaksOf_3 : decode cX10_leaksOf 3 = .ok (.istore 4, 2) ∧ 5 = 3 + 2 := ⟨by decide +kernel, rfl⟩
theorem dX10_leaksOf_5 : decode cX10_leaksOf 5 = .ok (.iload 4, 2) ∧ 7 = 5 + 2 := ⟨by decide +kernel, rfl⟩
theorem dX10_leaksOf_7 : decode cX10_leaksOf 7 = .ok (.aload_n 0, 1) ∧ 8 = 7 + 1 := ⟨by decide +kernel, rfl⟩
theorem dX10_leaksOf_8 : decode cX10_leaksOf 8 = .ok (.iconst 3, 1) ∧ 9 = 8 + 1 := ⟨by decide +kernel, rfl⟩
theorem dX10_leaksOf_9 : decode cX10_leaksOf 9 = .ok (.invokevirtual 93, 3) ∧ 12 = 9 + 3 := ⟨by decide +kernel, rfl⟩
theorem dX10_leaksOf_12 : decode cX10_leaksOf 12 = .ok (.if_icmp .ge 38, 3) ∧ 15 = 12 + 3 := ⟨by decide +kernel, rfl⟩
theorem dX10_leaksOf_15 : decode cX10_leaksOf 15 = .ok (.lload_n 2, 1) ∧ 16 = 15 + 1 := ⟨by decide +kernel, rfl⟩
theorem dX10_leaksOf_16 : decode cX10_leaksOf 16 = .ok (.iload_n 1, 1) ∧ 17 = 16 + 1 := ⟨by decide +kernel, rfl⟩
theorem dX10_leaksOf_17 : decode cX10_leaksOf 17 = .ok (.iload 4, 2) ∧ 19 = 17 + 2 := ⟨by decide +kernel, rfl⟩
theorem dX10_leaksOf_19 : decode cX10_leaksOf 19 = .ok (.ishr, 1) ∧ 20 = 19 + 1 := ⟨by decide +kernel, rfl⟩
theorem dX10_leaksOf_20 : decode cX10_leaksOf 20 = .ok (.iconst 1, 1) ∧ 21 = 20 + 1 := ⟨by decide +kernel, rfl⟩
theorem dX10_leaksOf_21 : decode cX10_leaksOf 21 = .ok (.iand, 1) ∧ 22 = 21 + 1 := ⟨by decide +kernel, rfl⟩
theorem dX10_leaksOf_22 : decode cX10_leaksOf 22 = .ok (.iconst 1, 1) ∧ 23 = 22 + 1 := ⟨by decide +kernel, rfl⟩
theorem dX10_leaksOf_23 : decode cX10_leaksOf 23 = .ok (.if_icmp .ne 18, 3) ∧ 26 = 23 + 3 := ⟨by decide +kernel, rfl⟩
theorem dX10_leaksOf_26 : decode cX10_leaksOf 26 = .ok (.aload_n 0, 1) ∧ 27 = 26 + 1 := ⟨by decide +kernel, rfl⟩
theorem dX10_leaksOf_27 : decode cX10_leaksOf 27 = .ok (.getfield 7, 3) ∧ 30 = 27 + 3 := ⟨by decide +kernel, rfl⟩
theorem dX10_leaksOf_30 : decode cX10_leaksOf 30 = .ok (.iload 4, 2) ∧ 32 = 30 + 2 := ⟨by decide +kernel, rfl⟩
theorem dX10_leaksOf_32 : decode cX10_leaksOf 32 = .ok (.invokestatic 96, 3) ∧ 35 = 32 + 3 := ⟨by decide +kernel, rfl⟩
theorem dX10_leaksOf_35 : decode cX10_leaksOf 35 = .ok (.iconst 1, 1) ∧ 36 = 35 + 1 := ⟨by decide +kernel, rfl⟩
theorem dX10_leaksOf_36 : decode cX10_leaksOf 36 = .ok (.iadd, 1) ∧ 37 = 36 + 1 := ⟨by decide +kernel, rfl⟩
theorem dX10_leaksOf_37 : decode cX10_leaksOf 37 = .ok (.laload, 1) ∧ 38 = 37 + 1 := ⟨by decide +kernel, rfl⟩
theorem dX10_leaksOf_38 : decode cX10_leaksOf 38 = .ok (.goto 4, 3) ∧ 41 = 38 + 3 := ⟨by decide +kernel, rfl⟩
theorem dX10_leaksOf_41 : decode cX10_leaksOf 41 = .ok (.lconst 0, 1) ∧ 42 = 41 + 1 := ⟨by decide +kernel, rfl⟩
theorem dX10_leaksOf_42 : decode cX10_leaksOf 42 = .ok (.ladd, 1) ∧ 43 = 42 + 1 := ⟨by decide +kernel, rfl⟩
theorem dX10_leaksOf_43 : decode cX10_leaksOf 43 = .ok (.lstore_n 2, 1) ∧ 44 = 43 + 1 := ⟨by decide +kernel, rfl⟩
theorem dX10_leaksOf_44 : decode cX10_leaksOf 44 = .ok (.iinc 4 1, 3) ∧ 47 = 44 + 3 := ⟨by decide +kernel, rfl⟩
theorem dX10_leaksOf_47 : decode cX10_leaksOf 47 = .ok (.goto (-42), 3) ∧ 50 = 47 + 3 := ⟨by decide +kernel, rfl⟩
theorem dX10_leaksOf_50 : decode cX10_leaksOf 50 = .ok (.lload_n 2, 1) ∧ 51 = 50 + 1 := ⟨by decide +kernel, rfl⟩
theorem dX10_leaksOf_51 : decode cX10_leaksOf 51 = .ok (.lreturn, 1) ∧ 52 = 51 + 1 := ⟨by decide +kernel, rfl⟩
theorem dX10_spray_0 : decode cX10_spray 0 = .ok (.aload_n 0, 1) ∧ 1 = 0 + 1 := ⟨by decide +kernel, rfl⟩
theorem dX10_spray_1 : decode cX10_spray 1 = .ok (.iload_n 1, 1) ∧ 2 = 1 + 1 := ⟨by decide +kernel, rfl⟩
theorem dX10_spray_2 : decode cX10_spray 2 = .ok (.i2l, 1) ∧ 3 = 2 + 1 := ⟨by decide +kernel, rfl⟩
theorem dX10_spray_3 : decode cX10_spray 3 = .ok (.lconst 0, 1) ∧ 4 = 3 + 1 := ⟨by decide +kernel, rfl⟩
theorem dX10_spray_4 : decode cX10_spray 4 = .ok (.lconst 1, 1) ∧ 5 = 4 + 1 := ⟨by decide +kernel, rfl⟩
theorem dX10_spray_5 : decode cX10_spray 5 = .ok (.aload_n 0, 1) ∧ 6 = 5 + 1 := ⟨by decide +kernel, rfl⟩
theorem dX10_spray_6 : decode cX10_spray 6 = .ok (.getfield 7, 3) ∧ 9 = 6 + 3 := ⟨by decide +kernel, rfl⟩
theorem dX10_spray_9 : decode cX10_spray 9 = .ok (.iconst 3, 1) ∧ 10 = 9 + 1 := ⟨by decide +kernel, rfl⟩
theorem dX10_spray_10 : decode cX10_spray 10 = .ok (.laload, 1) ∧ 11 = 10 + 1 := ⟨by decide +kernel, rfl⟩
theorem dX10_spray_11 : decode cX10_spray 11 = .ok (.l2i, 1) ∧ 12 = 11 + 1 := ⟨by decide +kernel, rfl⟩
theorem dX10_spray_12 : decode cX10_spray 12 = .ok (.lshl, 1) ∧ 13 = 12 + 1 := ⟨by decide +kernel, rfl⟩
theorem dX10_spray_13 : decode cX10_spray 13 = .ok (.lconst 1, 1) ∧ 14 = 13 + 1 := ⟨by decide +kernel, rfl⟩
theorem dX10_spray_14 : decode cX10_spray 14 = .ok (.lsub, 1) ∧ 15 = 14 + 1 := ⟨by decide +kernel, rfl⟩
theorem dX10_spray_15 : decode cX10_spray 15 = .ok (.invokestatic 39, 3) ∧ 18 = 15 + 3 := ⟨by decide +kernel, rfl⟩
theorem dX10_spray_18 : decode cX10_spray 18 = .ok (.ifCond .ne 7, 3) ∧ 21 = 18 + 3 := ⟨by decide +kernel, rfl⟩
theorem dX10_spray_21 : decode cX10_spray 21 = .ok (.iconst 1, 1) ∧ 22 = 21 + 1 := ⟨by decide +kernel, rfl⟩
theorem dX10_spray_22 : decode cX10_spray 22 = .ok (.goto 4, 3) ∧ 25 = 22 + 3 := ⟨by decide +kernel, rfl⟩
theorem dX10_spray_25 : decode cX10_spray 25 = .ok (.iconst 0, 1) ∧ 26 = 25 + 1 := ⟨by decide +kernel, rfl⟩
theorem dX10_spray_26 : decode cX10_spray 26 = .ok (.iconst 1, 1) ∧ 27 = 26 + 1 := ⟨by decide +kernel, rfl⟩
theorem dX10_spray_27 : decode cX10_spray 27 = .ok (.invokevirtual 151, 3) ∧ 30 = 27 + 3 := ⟨by decide +kernel, rfl⟩
theorem dX10_spray_30 : decode cX10_spray 30 = .ok (.ifCond .eq 7, 3) ∧ 33 = 30 + 3 := ⟨by decide +kernel, rfl⟩
theorem dX10_spray_33 : decode cX10_spray 33 = .ok (.iconst 0, 1) ∧ 34 = 33 + 1 := ⟨by decide +kernel, rfl⟩
theorem dX10_spray_34 : decode cX10_spray 34 = .ok (.goto 9, 3) ∧ 37 = 34 + 3 := ⟨by decide +kernel, rfl⟩
theorem dX10_spray_37 : decode cX10_spray 37 = .ok (.aload_n 0, 1) ∧ 38 = 37 + 1 := ⟨by decide +kernel, rfl⟩
theorem dX10_spray_38 : decode cX10_spray 38 = .ok (.iload_n 1, 1) ∧ 39 = 38 + 1 := ⟨by decide +kernel, rfl⟩
theorem dX10_spray_39 : decode cX10_spray 39 = .ok (.invokevirtual 402, 3) ∧ 42 = 39 + 3 := ⟨by decide +kernel, rfl⟩
theorem dX10_spray_42 : decode cX10_spray 42 = .ok (.l2i, 1) ∧ 43 = 42 + 1 := ⟨by decide +kernel, rfl⟩
theorem dX10_spray_43 : decode cX10_spray 43 = .ok (.ireturn, 1) ∧ 44 = 43 + 1 := ⟨by decide +kernel, rfl⟩
theorem dX10_sizeOf_0 : decode cX10_sizeOf 0 = .ok (.iconst 0, 1) ∧ 1 = 0 + 1 := ⟨by decide +kernel, rfl⟩
theorem dX10_sizeOf_1 : decode cX10_sizeOf 1 = .ok (.istore_n 1, 1) ∧ 2 = 1 + 1 := ⟨by decide +kernel, rfl⟩
theorem dX10_sizeOf_2 : decode cX10_sizeOf 2 = .ok (.iconst 0, 1) ∧ 3 = 2 + 1 := ⟨by decide +kernel, rfl⟩
theorem dX10_sizeOf_3 : decode cX10_sizeOf 3 = .ok (.istore_n 2, 1) ∧ 4 = 3 + 1 := ⟨by decide +kernel, rfl⟩
theorem dX10_sizeOf_4 : decode cX10_sizeOf 4 = .ok (.iload_n 2, 1) ∧ 5 = 4 + 1 := ⟨by decide +kernel, rfl⟩
theorem dX10_sizeOf_5 : decode cX10_sizeOf 5 = .ok (.bipush 24, 2) ∧ 7 = 5 + 2 := ⟨by decide +kernel, rfl⟩
theorem dX10_sizeOf_7 : decode cX10_sizeOf 7 = .ok (.if_icmp .ge 17, 3) ∧ 10 = 7 + 3 := ⟨by decide +kernel, rfl⟩
theorem dX10_sizeOf_10 : decode cX10_sizeOf 10 = .ok (.iload_n 1, 1) ∧ 11 = 10 + 1 := ⟨by decide +kernel, rfl⟩
theorem dX10_sizeOf_11 : decode cX10_sizeOf 11 = .ok (.iload_n 0, 1) ∧ 12 = 11 + 1 := ⟨by decide +kernel, rfl⟩
theorem dX10_sizeOf_12 : decode cX10_sizeOf 12 = .ok (.iload_n 2, 1) ∧ 13 = 12 + 1 := ⟨by decide +kernel, rfl⟩
theorem dX10_sizeOf_13 : decode cX10_sizeOf 13 = .ok (.ishr, 1) ∧ 14 = 13 + 1 := ⟨by decide +kernel, rfl⟩
theorem dX10_sizeOf_14 : decode cX10_sizeOf 14 = .ok (.iconst 1, 1) ∧ 15 = 14 + 1 := ⟨by decide +kernel, rfl⟩
theorem dX10_sizeOf_15 : decode cX10_sizeOf 15 = .ok (.iand, 1) ∧ 16 = 15 + 1 := ⟨by decide +kernel, rfl⟩
theorem dX10_sizeOf_16 : decode cX10_sizeOf 16 = .ok (.iadd, 1) ∧ 17 = 16 + 1 := ⟨by decide +kernel, rfl⟩
theorem dX10_sizeOf_17 : decode cX10_sizeOf 17 = .ok (.istore_n 1, 1) ∧ 18 = 17 + 1 := ⟨by decide +kernel, rfl⟩
theorem dX10_sizeOf_18 : decode cX10_sizeOf 18 = .ok (.iinc 2 1, 3) ∧ 21 = 18 + 3 := ⟨by decide +kernel, rfl⟩
theorem dX10_sizeOf_21 : decode cX10_sizeOf 21 = .ok (.goto (-17), 3) ∧ 24 = 21 + 3 := ⟨by decide +kernel, rfl⟩
theorem dX10_sizeOf_24 : decode cX10_sizeOf 24 = .ok (.iload_n 1, 1) ∧ 25 = 24 + 1 := ⟨by decide +kernel, rfl⟩
theorem dX10_sizeOf_25 : decode cX10_sizeOf 25 = .ok (.ireturn, 1) ∧ 26 = 25 + 1 := ⟨by decide +kernel, rfl⟩
theorem dX10_firstOnes_0 : decode cX10_firstOnes 0 = .ok (.iconst 0, 1) ∧ 1 = 0 + 1 := ⟨by decide +kernel, rfl⟩
theorem dX10_firstOnes_1 : decode cX10_firstOnes 1 = .ok (.istore_n 2, 1) ∧ 2 = 1 + 1 := ⟨by decide +kernel, rfl⟩
theorem dX10_firstOnes_2 : decode cX10_firstOnes 2 = .ok (.iconst 0, 1) ∧ 3 = 2 + 1 := ⟨by decide +kernel, rfl⟩
theorem dX10_firstOnes_3 : decode cX10_firstOnes 3 = .ok (.istore_n 3, 1) ∧ 4 = 3 + 1 := ⟨by decide +kernel, rfl⟩
theorem dX10_firstOnes_4 : decode cX10_firstOnes 4 = .ok (.iload_n 3, 1) ∧ 5 = 4 + 1 := ⟨by decide +kernel, rfl⟩
theorem dX10_firstOnes_5 : decode cX10_firstOnes 5 = .ok (.bipush 24, 2) ∧ 7 = 5 + 2 := ⟨by decide +kernel, rfl⟩
theorem dX10_firstOnes_7 : decode cX10_firstOnes 7 = .ok (.if_icmp .ge 36, 3) ∧ 10 = 7 + 3 := ⟨by decide +kernel, rfl⟩
theorem dX10_firstOnes_10 : decode cX10_firstOnes 10 = .ok (.iload_n 2, 1) ∧ 11 = 10 + 1 := ⟨by decide +kernel, rfl⟩
theorem dX10_firstOnes_11 : decode cX10_firstOnes 11 = .ok (.iload_n 0, 1) ∧ 12 = 11 + 1 := ⟨by decide +kernel, rfl⟩
theorem dX10_firstOnes_12 : decode cX10_firstOnes 12 = .ok (.iload_n 3, 1) ∧ 13 = 12 + 1 := ⟨by decide +kernel, rfl⟩
theorem dX10_firstOnes_13 : decode cX10_firstOnes 13 = .ok (.ishr, 1) ∧ 14 = 13 + 1 := ⟨by decide +kernel, rfl⟩
theorem dX10_firstOnes_14 : decode cX10_firstOnes 14 = .ok (.iconst 1, 1) ∧ 15 = 14 + 1 := ⟨by decide +kernel, rfl⟩
theorem dX10_firstOnes_15 : decode cX10_firstOnes 15 = .ok (.iand, 1) ∧ 16 = 15 + 1 := ⟨by decide +kernel, rfl⟩
theorem dX10_firstOnes_16 : decode cX10_firstOnes 16 = .ok (.iconst 1, 1) ∧ 17 = 16 + 1 := ⟨by decide +kernel, rfl⟩
theorem dX10_firstOnes_17 : decode cX10_firstOnes 17 = .ok (.if_icmp .ne 17, 3) ∧ 20 = 17 + 3 := ⟨by decide +kernel, rfl⟩
theorem dX10_firstOnes_20 : decode cX10_firstOnes 20 = .ok (.iload_n 2, 1) ∧ 21 = 20 + 1 := ⟨by decide +kernel, rfl⟩
theorem dX10_firstOnes_21 : decode cX10_firstOnes 21 = .ok (.invokestatic 405, 3) ∧ 24 = 21 + 3 := ⟨by decide +kernel, rfl⟩
theorem dX10_firstOnes_24 : decode cX10_firstOnes 24 = .ok (.iload_n 1, 1) ∧ 25 = 24 + 1 := ⟨by decide +kernel, rfl⟩
theorem dX10_firstOnes_25 : decode cX10_firstOnes 25 = .ok (.if_icmp .ge 9, 3) ∧ 28 = 25 + 3 := ⟨by decide +kernel, rfl⟩
theorem dX10_firstOnes_28 : decode cX10_firstOnes 28 = .ok (.iconst 1, 1) ∧ 29 = 28 + 1 := ⟨by decide +kernel, rfl⟩
theorem dX10_firstOnes_29 : decode cX10_firstOnes 29 = .ok (.iload_n 3, 1) ∧ 30 = 29 + 1 := ⟨by decide +kernel, rfl⟩
theorem dX10_firstOnes_30 : decode cX10_firstOnes 30 = .ok (.ishl, 1) ∧ 31 = 30 + 1 := ⟨by decide +kernel, rfl⟩
theorem dX10_firstOnes_31 : decode cX10_firstOnes 31 = .ok (.goto 4, 3) ∧ 34 = 31 + 3 := ⟨by decide +kernel, rfl⟩
theorem dX10_firstOnes_34 : decode cX10_firstOnes 34 = .ok (.iconst 0, 1) ∧ 35 = 34 + 1 := ⟨by decide +kernel, rfl⟩
theorem dX10_firstOnes_35 : decode cX10_firstOnes 35 = .ok (.ior, 1) ∧ 36 = 35 + 1 := ⟨by decide +kernel, rfl⟩
theorem dX10_firstOnes_36 : decode cX10_firstOnes 36 = .ok (.istore_n 2, 1) ∧ 37 = 36 + 1 := ⟨by decide +kernel, rfl⟩
theorem dX10_firstOnes_37 : decode cX10_firstOnes 37 = .ok (.iinc 3 1, 3) ∧ 40 = 37 + 3 := ⟨by decide +kernel, rfl⟩
theorem dX10_firstOnes_40 : decode cX10_firstOnes 40 = .ok (.goto (-36), 3) ∧ 43 = 40 + 3 := ⟨by decide +kernel, rfl⟩
theorem dX10_firstOnes_43 : decode cX10_firstOnes 43 = .ok (.iload_n 2, 1) ∧ 44 = 43 + 1 := ⟨by decide +kernel, rfl⟩
theorem dX10_firstOnes_44 : decode cX10_firstOnes 44 = .ok (.ireturn, 1) ∧ 45 = 44 + 1 := ⟨by decide +kernel, rfl⟩
theorem dX10_hunt_0 : decode cX10_hunt 0 = .ok (.iload_n 1, 1) ∧ 1 = 0 + 1 := ⟨by decide +kernel, rfl⟩
theorem dX10_hunt_1 : decode cX10_hunt 1 = .ok (.ifCond .ne 4, 3) ∧ 4 = 1 + 3 := ⟨by decide +kernel, rfl⟩
theorem dX10_hunt_4 : decode cX10_hunt 4 = .ok (.return_, 1) ∧ 5 = 4 + 1 := ⟨by decide +kernel, rfl⟩
theorem dX10_hunt_5 : decode cX10_hunt 5 = .ok (.aload_n 0, 1) ∧ 6 = 5 + 1 := ⟨by decide +kernel, rfl⟩
theorem dX10_hunt_6 : decode cX10_hunt 6 = .ok (.dup, 1) ∧ 7 = 6 + 1 := ⟨by decide +kernel, rfl⟩
theorem dX10_hunt_7 : decode cX10_hunt 7 = .ok (.getfield 408, 3) ∧ 10 = 7 + 3 := ⟨by decide +kernel, rfl⟩
theorem dX10_hunt_10 : decode cX10_hunt 10 = .ok (.iconst 1, 1) ∧ 11 = 10 + 1 := ⟨by decide +kernel, rfl⟩
theorem dX10_hunt_11 : decode cX10_hunt 11 = .ok (.iadd, 1) ∧ 12 = 11 + 1 := ⟨by decide +kernel, rfl⟩
theorem dX10_hunt_12 : decode cX10_hunt 12 = .ok (.putfield 408, 3) ∧ 15 = 12 + 3 := ⟨by decide +kernel, rfl⟩
theorem dX10_hunt_15 : decode cX10_hunt 15 = .ok (.aload_n 0, 1) ∧ 16 = 15 + 1 := ⟨by decide +kernel, rfl⟩
theorem dX10_hunt_16 : decode cX10_hunt 16 = .ok (.iload_n 1, 1) ∧ 17 = 16 + 1 := ⟨by decide +kernel, rfl⟩
theorem dX10_hunt_17 : decode cX10_hunt 17 = .ok (.invokevirtual 402, 3) ∧ 20 = 17 + 3 := ⟨by decide +kernel, rfl⟩
theorem dX10_hunt_20 : decode cX10_hunt 20 = .ok (.iload_n 2, 1) ∧ 21 = 20 + 1 := ⟨by decide +kernel, rfl⟩
theorem dX10_hunt_21 : decode cX10_hunt 21 = .ok (.i2l, 1) ∧ 22 = 21 + 1 := ⟨by decide +kernel, rfl⟩
theorem dX10_hunt_22 : decode cX10_hunt 22 = .ok (.lcmp, 1) ∧ 23 = 22 + 1 := ⟨by decide +kernel, rfl⟩
theorem dX10_hunt_23 : decode cX10_hunt 23 = .ok (.ifCond .ge 4, 3) ∧ 26 = 23 + 3 := ⟨by decide +kernel, rfl⟩
theorem dX10_hunt_26 : decode cX10_hunt 26 = .ok (.return_, 1) ∧ 27 = 26 + 1 := ⟨by decide +kernel, rfl⟩
theorem dX10_hunt_27 : decode cX10_hunt 27 = .ok (.iload_n 1, 1) ∧ 28 = 27 + 1 := ⟨by decide +kernel, rfl⟩
theorem dX10_hunt_28 : decode cX10_hunt 28 = .ok (.invokestatic 405, 3) ∧ 31 = 28 + 3 := ⟨by decide +kernel, rfl⟩
theorem dX10_hunt_31 : decode cX10_hunt 31 = .ok (.iconst 1, 1) ∧ 32 = 31 + 1 := ⟨by decide +kernel, rfl⟩
theorem dX10_hunt_32 : decode cX10_hunt 32 = .ok (.if_icmp .ne 14, 3) ∧ 35 = 32 + 3 := ⟨by decide +kernel, rfl⟩
theorem dX10_hunt_35 : decode cX10_hunt 35 = .ok (.aload_n 0, 1) ∧ 36 = 35 + 1 := ⟨by decide +kernel, rfl⟩
theorem dX10_hunt_36 : decode cX10_hunt 36 = .ok (.dup, 1) ∧ 37 = 36 + 1 := ⟨by decide +kernel, rfl⟩
theorem dX10_hunt_37 : decode cX10_hunt 37 = .ok (.getfield 411, 3) ∧ 40 = 37 + 3 := ⟨by decide +kernel, rfl⟩
theorem dX10_hunt_40 : decode cX10_hunt 40 = .ok (.iload_n 1, 1) ∧ 41 = 40 + 1 := ⟨by decide +kernel, rfl⟩
theorem dX10_hunt_41 : decode cX10_hunt 41 = .ok (.ior, 1) ∧ 42 = 41 + 1 := ⟨by decide +kernel, rfl⟩
theorem dX10_hunt_42 : decode cX10_hunt 42 = .ok (.putfield 411, 3) ∧ 45 = 42 + 3 := ⟨by decide +kernel, rfl⟩
theorem dX10_hunt_45 : decode cX10_hunt 45 = .ok (.return_, 1) ∧ 46 = 45 + 1 := ⟨by decide +kernel, rfl⟩
theorem dX10_hunt_46 : decode cX10_hunt 46 = .ok (.iload_n 1, 1) ∧ 47 = 46 + 1 := ⟨by decide +kernel, rfl⟩
theorem dX10_hunt_47 : decode cX10_hunt 47 = .ok (.iload_n 1, 1) ∧ 48 = 47 + 1 := ⟨by decide +kernel, rfl⟩
theorem dX10_hunt_48 : decode cX10_hunt 48 = .ok (.invokestatic 405, 3) ∧ 51 = 48 + 3 := ⟨by decide +kernel, rfl⟩
theorem dX10_hunt_51 : decode cX10_hunt 51 = .ok (.iconst 1, 1) ∧ 52 = 51 + 1 := ⟨by decide +kernel, rfl⟩
theorem dX10_hunt_52 : decode cX10_hunt 52 = .ok (.iadd, 1) ∧ 53 = 52 + 1 := ⟨by decide +kernel, rfl⟩
theorem dX10_hunt_53 : decode cX10_hunt 53 = .ok (.iconst 2, 1) ∧ 54 = 53 + 1 := ⟨by decide +kernel, rfl⟩
theorem dX10_hunt_54 : decode cX10_hunt 54 = .ok (.idiv, 1) ∧ 55 = 54 + 1 := ⟨by decide +kernel, rfl⟩
theorem dX10_hunt_55 : decode cX10_hunt 55 = .ok (.invokestatic 414, 3) ∧ 58 = 55 + 3 := ⟨by decide +kernel, rfl⟩
theorem dX10_hunt_58 : decode cX10_hunt 58 = .ok (.istore_n 3, 1) ∧ 59 = 58 + 1 := ⟨by decide +kernel, rfl⟩
theorem dX10_hunt_59 : decode cX10_hunt 59 = .ok (.aload_n 0, 1) ∧ 60 = 59 + 1 := ⟨by decide +kernel, rfl⟩
theorem dX10_hunt_60 : decode cX10_hunt 60 = .ok (.iload_n 3, 1) ∧ 61 = 60 + 1 := ⟨by decide +kernel, rfl⟩
theorem dX10_hunt_61 : decode cX10_hunt 61 = .ok (.iload_n 2, 1) ∧ 62 = 61 + 1 := ⟨by decide +kernel, rfl⟩
theorem dX10_hunt_62 : decode cX10_hunt 62 = .ok (.invokevirtual 417, 3) ∧ 65 = 62 + 3 := ⟨by decide +kernel, rfl⟩
theorem dX10_hunt_65 : decode cX10_hunt 65 = .ok (.aload_n 0, 1) ∧ 66 = 65 + 1 := ⟨by decide +kernel, rfl⟩
theorem dX10_hunt_66 : decode cX10_hunt 66 = .ok (.iload_n 1, 1) ∧ 67 = 66 + 1 := ⟨by decide +kernel, rfl⟩
theorem dX10_hunt_67 : decode cX10_hunt 67 = .ok (.iload_n 3, 1) ∧ 68 = 67 + 1 := ⟨by decide +kernel, rfl⟩
theorem dX10_hunt_68 : decode cX10_hunt 68 = .ok (.iconst (-1), 1) ∧ 69 = 68 + 1 := ⟨by decide +kernel, rfl⟩
theorem dX10_hunt_69 : decode cX10_hunt 69 = .ok (.ixor, 1) ∧ 70 = 69 + 1 := ⟨by decide +kernel, rfl⟩
theorem dX10_hunt_70 : decode cX10_hunt 70 = .ok (.iand, 1) ∧ 71 = 70 + 1 := ⟨by decide +kernel, rfl⟩
theorem dX10_hunt_71 : decode cX10_hunt 71 = .ok (.iload_n 2, 1) ∧ 72 = 71 + 1 := ⟨by decide +kernel, rfl⟩
theorem dX10_hunt_72 : decode cX10_hunt 72 = .ok (.invokevirtual 417, 3) ∧ 75 = 72 + 3 := ⟨by decide +kernel, rfl⟩
theorem dX10_hunt_75 : decode cX10_hunt 75 = .ok (.return_, 1) ∧ 76 = 75 + 1 := ⟨by decide +kernel, rfl⟩
theorem dX10_isNoHunt_0 : decode cX10_isNoHunt 0 = .ok (.aload_n 0, 1) ∧ 1 = 0 + 1 := ⟨by decide +kernel, rfl⟩
theorem dX10_isNoHunt_1 : decode cX10_isNoHunt 1 = .ok (.aload_n 0, 1) ∧ 2 = 1 + 1 := ⟨by decide +kernel, rfl⟩
theorem dX10_isNoHunt_2 : decode cX10_isNoHunt 2 = .ok (.iload_n 1, 1) ∧ 3 = 2 + 1 := ⟨by decide +kernel, rfl⟩
theorem dX10_isNoHunt_3 : decode cX10_isNoHunt 3 = .ok (.invokevirtual 179, 3) ∧ 6 = 3 + 3 := ⟨by decide +kernel, rfl⟩
theorem dX10_isNoHunt_6 : decode cX10_isNoHunt 6 = .ok (.ifCond .ne 7, 3) ∧ 9 = 6 + 3 := ⟨by decide +kernel, rfl⟩
theorem dX10_isNoHunt_9 : decode cX10_isNoHunt 9 = .ok (.iconst 1, 1) ∧ 10 = 9 + 1 := ⟨by decide +kernel, rfl⟩
theorem dX10_isNoHunt_10 : decode cX10_isNoHunt 10 = .ok (.goto 4, 3) ∧ 13 = 10 + 3 := ⟨by decide +kernel, rfl⟩
theorem dX10_isNoHunt_13 : decode cX10_isNoHunt 13 = .ok (.iconst 0, 1) ∧ 14 = 13 + 1 := ⟨by decide +kernel, rfl⟩
theorem dX10_isNoHunt_14 : decode cX10_isNoHunt 14 = .ok (.iconst 1, 1) ∧ 15 = 14 + 1 := ⟨by decide +kernel, rfl⟩
theorem dX10_isNoHunt_15 : decode cX10_isNoHunt 15 = .ok (.invokevirtual 151, 3) ∧ 18 = 15 + 3 := ⟨by decide +kernel, rfl⟩
theorem dX10_isNoHunt_18 : decode cX10_isNoHunt 18 = .ok (.ifCond .ne 28, 3) ∧ 21 = 18 + 3 := ⟨by decide +kernel, rfl⟩
theorem dX10_isNoHunt_21 : decode cX10_isNoHunt 21 = .ok (.aload_n 0, 1) ∧ 22 = 21 + 1 := ⟨by decide +kernel, rfl⟩
theorem dX10_isNoHunt_22 : decode cX10_isNoHunt 22 = .ok (.iload_n 2, 1) ∧ 23 = 22 + 1 := ⟨by decide +kernel, rfl⟩
theorem dX10_isNoHunt_23 : decode cX10_isNoHunt 23 = .ok (.i2l, 1) ∧ 24 = 23 + 1 := ⟨by decide +kernel, rfl⟩
theorem dX10_isNoHunt_24 : decode cX10_isNoHunt 24 = .ok (.lconst 1, 1) ∧ 25 = 24 + 1 := ⟨by decide +kernel, rfl⟩
theorem dX10_isNoHunt_25 : decode cX10_isNoHunt 25 = .ok (.ldc2_w 197, 3) ∧ 28 = 25 + 3 := ⟨by decide +kernel, rfl⟩
theorem dX10_isNoHunt_28 : decode cX10_isNoHunt 28 = .ok (.invokestatic 39, 3) ∧ 31 = 28 + 3 := ⟨by decide +kernel, rfl⟩
theorem dX10_isNoHunt_31 : decode cX10_isNoHunt 31 = .ok (.ifCond .ne 7, 3) ∧ 34 = 31 + 3 := ⟨by decide +kernel, rfl⟩
theorem dX10_isNoHunt_34 : decode cX10_isNoHunt 34 = .ok (.iconst 1, 1) ∧ 35 = 34 + 1 := ⟨by decide +kernel, rfl⟩
theorem dX10_isNoHunt_35 : decode cX10_isNoHunt 35 = .ok (.goto 4, 3) ∧ 38 = 35 + 3 := ⟨by decide +kernel, rfl⟩
theorem dX10_isNoHunt_38 : decode cX10_isNoHunt 38 = .ok (.iconst 0, 1) ∧ 39 = 38 + 1 := ⟨by decide +kernel, rfl⟩
theorem dX10_isNoHunt_39 : decode cX10_isNoHunt 39 = .ok (.iconst 2, 1) ∧ 40 = 39 + 1 := ⟨by decide +kernel, rfl⟩
theorem dX10_isNoHunt_40 : decode cX10_isNoHunt 40 = .ok (.invokevirtual 151, 3) ∧ 43 = 40 + 3 := ⟨by decide +kernel, rfl⟩
theorem dX10_isNoHunt_43 : decode cX10_isNoHunt 43 = .ok (.ifCond .eq 5, 3) ∧ 46 = 43 + 3 := ⟨by decide +kernel, rfl⟩
theorem dX10_isNoHunt_46 : decode cX10_isNoHunt 46 = .ok (.iconst 1, 1) ∧ 47 = 46 + 1 := ⟨by decide +kernel, rfl⟩
theorem dX10_isNoHunt_47 : decode cX10_isNoHunt 47 = .ok (.ireturn, 1) ∧ 48 = 47 + 1 := ⟨by decide +kernel, rfl⟩
theorem dX10_isNoHunt_48 : decode cX10_isNoHunt 48 = .ok (.iconst 0, 1) ∧ 49 = 48 + 1 := ⟨by decide +kernel, rfl⟩
theorem dX10_isNoHunt_49 : decode cX10_isNoHunt 49 = .ok (.istore_n 3, 1) ∧ 50 = 49 + 1 := ⟨by decide +kernel, rfl⟩
theorem dX10_isNoHunt_50 : decode cX10_isNoHunt 50 = .ok (.iconst 0, 1) ∧ 51 = 50 + 1 := ⟨by decide +kernel, rfl⟩
theorem dX10_isNoHunt_51 : decode cX10_isNoHunt 51 = .ok (.istore 4, 2) ∧ 53 = 51 + 2 := ⟨by decide +kernel, rfl⟩
theorem dX10_isNoHunt_53 : decode cX10_isNoHunt 53 = .ok (.iload 4, 2) ∧ 55 = 53 + 2 := ⟨by decide +kernel, rfl⟩
theorem dX10_isNoHunt_55 : decode cX10_isNoHunt 55 = .ok (.aload_n 0, 1) ∧ 56 = 55 + 1 := ⟨by decide +kernel, rfl⟩
theorem dX10_isNoHunt_56 : decode cX10_isNoHunt 56 = .ok (.iconst 3, 1) ∧ 57 = 56 + 1 := ⟨by decide +kernel, rfl⟩
theorem dX10_isNoHunt_57 : decode cX10_isNoHunt 57 = .ok (.invokevirtual 93, 3) ∧ 60 = 57 + 3 := ⟨by decide +kernel, rfl⟩
theorem dX10_isNoHunt_60 : decode cX10_isNoHunt 60 = .ok (.if_icmp .ge 38, 3) ∧ 63 = 60 + 3 := ⟨by decide +kernel, rfl⟩
theorem dX10_isNoHunt_63 : decode cX10_isNoHunt 63 = .ok (.iload_n 3, 1) ∧ 64 = 63 + 1 := ⟨by decide +kernel, rfl⟩
theorem dX10_isNoHunt_64 : decode cX10_isNoHunt 64 = .ok (.aload_n 0, 1) ∧ 65 = 64 + 1 := ⟨by decide +kernel, rfl⟩
theorem dX10_isNoHunt_65 : decode cX10_isNoHunt 65 = .ok (.getfield 7, 3) ∧ 68 = 65 + 3 := ⟨by decide +kernel, rfl⟩
theorem dX10_isNoHunt_68 : decode cX10_isNoHunt 68 = .ok (.iload 4, 2) ∧ 70 = 68 + 2 := ⟨by decide +kernel, rfl⟩
theorem dX10_isNoHunt_70 : decode cX10_isNoHunt 70 = .ok (.invokestatic 96, 3) ∧ 73 = 70 + 3 := ⟨by decide +kernel, rfl⟩
theorem dX10_isNoHunt_73 : decode cX10_isNoHunt 73 = .ok (.iconst 0, 1) ∧ 74 = 73 + 1 := ⟨by decide +kernel, rfl⟩
theorem dX10_isNoHunt_74 : decode cX10_isNoHunt 74 = .ok (.iadd, 1) ∧ 75 = 74 + 1 := ⟨by decide +kernel, rfl⟩
theorem dX10_isNoHunt_75 : decode cX10_isNoHunt 75 = .ok (.laload, 1) ∧ 76 = 75 + 1 := ⟨by decide +kernel, rfl⟩
theorem dX10_isNoHunt_76 : decode cX10_isNoHunt 76 = .ok (.iload_n 1, 1) ∧ 77 = 76 + 1 := ⟨by decide +kernel, rfl⟩
theorem dX10_isNoHunt_77 : decode cX10_isNoHunt 77 = .ok (.i2l, 1) ∧ 78 = 77 + 1 := ⟨by decide +kernel, rfl⟩
theorem dX10_isNoHunt_78 : decode cX10_isNoHunt 78 = .ok (.lcmp, 1) ∧ 79 = 78 + 1 := ⟨by decide +kernel, rfl⟩
theorem dX10_isNoHunt_79 : decode cX10_isNoHunt 79 = .ok (.ifCond .ne 10, 3) ∧ 82 = 79 + 3 := ⟨by decide +kernel, rfl⟩
theorem dX10_isNoHunt_82 : decode cX10_isNoHunt 82 = .ok (.iconst 1, 1) ∧ 83 = 82 + 1 := ⟨by decide +kernel, rfl⟩
theorem dX10_isNoHunt_83 : decode cX10_isNoHunt 83 = .ok (.iload 4, 2) ∧ 85 = 83 + 2 := ⟨by decide +kernel, rfl⟩
theorem dX10_isNoHunt_85 : decode cX10_isNoHunt 85 = .ok (.ishl, 1) ∧ 86 = 85 + 1 := ⟨by decide +kernel, rfl⟩
theorem dX10_isNoHunt_86 : decode cX10_isNoHunt 86 = .ok (.goto 4, 3) ∧ 89 = 86 + 3 := ⟨by decide +kernel, rfl⟩
theorem dX10_isNoHunt_89 : decode cX10_isNoHunt 89 = .ok (.iconst 0, 1) ∧ 90 = 89 + 1 := ⟨by decide +kernel, rfl⟩
theorem dX10_isNoHunt_90 : decode cX10_isNoHunt 90 = .ok (.ior, 1) ∧ 91 = 90 + 1 := ⟨by decide +kernel, rfl⟩
theorem dX10_isNoHunt_91 : decode cX10_isNoHunt 91 = .ok (.istore_n 3, 1) ∧ 92 = 91 + 1 := ⟨by decide +kernel, rfl⟩
theorem dX10_isNoHunt_92 : decode cX10_isNoHunt 92 = .ok (.iinc 4 1, 3) ∧ 95 = 92 + 3 := ⟨by decide +kernel, rfl⟩
theorem dX10_isNoHunt_95 : decode cX10_isNoHunt 95 = .ok (.goto (-42), 3) ∧ 98 = 95 + 3 := ⟨by decide +kernel, rfl⟩
theorem dX10_isNoHunt_98 : decode cX10_isNoHunt 98 = .ok (.aload_n 0, 1) ∧ 99 = 98 + 1 := ⟨by decide +kernel, rfl⟩
theorem dX10_isNoHunt_99 : decode cX10_isNoHunt 99 = .ok (.iconst 0, 1) ∧ 100 = 99 + 1 := ⟨by decide +kernel, rfl⟩
theorem dX10_isNoHunt_100 : decode cX10_isNoHunt 100 = .ok (.putfield 408, 3) ∧ 103 = 100 + 3 := ⟨by decide +kernel, rfl⟩
theorem dX10_isNoHunt_103 : decode cX10_isNoHunt 103 = .ok (.aload_n 0, 1) ∧ 104 = 103 + 1 := ⟨by decide +kernel, rfl⟩
theorem dX10_isNoHunt_104 : decode cX10_isNoHunt 104 = .ok (.iconst 0, 1) ∧ 105 = 104 + 1 := ⟨by decide +kernel, rfl⟩
theorem dX10_isNoHunt_105 : decode cX10_isNoHunt 105 = .ok (.putfield 411, 3) ∧ 108 = 105 + 3 := ⟨by decide +kernel, rfl⟩
theorem dX10_isNoHunt_108 : decode cX10_isNoHunt 108 = .ok (.aload_n 0, 1) ∧ 109 = 108 + 1 := ⟨by decide +kernel, rfl⟩
theorem dX10_isNoHunt_109 : decode cX10_isNoHunt 109 = .ok (.iload_n 3, 1) ∧ 110 = 109 + 1 := ⟨by decide +kernel, rfl⟩
theorem dX10_isNoHunt_110 : decode cX10_isNoHunt 110 = .ok (.iload_n 2, 1) ∧ 111 = 110 + 1 := ⟨by decide +kernel, rfl⟩
theorem dX10_isNoHunt_111 : decode cX10_isNoHunt 111 = .ok (.invokevirtual 417, 3) ∧ 114 = 111 + 3 := ⟨by decide +kernel, rfl⟩
theorem dX10_isNoHunt_114 : decode cX10_isNoHunt 114 = .ok (.iconst 0, 1) ∧ 115 = 114 + 1 := ⟨by decide +kernel, rfl⟩
theorem dX10_isNoHunt_115 : decode cX10_isNoHunt 115 = .ok (.ireturn, 1) ∧ 116 = 115 + 1 := ⟨by decide +kernel, rfl⟩
theorem dX10_sprays_0 : decode cX10_sprays 0 = .ok (.aload_n 0, 1) ∧ 1 = 0 + 1 := ⟨by decide +kernel, rfl⟩
theorem dX10_sprays_1 : decode cX10_sprays 1 = .ok (.iload_n 1, 1) ∧ 2 = 1 + 1 := ⟨by decide +kernel, rfl⟩
theorem dX10_sprays_2 : decode cX10_sprays 2 = .ok (.iload_n 2, 1) ∧ 3 = 2 + 1 := ⟨by decide +kernel, rfl⟩
theorem dX10_sprays_3 : decode cX10_sprays 3 = .ok (.invokevirtual 421, 3) ∧ 6 = 3 + 3 := ⟨by decide +kernel, rfl⟩
theorem dX10_sprays_6 : decode cX10_sprays 6 = .ok (.ifCond .eq 7, 3) ∧ 9 = 6 + 3 := ⟨by decide +kernel, rfl⟩
theorem dX10_sprays_9 : decode cX10_sprays 9 = .ok (.iconst 0, 1) ∧ 10 = 9 + 1 := ⟨by decide +kernel, rfl⟩
theorem dX10_sprays_10 : decode cX10_sprays 10 = .ok (.goto 7, 3) ∧ 13 = 10 + 3 := ⟨by decide +kernel, rfl⟩
theorem dX10_sprays_13 : decode cX10_sprays 13 = .ok (.aload_n 0, 1) ∧ 14 = 13 + 1 := ⟨by decide +kernel, rfl⟩
theorem dX10_sprays_14 : decode cX10_sprays 14 = .ok (.getfield 408, 3) ∧ 17 = 14 + 3 := ⟨by decide +kernel, rfl⟩
theorem dX10_sprays_17 : decode cX10_sprays 17 = .ok (.ireturn, 1) ∧ 18 = 17 + 1 := ⟨by decide +kernel, rfl⟩
theorem dX10_found_0 : decode cX10_found 0 = .ok (.aload_n 0, 1) ∧ 1 = 0 + 1 := ⟨by decide +kernel, rfl⟩
theorem dX10_found_1 : decode cX10_found 1 = .ok (.iload_n 1, 1) ∧ 2 = 1 + 1 := ⟨by decide +kernel, rfl⟩
theorem dX10_found_2 : decode cX10_found 2 = .ok (.iload_n 2, 1) ∧ 3 = 2 + 1 := ⟨by decide +kernel, rfl⟩
theorem dX10_found_3 : decode cX10_found 3 = .ok (.invokevirtual 421, 3) ∧ 6 = 3 + 3 := ⟨by decide +kernel, rfl⟩
theorem dX10_found_6 : decode cX10_found 6 = .ok (.ifCond .eq 7, 3) ∧ 9 = 6 + 3 := ⟨by decide +kernel, rfl⟩
theorem dX10_found_9 : decode cX10_found 9 = .ok (.iconst 0, 1) ∧ 10 = 9 + 1 := ⟨by decide +kernel, rfl⟩
theorem dX10_found_10 : decode cX10_found 10 = .ok (.goto 7, 3) ∧ 13 = 10 + 3 := ⟨by decide +kernel, rfl⟩
theorem dX10_found_13 : decode cX10_found 13 = .ok (.aload_n 0, 1) ∧ 14 = 13 + 1 := ⟨by decide +kernel, rfl⟩
theorem dX10_found_14 : decode cX10_found 14 = .ok (.getfield 411, 3) ∧ 17 = 14 + 3 := ⟨by decide +kernel, rfl⟩
theorem dX10_found_17 : decode cX10_found 17 = .ok (.ireturn, 1) ∧ 18 = 17 + 1 := ⟨by decide +kernel, rfl⟩
theorem dX10_worstFlange_0 : decode cX10_worstFlange 0 = .ok (.aload_n 0, 1) ∧ 1 = 0 + 1 := ⟨by decide +kernel, rfl⟩
theorem dX10_worstFlange_1 : decode cX10_worstFlange 1 = .ok (.aload_n 0, 1) ∧ 2 = 1 + 1 := ⟨by decide +kernel, rfl⟩
theorem dX10_worstFlange_2 : decode cX10_worstFlange 2 = .ok (.getfield 7, 3) ∧ 5 = 2 + 3 := ⟨by decide +kernel, rfl⟩
theorem dX10_worstFlange_5 : decode cX10_worstFlange 5 = .ok (.iconst 3, 1) ∧ 6 = 5 + 1 := ⟨by decide +kernel, rfl⟩
theorem dX10_worstFlange_6 : decode cX10_worstFlange 6 = .ok (.laload, 1) ∧ 7 = 6 + 1 := ⟨by decide +kernel, rfl⟩
theorem dX10_worstFlange_7 : decode cX10_worstFlange 7 = .ok (.lconst 0, 1) ∧ 8 = 7 + 1 := ⟨by decide +kernel, rfl⟩
theorem dX10_worstFlange_8 : decode cX10_worstFlange 8 = .ok (.lcmp, 1) ∧ 9 = 8 + 1 := ⟨by decide +kernel, rfl⟩
theorem dX10_worstFlange_9 : decode cX10_worstFlange 9 = .ok (.ifCond .ne 7, 3) ∧ 12 = 9 + 3 := ⟨by decide +kernel, rfl⟩
theorem dX10_worstFlange_12 : decode cX10_worstFlange 12 = .ok (.iconst 1, 1) ∧ 13 = 12 + 1 := ⟨by decide +kernel, rfl⟩
theorem dX10_worstFlange_13 : decode cX10_worstFlange 13 = .ok (.goto 4, 3) ∧ 16 = 13 + 3 := ⟨by decide +kernel, rfl⟩
theorem dX10_worstFlange_16 : decode cX10_worstFlange 16 = .ok (.iconst 0, 1) ∧ 17 = 16 + 1 := ⟨by decide +kernel, rfl⟩
theorem dX10_worstFlange_17 : decode cX10_worstFlange 17 = .ok (.iconst 1, 1) ∧ 18 = 17 + 1 := ⟨by decide +kernel, rfl⟩
theorem dX10_worstFlange_18 : decode cX10_worstFlange 18 = .ok (.invokevirtual 151, 3) ∧ 21 = 18 + 3 := ⟨by decide +kernel, rfl⟩
theorem dX10_worstFlange_21 : decode cX10_worstFlange 21 = .ok (.ifCond .eq 5, 3) ∧ 24 = 21 + 3 := ⟨by decide +kernel, rfl⟩
theorem dX10_worstFlange_24 : decode cX10_worstFlange 24 = .ok (.iconst 0, 1) ∧ 25 = 24 + 1 := ⟨by decide +kernel, rfl⟩
theorem dX10_worstFlange_25 : decode cX10_worstFlange 25 = .ok (.ireturn, 1) ∧ 26 = 25 + 1 := ⟨by decide +kernel, rfl⟩
theorem dX10_worstFlange_26 : decode cX10_worstFlange 26 = .ok (.iconst 0, 1) ∧ 27 = 26 + 1 := ⟨by decide +kernel, rfl⟩
theorem dX10_worstFlange_27 : decode cX10_worstFlange 27 = .ok (.istore_n 1, 1) ∧ 28 = 27 + 1 := ⟨by decide +kernel, rfl⟩
theorem dX10_worstFlange_28 : decode cX10_worstFlange 28 = .ok (.iconst 1, 1) ∧ 29 = 28 + 1 := ⟨by decide +kernel, rfl⟩
theorem dX10_worstFlange_29 : decode cX10_worstFlange 29 = .ok (.istore_n 2, 1) ∧ 30 = 29 + 1 := ⟨by decide +kernel, rfl⟩
theorem dX10_worstFlange_30 : decode cX10_worstFlange 30 = .ok (.iload_n 2, 1) ∧ 31 = 30 + 1 := ⟨by decide +kernel, rfl⟩
theorem dX10_worstFlange_31 : decode cX10_worstFlange 31 = .ok (.aload_n 0, 1) ∧ 32 = 31 + 1 := ⟨by decide +kernel, rfl⟩
theorem dX10_worstFlange_32 : decode cX10_worstFlange 32 = .ok (.iconst 3, 1) ∧ 33 = 32 + 1 := ⟨by decide +kernel, rfl⟩
theorem dX10_worstFlange_33 : decode cX10_worstFlange 33 = .ok (.invokevirtual 93, 3) ∧ 36 = 33 + 3 := ⟨by decide +kernel, rfl⟩
theorem dX10_worstFlange_36 : decode cX10_worstFlange 36 = .ok (.if_icmp .ge 41, 3) ∧ 39 = 36 + 3 := ⟨by decide +kernel, rfl⟩
theorem dX10_worstFlange_39 : decode cX10_worstFlange 39 = .ok (.aload_n 0, 1) ∧ 40 = 39 + 1 := ⟨by decide +kernel, rfl⟩
theorem dX10_worstFlange_40 : decode cX10_worstFlange 40 = .ok (.getfield 7, 3) ∧ 43 = 40 + 3 := ⟨by decide +kernel, rfl⟩
theorem dX10_worstFlange_43 : decode cX10_worstFlange 43 = .ok (.iload_n 2, 1) ∧ 44 = 43 + 1 := ⟨by decide +kernel, rfl⟩
theorem dX10_worstFlange_44 : decode cX10_worstFlange 44 = .ok (.invokestatic 96, 3) ∧ 47 = 44 + 3 := ⟨by decide +kernel, rfl⟩
theorem dX10_worstFlange_47 : decode cX10_worstFlange 47 = .ok (.iconst 1, 1) ∧ 48 = 47 + 1 := ⟨by decide +kernel, rfl⟩
theorem dX10_worstFlange_48 : decode cX10_worstFlange 48 = .ok (.iadd, 1) ∧ 49 = 48 + 1 := ⟨by decide +kernel, rfl⟩
theorem dX10_worstFlange_49 : decode cX10_worstFlange 49 = .ok (.laload, 1) ∧ 50 = 49 + 1 := ⟨by decide +kernel, rfl⟩
theorem dX10_worstFlange_50 : decode cX10_worstFlange 50 = .ok (.aload_n 0, 1) ∧ 51 = 50 + 1 := ⟨by decide +kernel, rfl⟩
theorem dX10_worstFlange_51 : decode cX10_worstFlange 51 = .ok (.getfield 7, 3) ∧ 54 = 51 + 3 := ⟨by decide +kernel, rfl⟩
theorem dX10_worstFlange_54 : decode cX10_worstFlange 54 = .ok (.iload_n 1, 1) ∧ 55 = 54 + 1 := ⟨by decide +kernel, rfl⟩
theorem dX10_worstFlange_55 : decode cX10_worstFlange 55 = .ok (.invokestatic 96, 3) ∧ 58 = 55 + 3 := ⟨by decide +kernel, rfl⟩
theorem dX10_worstFlange_58 : decode cX10_worstFlange 58 = .ok (.iconst 1, 1) ∧ 59 = 58 + 1 := ⟨by decide +kernel, rfl⟩
theorem dX10_worstFlange_59 : decode cX10_worstFlange 59 = .ok (.iadd, 1) ∧ 60 = 59 + 1 := ⟨by decide +kernel, rfl⟩
theorem dX10_worstFlange_60 : decode cX10_worstFlange 60 = .ok (.laload, 1) ∧ 61 = 60 + 1 := ⟨by decide +kernel, rfl⟩
theorem dX10_worstFlange_61 : decode cX10_worstFlange 61 = .ok (.lcmp, 1) ∧ 62 = 61 + 1 := ⟨by decide +kernel, rfl⟩
theorem dX10_worstFlange_62 : decode cX10_worstFlange 62 = .ok (.ifCond .le 7, 3) ∧ 65 = 62 + 3 := ⟨by decide +kernel, rfl⟩
theorem dX10_worstFlange_65 : decode cX10_worstFlange 65 = .ok (.iload_n 2, 1) ∧ 66 = 65 + 1 := ⟨by decide +kernel, rfl⟩
theorem dX10_worstFlange_66 : decode cX10_worstFlange 66 = .ok (.goto 4, 3) ∧ 69 = 66 + 3 := ⟨by decide +kernel, rfl⟩
theorem dX10_worstFlange_69 : decode cX10_worstFlange 69 = .ok (.iload_n 1, 1) ∧ 70 = 69 + 1 := ⟨by decide +kernel, rfl⟩
theorem dX10_worstFlange_70 : decode cX10_worstFlange 70 = .ok (.istore_n 1, 1) ∧ 71 = 70 + 1 := ⟨by decide +kernel, rfl⟩
theorem dX10_worstFlange_71 : decode cX10_worstFlange 71 = .ok (.iinc 2 1, 3) ∧ 74 = 71 + 3 := ⟨by decide +kernel, rfl⟩
theorem dX10_worstFlange_74 : decode cX10_worstFlange 74 = .ok (.goto (-44), 3) ∧ 77 = 74 + 3 := ⟨by decide +kernel, rfl⟩
theorem dX10_worstFlange_77 : decode cX10_worstFlange 77 = .ok (.iload_n 1, 1) ∧ 78 = 77 + 1 := ⟨by decide +kernel, rfl⟩
theorem dX10_worstFlange_78 : decode cX10_worstFlange 78 = .ok (.ireturn, 1) ∧ 79 = 78 + 1 := ⟨by decide +kernel, rfl⟩
theorem dX10_print_0 : decode cX10_print 0 = .ok (.aload_n 0, 1) ∧ 1 = 0 + 1 := ⟨by decide +kernel, rfl⟩
theorem dX10_print_1 : decode cX10_print 1 = .ok (.getfield 33, 3) ∧ 4 = 1 + 3 := ⟨by decide +kernel, rfl⟩
theorem dX10_print_4 : decode cX10_print 4 = .ok (.aload_n 0, 1) ∧ 5 = 4 + 1 := ⟨by decide +kernel, rfl⟩
theorem dX10_print_5 : decode cX10_print 5 = .ok (.getfield 424, 3) ∧ 8 = 5 + 3 := ⟨by decide +kernel, rfl⟩
theorem dX10_print_8 : decode cX10_print 8 = .ok (.iload_n 1, 1) ∧ 9 = 8 + 1 := ⟨by decide +kernel, rfl⟩
theorem dX10_print_9 : decode cX10_print 9 = .ok (.i2b, 1) ∧ 10 = 9 + 1 := ⟨by decide +kernel, rfl⟩
theorem dX10_print_10 : decode cX10_print 10 = .ok (.bastore, 1) ∧ 11 = 10 + 1 := ⟨by decide +kernel, rfl⟩
theorem dX10_print_11 : decode cX10_print 11 = .ok (.aload_n 0, 1) ∧ 12 = 11 + 1 := ⟨by decide +kernel, rfl⟩
theorem dX10_print_12 : decode cX10_print 12 = .ok (.dup, 1) ∧ 13 = 12 + 1 := ⟨by decide +kernel, rfl⟩
theorem dX10_print_13 : decode cX10_print 13 = .ok (.getfield 424, 3) ∧ 16 = 13 + 3 := ⟨by decide +kernel, rfl⟩
theorem dX10_print_16 : decode cX10_print 16 = .ok (.iconst 1, 1) ∧ 17 = 16 + 1 := ⟨by decide +kernel, rfl⟩
theorem dX10_print_17 : decode cX10_print 17 = .ok (.iadd, 1) ∧ 18 = 17 + 1 := ⟨by decide +kernel, rfl⟩
theorem dX10_print_18 : decode cX10_print 18 = .ok (.putfield 424, 3) ∧ 21 = 18 + 3 := ⟨by decide +kernel, rfl⟩
theorem dX10_print_21 : decode cX10_print 21 = .ok (.return_, 1) ∧ 22 = 21 + 1 := ⟨by decide +kernel, rfl⟩
theorem dX10_printNumber_0 : decode cX10_printNumber 0 = .ok (.lload_n 1, 1) ∧ 1 = 0 + 1 := ⟨by decide +kernel, rfl⟩
theorem dX10_printNumber_1 : decode cX10_printNumber 1 = .ok (.ldc2_w 209, 3) ∧ 4 = 1 + 3 := ⟨by decide +kernel, rfl⟩
theorem dX10_printNumber_4 : decode cX10_printNumber 4 = .ok (.lcmp, 1) ∧ 5 = 4 + 1 := ⟨by decide +kernel, rfl⟩
theorem dX10_printNumber_5 : decode cX10_printNumber 5 = .ok (.ifCond .le 12, 3) ∧ 8 = 5 + 3 := ⟨by decide +kernel, rfl⟩
theorem dX10_printNumber_8 : decode cX10_printNumber 8 = .ok (.aload_n 0, 1) ∧ 9 = 8 + 1 := ⟨by decide +kernel, rfl⟩
theorem dX10_printNumber_9 : decode cX10_printNumber 9 = .ok (.lload_n 1, 1) ∧ 10 = 9 + 1 := ⟨by decide +kernel, rfl⟩
theorem dX10_printNumber_10 : decode cX10_printNumber 10 = .ok (.ldc2_w 207, 3) ∧ 13 = 10 + 3 := ⟨by decide +kernel, rfl⟩
theorem dX10_printNumber_13 : decode cX10_printNumber 13 = .ok (.ldiv, 1) ∧ 14 = 13 + 1 := ⟨by decide +kernel, rfl⟩
theorem dX10_printNumber_14 : decode cX10_printNumber 14 = .ok (.invokevirtual 427, 3) ∧ 17 = 14 + 3 := ⟨by decide +kernel, rfl⟩
theorem dX10_printNumber_17 : decode cX10_printNumber 17 = .ok (.aload_n 0, 1) ∧ 18 = 17 + 1 := ⟨by decide +kernel, rfl⟩
theorem dX10_printNumber_18 : decode cX10_printNumber 18 = .ok (.ldc2_w 239, 3) ∧ 21 = 18 + 3 := ⟨by decide +kernel, rfl⟩
theorem dX10_printNumber_21 : decode cX10_printNumber 21 = .ok (.lload_n 1, 1) ∧ 22 = 21 + 1 := ⟨by decide +kernel, rfl⟩
theorem dX10_printNumber_22 : decode cX10_printNumber 22 = .ok (.ldc2_w 207, 3) ∧ 25 = 22 + 3 := ⟨by decide +kernel, rfl⟩
theorem dX10_printNumber_25 : decode cX10_printNumber 25 = .ok (.lrem, 1) ∧ 26 = 25 + 1 := ⟨by decide +kernel, rfl⟩
theorem dX10_printNumber_26 : decode cX10_printNumber 26 = .ok (.ladd, 1) ∧ 27 = 26 + 1 := ⟨by decide +kernel, rfl⟩
theorem dX10_printNumber_27 : decode cX10_printNumber 27 = .ok (.l2i, 1) ∧ 28 = 27 + 1 := ⟨by decide +kernel, rfl⟩
theorem dX10_printNumber_28 : decode cX10_printNumber 28 = .ok (.invokevirtual 431, 3) ∧ 31 = 28 + 3 := ⟨by decide +kernel, rfl⟩
theorem dX10_printNumber_31 : decode cX10_printNumber 31 = .ok (.return_, 1) ∧ 32 = 31 + 1 := ⟨by decide +kernel, rfl⟩
theorem dX10_printMark_0 : decode cX10_printMark 0 = .ok (.aload_n 0, 1) ∧ 1 = 0 + 1 := ⟨by decide +kernel, rfl⟩
theorem dX10_printMark_1 : decode cX10_printMark 1 = .ok (.bipush 32, 2) ∧ 3 = 1 + 2 := ⟨by decide +kernel, rfl⟩
theorem dX10_printMark_3 : decode cX10_printMark 3 = .ok (.invokevirtual 431, 3) ∧ 6 = 3 + 3 := ⟨by decide +kernel, rfl⟩
theorem dX10_printMark_6 : decode cX10_printMark 6 = .ok (.aload_n 0, 1) ∧ 7 = 6 + 1 := ⟨by decide +kernel, rfl⟩
theorem dX10_printMark_7 : decode cX10_printMark 7 = .ok (.iload_n 1, 1) ∧ 8 = 7 + 1 := ⟨by decide +kernel, rfl⟩
theorem dX10_printMark_8 : decode cX10_printMark 8 = .ok (.invokevirtual 431, 3) ∧ 11 = 8 + 3 := ⟨by decide +kernel, rfl⟩
theorem dX10_printMark_11 : decode cX10_printMark 11 = .ok (.aload_n 0, 1) ∧ 12 = 11 + 1 := ⟨by decide +kernel, rfl⟩
theorem dX10_printMark_12 : decode cX10_printMark 12 = .ok (.iload_n 2, 1) ∧ 13 = 12 + 1 := ⟨by decide +kernel, rfl⟩
theorem dX10_printMark_13 : decode cX10_printMark 13 = .ok (.i2l, 1) ∧ 14 = 13 + 1 := ⟨by decide +kernel, rfl⟩
theorem dX10_printMark_14 : decode cX10_printMark 14 = .ok (.invokevirtual 427, 3) ∧ 17 = 14 + 3 := ⟨by decide +kernel, rfl⟩
theorem dX10_printMark_17 : decode cX10_printMark 17 = .ok (.return_, 1) ∧ 18 = 17 + 1 := ⟨by decide +kernel, rfl⟩
theorem dX10_printChamber_0 : decode cX10_printChamber 0 = .ok (.ldc_w 434, 3) ∧ 3 = 0 + 3 := ⟨by decide +kernel, rfl⟩
theorem dX10_printChamber_3 : decode cX10_printChamber 3 = .ok (.astore_n 2, 1) ∧ 4 = 3 + 1 := ⟨by decide +kernel, rfl⟩
theorem dX10_printChamber_4 : decode cX10_printChamber 4 = .ok (.iconst 0, 1) ∧ 5 = 4 + 1 := ⟨by decide +kernel, rfl⟩
theorem dX10_printChamber_5 : decode cX10_printChamber 5 = .ok (.istore_n 3, 1) ∧ 6 = 5 + 1 := ⟨by decide +kernel, rfl⟩
theorem dX10_printChamber_6 : decode cX10_printChamber 6 = .ok (.iload_n 3, 1) ∧ 7 = 6 + 1 := ⟨by decide +kernel, rfl⟩
theorem dX10_printChamber_7 : decode cX10_printChamber 7 = .ok (.aload_n 2, 1) ∧ 8 = 7 + 1 := ⟨by decide +kernel, rfl⟩
theorem dX10_printChamber_8 : decode cX10_printChamber 8 = .ok (.invokevirtual 258, 3) ∧ 11 = 8 + 3 := ⟨by decide +kernel, rfl⟩
theorem dX10_printChamber_11 : decode cX10_printChamber 11 = .ok (.if_icmp .ge 18, 3) ∧ 14 = 11 + 3 := ⟨by decide +kernel, rfl⟩
theorem dX10_printChamber_14 : decode cX10_printChamber 14 = .ok (.aload_n 0, 1) ∧ 15 = 14 + 1 := ⟨by decide +kernel, rfl⟩
theorem dX10_printChamber_15 : decode cX10_printChamber 15 = .ok (.aload_n 2, 1) ∧ 16 = 15 + 1 := ⟨by decide +kernel, rfl⟩
theorem dX10_printChamber_16 : decode cX10_printChamber 16 = .ok (.iload_n 3, 1) ∧ 17 = 16 + 1 := ⟨by decide +kernel, rfl⟩
theorem dX10_printChamber_17 : decode cX10_printChamber 17 = .ok (.invokevirtual 262, 3) ∧ 20 = 17 + 3 := ⟨by decide +kernel, rfl⟩
theorem dX10_printChamber_20 : decode cX10_printChamber 20 = .ok (.invokevirtual 431, 3) ∧ 23 = 20 + 3 := ⟨by decide +kernel, rfl⟩
theorem dX10_printChamber_23 : decode cX10_printChamber 23 = .ok (.iinc 3 1, 3) ∧ 26 = 23 + 3 := ⟨by decide +kernel, rfl⟩
theorem dX10_printChamber_26 : decode cX10_printChamber 26 = .ok (.goto (-20), 3) ∧ 29 = 26 + 3 := ⟨by decide +kernel, rfl⟩
theorem dX10_printChamber_29 : decode cX10_printChamber 29 = .ok (.aload_n 0, 1) ∧ 30 = 29 + 1 := ⟨by decide +kernel, rfl⟩
theorem dX10_printChamber_30 : decode cX10_printChamber 30 = .ok (.iload_n 1, 1) ∧ 31 = 30 + 1 := ⟨by decide +kernel, rfl⟩
theorem dX10_printChamber_31 : decode cX10_printChamber 31 = .ok (.i2l, 1) ∧ 32 = 31 + 1 := ⟨by decide +kernel, rfl⟩
theorem dX10_printChamber_32 : decode cX10_printChamber 32 = .ok (.invokevirtual 427, 3) ∧ 35 = 32 + 3 := ⟨by decide +kernel, rfl⟩
theorem dX10_printChamber_35 : decode cX10_printChamber 35 = .ok (.aload_n 0, 1) ∧ 36 = 35 + 1 := ⟨by decide +kernel, rfl⟩
theorem dX10_printChamber_36 : decode cX10_printChamber 36 = .ok (.bipush 32, 2) ∧ 38 = 36 + 2 := ⟨by decide +kernel, rfl⟩
theorem dX10_printChamber_38 : decode cX10_printChamber 38 = .ok (.invokevirtual 431, 3) ∧ 41 = 38 + 3 := ⟨by decide +kernel, rfl⟩
theorem dX10_printChamber_41 : decode cX10_printChamber 41 = .ok (.aload_n 0, 1) ∧ 42 = 41 + 1 := ⟨by decide +kernel, rfl⟩
theorem dX10_printChamber_42 : decode cX10_printChamber 42 = .ok (.aload_n 0, 1) ∧ 43 = 42 + 1 := ⟨by decide +kernel, rfl⟩
theorem dX10_printChamber_43 : decode cX10_printChamber 43 = .ok (.iload_n 1, 1) ∧ 44 = 43 + 1 := ⟨by decide +kernel, rfl⟩
theorem dX10_printChamber_44 : decode cX10_printChamber 44 = .ok (.invokevirtual 78, 3) ∧ 47 = 44 + 3 := ⟨by decide +kernel, rfl⟩
theorem dX10_printChamber_47 : decode cX10_printChamber 47 = .ok (.invokevirtual 427, 3) ∧ 50 = 47 + 3 := ⟨by decide +kernel, rfl⟩
theorem dX10_printChamber_50 : decode cX10_printChamber 50 = .ok (.iconst 0, 1) ∧ 51 = 50 + 1 := ⟨by decide +kernel, rfl⟩
theorem dX10_printChamber_51 : decode cX10_printChamber 51 = .ok (.istore_n 3, 1) ∧ 52 = 51 + 1 := ⟨by decide +kernel, rfl⟩
theorem dX10_printChamber_52 : decode cX10_printChamber 52 = .ok (.iload_n 3, 1) ∧ 53 = 52 + 1 := ⟨by decide +kernel, rfl⟩
theorem dX10_printChamber_53 : decode cX10_printChamber 53 = .ok (.aload_n 0, 1) ∧ 54 = 53 + 1 := ⟨by decide +kernel, rfl⟩
theorem dX10_printChamber_54 : decode cX10_printChamber 54 = .ok (.iconst 2, 1) ∧ 55 = 54 + 1 := ⟨by decide +kernel, rfl⟩
theorem dX10_printChamber_55 : decode cX10_printChamber 55 = .ok (.invokevirtual 93, 3) ∧ 58 = 55 + 3 := ⟨by decide +kernel, rfl⟩
theorem dX10_printChamber_58 : decode cX10_printChamber 58 = .ok (.if_icmp .ge 37, 3) ∧ 61 = 58 + 3 := ⟨by decide +kernel, rfl⟩
theorem dX10_printChamber_61 : decode cX10_printChamber 61 = .ok (.aload_n 0, 1) ∧ 62 = 61 + 1 := ⟨by decide +kernel, rfl⟩
theorem dX10_printChamber_62 : decode cX10_printChamber 62 = .ok (.iload_n 3, 1) ∧ 63 = 62 + 1 := ⟨by decide +kernel, rfl⟩
theorem dX10_printChamber_63 : decode cX10_printChamber 63 = .ok (.invokevirtual 99, 3) ∧ 66 = 63 + 3 := ⟨by decide +kernel, rfl⟩
theorem dX10_printChamber_66 : decode cX10_printChamber 66 = .ok (.ifCond .eq 23, 3) ∧ 69 = 66 + 3 := ⟨by decide +kernel, rfl⟩
theorem dX10_printChamber_69 : decode cX10_printChamber 69 = .ok (.aload_n 0, 1) ∧ 70 = 69 + 1 := ⟨by decide +kernel, rfl⟩
theorem dX10_printChamber_70 : decode cX10_printChamber 70 = .ok (.iload_n 1, 1) ∧ 71 = 70 + 1 := ⟨by decide +kernel, rfl⟩
theorem dX10_printChamber_71 : decode cX10_printChamber 71 = .ok (.invokevirtual 364, 3) ∧ 74 = 71 + 3 := ⟨by decide +kernel, rfl⟩
theorem dX10_printChamber_74 : decode cX10_printChamber 74 = .ok (.iload_n 3, 1) ∧ 75 = 74 + 1 := ⟨by decide +kernel, rfl⟩
theorem dX10_printChamber_75 : decode cX10_printChamber 75 = .ok (.ishr, 1) ∧ 76 = 75 + 1 := ⟨by decide +kernel, rfl⟩
theorem dX10_printChamber_76 : decode cX10_printChamber 76 = .ok (.iconst 1, 1) ∧ 77 = 76 + 1 := ⟨by decide +kernel, rfl⟩
theorem dX10_printChamber_77 : decode cX10_printChamber 77 = .ok (.iand, 1) ∧ 78 = 77 + 1 := ⟨by decide +kernel, rfl⟩
theorem dX10_printChamber_78 : decode cX10_printChamber 78 = .ok (.iconst 1, 1) ∧ 79 = 78 + 1 := ⟨by decide +kernel, rfl⟩
theorem dX10_printChamber_79 : decode cX10_printChamber 79 = .ok (.if_icmp .ne 10, 3) ∧ 82 = 79 + 3 := ⟨by decide +kernel, rfl⟩
theorem dX10_printChamber_82 : decode cX10_printChamber 82 = .ok (.aload_n 0, 1) ∧ 83 = 82 + 1 := ⟨by decide +kernel, rfl⟩
theorem dX10_printChamber_83 : decode cX10_printChamber 83 = .ok (.bipush 118, 2) ∧ 85 = 83 + 2 := ⟨by decide +kernel, rfl⟩
theorem dX10_printChamber_85 : decode cX10_printChamber 85 = .ok (.iload_n 3, 1) ∧ 86 = 85 + 1 := ⟨by decide +kernel, rfl⟩
theorem dX10_printChamber_86 : decode cX10_printChamber 86 = .ok (.invokevirtual 436, 3) ∧ 89 = 86 + 3 := ⟨by decide +kernel, rfl⟩
theorem dX10_printChamber_89 : decode cX10_printChamber 89 = .ok (.iinc 3 1, 3) ∧ 92 = 89 + 3 := ⟨by decide +kernel, rfl⟩
theorem dX10_printChamber_92 : decode cX10_printChamber 92 = .ok (.goto (-40), 3) ∧ 95 = 92 + 3 := ⟨by decide +kernel, rfl⟩
theorem dX10_printChamber_95 : decode cX10_printChamber 95 = .ok (.iconst 0, 1) ∧ 96 = 95 + 1 := ⟨by decide +kernel, rfl⟩
theorem dX10_printChamber_96 : decode cX10_printChamber 96 = .ok (.istore_n 3, 1) ∧ 97 = 96 + 1 := ⟨by decide +kernel, rfl⟩
theorem dX10_printChamber_97 : decode cX10_printChamber 97 = .ok (.iload_n 3, 1) ∧ 98 = 97 + 1 := ⟨by decide +kernel, rfl⟩
theorem dX10_printChamber_98 : decode cX10_printChamber 98 = .ok (.aload_n 0, 1) ∧ 99 = 98 + 1 := ⟨by decide +kernel, rfl⟩
theorem dX10_printChamber_99 : decode cX10_printChamber 99 = .ok (.iconst 1, 1) ∧ 100 = 99 + 1 := ⟨by decide +kernel, rfl⟩
theorem dX10_printChamber_100 : decode cX10_printChamber 100 = .ok (.invokevirtual 93, 3) ∧ 103 = 100 + 3 := ⟨by decide +kernel, rfl⟩
theorem dX10_printChamber_103 : decode cX10_printChamber 103 = .ok (.if_icmp .ge 34, 3) ∧ 106 = 103 + 3 := ⟨by decide +kernel, rfl⟩
theorem dX10_printChamber_106 : decode cX10_printChamber 106 = .ok (.aload_n 0, 1) ∧ 107 = 106 + 1 := ⟨by decide +kernel, rfl⟩
theorem dX10_printChamber_107 : decode cX10_printChamber 107 = .ok (.iload_n 3, 1) ∧ 108 = 107 + 1 := ⟨by decide +kernel, rfl⟩
theorem dX10_printChamber_108 : decode cX10_printChamber 108 = .ok (.invokevirtual 135, 3) ∧ 111 = 108 + 3 := ⟨by decide +kernel, rfl⟩
theorem dX10_printChamber_111 : decode cX10_printChamber 111 = .ok (.ifCond .eq 20, 3) ∧ 114 = 111 + 3 := ⟨by decide +kernel, rfl⟩
theorem dX10_printChamber_114 : decode cX10_printChamber 114 = .ok (.aload_n 0, 1) ∧ 115 = 114 + 1 := ⟨by decide +kernel, rfl⟩
theorem dX10_printChamber_115 : decode cX10_printChamber 115 = .ok (.iload_n 3, 1) ∧ 116 = 115 + 1 := ⟨by decide +kernel, rfl⟩
theorem dX10_printChamber_116 : decode cX10_printChamber 116 = .ok (.iconst 0, 1) ∧ 117 = 116 + 1 := ⟨by decide +kernel, rfl⟩
theorem dX10_printChamber_117 : decode cX10_printChamber 117 = .ok (.invokevirtual 87, 3) ∧ 120 = 117 + 3 := ⟨by decide +kernel, rfl⟩
theorem dX10_printChamber_120 : decode cX10_printChamber 120 = .ok (.iload_n 1, 1) ∧ 121 = 120 + 1 := ⟨by decide +kernel, rfl⟩
theorem dX10_printChamber_121 : decode cX10_printChamber 121 = .ok (.if_icmp .ne 10, 3) ∧ 124 = 121 + 3 := ⟨by decide +kernel, rfl⟩
theorem dX10_printChamber_124 : decode cX10_printChamber 124 = .ok (.aload_n 0, 1) ∧ 125 = 124 + 1 := ⟨by decide +kernel, rfl⟩
theorem dX10_printChamber_125 : decode cX10_printChamber 125 = .ok (.bipush 112, 2) ∧ 127 = 125 + 2 := ⟨by decide +kernel, rfl⟩
theorem dX10_printChamber_127 : decode cX10_printChamber 127 = .ok (.iload_n 3, 1) ∧ 128 = 127 + 1 := ⟨by decide +kernel, rfl⟩
theorem dX10_printChamber_128 : decode cX10_printChamber 128 = .ok (.invokevirtual 436, 3) ∧ 131 = 128 + 3 := ⟨by decide +kernel, rfl⟩
theorem dX10_printChamber_131 : decode cX10_printChamber 131 = .ok (.iinc 3 1, 3) ∧ 134 = 131 + 3 := ⟨by decide +kernel, rfl⟩
theorem dX10_printChamber_134 : decode cX10_printChamber 134 = .ok (.goto (-37), 3) ∧ 137 = 134 + 3 := ⟨by decide +kernel, rfl⟩
theorem dX10_printChamber_137 : decode cX10_printChamber 137 = .ok (.aload_n 0, 1) ∧ 138 = 137 + 1 := ⟨by decide +kernel, rfl⟩
theorem dX10_printChamber_138 : decode cX10_printChamber 138 = .ok (.bipush 10, 2) ∧ 140 = 138 + 2 := ⟨by decide +kernel, rfl⟩
theorem dX10_printChamber_140 : decode cX10_printChamber 140 = .ok (.invokevirtual 431, 3) ∧ 143 = 140 + 3 := ⟨by decide +kernel, rfl⟩
theorem dX10_printChamber_143 : decode cX10_printChamber 143 = .ok (.return_, 1) ∧ 144 = 143 + 1 := ⟨by decide +kernel, rfl⟩
theorem dX10_writeReport_0 : decode cX10_writeReport 0 = .ok (.aload_n 0, 1) ∧ 1 = 0 + 1 := ⟨by decide +kernel, rfl⟩
theorem dX10_writeReport_1 : decode cX10_writeReport 1 = .ok (.iconst 0, 1) ∧ 2 = 1 + 1 := ⟨by decide +kernel, rfl⟩
theorem dX10_writeReport_2 : decode cX10_writeReport 2 = .ok (.putfield 36, 3) ∧ 5 = 2 + 3 := ⟨by decide +kernel, rfl⟩
theorem dX10_writeReport_5 : decode cX10_writeReport 5 = .ok (.aload_n 0, 1) ∧ 6 = 5 + 1 := ⟨by decide +kernel, rfl⟩
theorem dX10_writeReport_6 : decode cX10_writeReport 6 = .ok (.iconst 0, 1) ∧ 7 = 6 + 1 := ⟨by decide +kernel, rfl⟩
theorem dX10_writeReport_7 : decode cX10_writeReport 7 = .ok (.putfield 424, 3) ∧ 10 = 7 + 3 := ⟨by decide +kernel, rfl⟩
theorem dX10_writeReport_10 : decode cX10_writeReport 10 = .ok (.iconst 0, 1) ∧ 11 = 10 + 1 := ⟨by decide +kernel, rfl⟩
theorem dX10_writeReport_11 : decode cX10_writeReport 11 = .ok (.istore_n 1, 1) ∧ 12 = 11 + 1 := ⟨by decide +kernel, rfl⟩
theorem dX10_writeReport_12 : decode cX10_writeReport 12 = .ok (.iload_n 1, 1) ∧ 13 = 12 + 1 := ⟨by decide +kernel, rfl⟩
theorem dX10_writeReport_13 : decode cX10_writeReport 13 = .ok (.aload_n 0, 1) ∧ 14 = 13 + 1 := ⟨by decide +kernel, rfl⟩
theorem dX10_writeReport_14 : decode cX10_writeReport 14 = .ok (.iconst 0, 1) ∧ 15 = 14 + 1 := ⟨by decide +kernel, rfl⟩
theorem dX10_writeReport_15 : decode cX10_writeReport 15 = .ok (.invokevirtual 93, 3) ∧ 18 = 15 + 3 := ⟨by decide +kernel, rfl⟩
theorem dX10_writeReport_18 : decode cX10_writeReport 18 = .ok (.if_icmp .ge 14, 3) ∧ 21 = 18 + 3 := ⟨by decide +kernel, rfl⟩
theorem dX10_writeReport_21 : decode cX10_writeReport 21 = .ok (.aload_n 0, 1) ∧ 22 = 21 + 1 := ⟨by decide +kernel, rfl⟩
theorem dX10_writeReport_22 : decode cX10_writeReport 22 = .ok (.iload_n 1, 1) ∧ 23 = 22 + 1 := ⟨by decide +kernel, rfl⟩
theorem dX10_writeReport_23 : decode cX10_writeReport 23 = .ok (.invokevirtual 440, 3) ∧ 26 = 23 + 3 := ⟨by decide +kernel, rfl⟩
theorem dX10_writeReport_26 : decode cX10_writeReport 26 = .ok (.iinc 1 1, 3) ∧ 29 = 26 + 3 := ⟨by decide +kernel, rfl⟩
theorem dX10_writeReport_29 : decode cX10_writeReport 29 = .ok (.goto (-17), 3) ∧ 32 = 29 + 3 := ⟨by decide +kernel, rfl⟩
theorem dX10_writeReport_32 : decode cX10_writeReport 32 = .ok (.aload_n 0, 1) ∧ 33 = 32 + 1 := ⟨by decide +kernel, rfl⟩
theorem dX10_writeReport_33 : decode cX10_writeReport 33 = .ok (.getfield 424, 3) ∧ 36 = 33 + 3 := ⟨by decide +kernel, rfl⟩
theorem dX10_writeReport_36 : decode cX10_writeReport 36 = .ok (.ireturn, 1) ∧ 37 = 36 + 1 := ⟨by decide +kernel, rfl⟩
theorem dX10_reportByte_0 : decode cX10_reportByte 0 = .ok (.aload_n 0, 1) ∧ 1 = 0 + 1 := ⟨by decide +kernel, rfl⟩
theorem dX10_reportByte_1 : decode cX10_reportByte 1 = .ok (.iload_n 1, 1) ∧ 2 = 1 + 1 := ⟨by decide +kernel, rfl⟩
theorem dX10_reportByte_2 : decode cX10_reportByte 2 = .ok (.i2l, 1) ∧ 3 = 2 + 1 := ⟨by decide +kernel, rfl⟩
theorem dX10_reportByte_3 : decode cX10_reportByte 3 = .ok (.lconst 0, 1) ∧ 4 = 3 + 1 := ⟨by decide +kernel, rfl⟩
theorem dX10_reportByte_4 : decode cX10_reportByte 4 = .ok (.aload_n 0, 1) ∧ 5 = 4 + 1 := ⟨by decide +kernel, rfl⟩
theorem dX10_reportByte_5 : decode cX10_reportByte 5 = .ok (.getfield 424, 3) ∧ 8 = 5 + 3 := ⟨by decide +kernel, rfl⟩
theorem dX10_reportByte_8 : decode cX10_reportByte 8 = .ok (.iconst 1, 1) ∧ 9 = 8 + 1 := ⟨by decide +kernel, rfl⟩
theorem dX10_reportByte_9 : decode cX10_reportByte 9 = .ok (.isub, 1) ∧ 10 = 9 + 1 := ⟨by decide +kernel, rfl⟩
theorem dX10_reportByte_10 : decode cX10_reportByte 10 = .ok (.i2l, 1) ∧ 11 = 10 + 1 := ⟨by decide +kernel, rfl⟩
theorem dX10_reportByte_11 : decode cX10_reportByte 11 = .ok (.invokestatic 39, 3) ∧ 14 = 11 + 3 := ⟨by decide +kernel, rfl⟩
theorem dX10_reportByte_14 : decode cX10_reportByte 14 = .ok (.ifCond .ne 7, 3) ∧ 17 = 14 + 3 := ⟨by decide +kernel, rfl⟩
theorem dX10_reportByte_17 : decode cX10_reportByte 17 = .ok (.iconst 1, 1) ∧ 18 = 17 + 1 := ⟨by decide +kernel, rfl⟩
theorem dX10_reportByte_18 : decode cX10_reportByte 18 = .ok (.goto 4, 3) ∧ 21 = 18 + 3 := ⟨by decide +kernel, rfl⟩
theorem dX10_reportByte_21 : decode cX10_reportByte 21 = .ok (.iconst 0, 1) ∧ 22 = 21 + 1 := ⟨by decide +kernel, rfl⟩
theorem dX10_reportByte_22 : decode cX10_reportByte 22 = .ok (.iconst 1, 1) ∧ 23 = 22 + 1 := ⟨by decide +kernel, rfl⟩
theorem dX10_reportByte_23 : decode cX10_reportByte 23 = .ok (.invokevirtual 151, 3) ∧ 26 = 23 + 3 := ⟨by decide +kernel, rfl⟩
theorem dX10_reportByte_26 : decode cX10_reportByte 26 = .ok (.ifCond .eq 7, 3) ∧ 29 = 26 + 3 := ⟨by decide +kernel, rfl⟩
theorem dX10_reportByte_29 : decode cX10_reportByte 29 = .ok (.iconst 0, 1) ∧ 30 = 29 + 1 := ⟨by decide +kernel, rfl⟩
theorem dX10_reportByte_30 : decode cX10_reportByte 30 = .ok (.goto 9, 3) ∧ 33 = 30 + 3 := ⟨by decide +kernel, rfl⟩
theorem dX10_reportByte_33 : decode cX10_reportByte 33 = .ok (.aload_n 0, 1) ∧ 34 = 33 + 1 := ⟨by decide +kernel, rfl⟩
theorem dX10_reportByte_34 : decode cX10_reportByte 34 = .ok (.getfield 33, 3) ∧ 37 = 34 + 3 := ⟨by decide +kernel, rfl⟩
theorem dX10_reportByte_37 : decode cX10_reportByte 37 = .ok (.iload_n 1, 1) ∧ 38 = 37 + 1 := ⟨by decide +kernel, rfl⟩
theorem dX10_reportByte_38 : decode cX10_reportByte 38 = .ok (.baload, 1) ∧ 39 = 38 + 1 := ⟨by decide +kernel, rfl⟩
theorem dX10_reportByte_39 : decode cX10_reportByte 39 = .ok (.ireturn, 1) ∧ 40 = 39 + 1 := ⟨by decide +kernel, rfl⟩
