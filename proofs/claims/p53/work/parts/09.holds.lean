/-! the law: holds -/
theorem coI_265 : .constant "java/lang/Integer" 265 1431655765 ∈ bigw := (gb5 124 (by decide +kernel) (by decide +kernel))
theorem coI_266 : .constant "java/lang/Integer" 266 858993459 ∈ bigw := (gb5 125 (by decide +kernel) (by decide +kernel))
theorem coI_267 : .constant "java/lang/Integer" 267 252645135 ∈ bigw := (gb5 126 (by decide +kernel) (by decide +kernel))
theorem dI_0 : decode prog_20_method_49_code 0 = .ok (.iload_n 0, 1) ∧ 1 = 0 + 1 := ⟨by decide +kernel, rfl⟩
theorem dI_1 : decode prog_20_method_49_code 1 = .ok (.iload_n 0, 1) ∧ 2 = 1 + 1 := ⟨by decide +kernel, rfl⟩
theorem dI_2 : decode prog_20_method_49_code 2 = .ok (.iconst 1, 1) ∧ 3 = 2 + 1 := ⟨by decide +kernel, rfl⟩
theorem dI_3 : decode prog_20_method_49_code 3 = .ok (.iushr, 1) ∧ 4 = 3 + 1 := ⟨by decide +kernel, rfl⟩
theorem dI_4 : decode prog_20_method_49_code 4 = .ok (.ldc_w 265, 3) ∧ 7 = 4 + 3 := ⟨by decide +kernel, rfl⟩
theorem dI_7 : decode prog_20_method_49_code 7 = .ok (.iand, 1) ∧ 8 = 7 + 1 := ⟨by decide +kernel, rfl⟩
theorem dI_8 : decode prog_20_method_49_code 8 = .ok (.isub, 1) ∧ 9 = 8 + 1 := ⟨by decide +kernel, rfl⟩
theorem dI_9 : decode prog_20_method_49_code 9 = .ok (.istore_n 0, 1) ∧ 10 = 9 + 1 := ⟨by decide +kernel, rfl⟩
theorem dI_10 : decode prog_20_method_49_code 10 = .ok (.iload_n 0, 1) ∧ 11 = 10 + 1 := ⟨by decide +kernel, rfl⟩
theorem dI_11 : decode prog_20_method_49_code 11 = .ok (.ldc_w 266, 3) ∧ 14 = 11 + 3 := ⟨by decide +kernel, rfl⟩
theorem dI_14 : decode prog_20_method_49_code 14 = .ok (.iand, 1) ∧ 15 = 14 + 1 := ⟨by decide +kernel, rfl⟩
theorem dI_15 : decode prog_20_method_49_code 15 = .ok (.iload_n 0, 1) ∧ 16 = 15 + 1 := ⟨by decide +kernel, rfl⟩
theorem dI_16 : decode prog_20_method_49_code 16 = .ok (.iconst 2, 1) ∧ 17 = 16 + 1 := ⟨by decide +kernel, rfl⟩
theorem dI_17 : decode prog_20_method_49_code 17 = .ok (.iushr, 1) ∧ 18 = 17 + 1 := ⟨by decide +kernel, rfl⟩
theorem dI_18 : decode prog_20_method_49_code 18 = .ok (.ldc_w 266, 3) ∧ 21 = 18 + 3 := ⟨by decide +kernel, rfl⟩
theorem dI_21 : decode prog_20_method_49_code 21 = .ok (.iand, 1) ∧ 22 = 21 + 1 := ⟨by decide +kernel, rfl⟩
theorem dI_22 : decode prog_20_method_49_code 22 = .ok (.iadd, 1) ∧ 23 = 22 + 1 := ⟨by decide +kernel, rfl⟩
theorem dI_23 : decode prog_20_method_49_code 23 = .ok (.istore_n 0, 1) ∧ 24 = 23 + 1 := ⟨by decide +kernel, rfl⟩
theorem dI_24 : decode prog_20_method_49_code 24 = .ok (.iload_n 0, 1) ∧ 25 = 24 + 1 := ⟨by decide +kernel, rfl⟩
theorem dI_25 : decode prog_20_method_49_code 25 = .ok (.iload_n 0, 1) ∧ 26 = 25 + 1 := ⟨by decide +kernel, rfl⟩
theorem dI_26 : decode prog_20_method_49_code 26 = .ok (.iconst 4, 1) ∧ 27 = 26 + 1 := ⟨by decide +kernel, rfl⟩
theorem dI_27 : decode prog_20_method_49_code 27 = .ok (.iushr, 1) ∧ 28 = 27 + 1 := ⟨by decide +kernel, rfl⟩
theorem dI_28 : decode prog_20_method_49_code 28 = .ok (.iadd, 1) ∧ 29 = 28 + 1 := ⟨by decide +kernel, rfl⟩
theorem dI_29 : decode prog_20_method_49_code 29 = .ok (.ldc_w 267, 3) ∧ 32 = 29 + 3 := ⟨by decide +kernel, rfl⟩
theorem dI_32 : decode prog_20_method_49_code 32 = .ok (.iand, 1) ∧ 33 = 32 + 1 := ⟨by decide +kernel, rfl⟩
theorem dI_33 : decode prog_20_method_49_code 33 = .ok (.istore_n 0, 1) ∧ 34 = 33 + 1 := ⟨by decide +kernel, rfl⟩
theorem dI_34 : decode prog_20_method_49_code 34 = .ok (.iload_n 0, 1) ∧ 35 = 34 + 1 := ⟨by decide +kernel, rfl⟩
theorem dI_35 : decode prog_20_method_49_code 35 = .ok (.iload_n 0, 1) ∧ 36 = 35 + 1 := ⟨by decide +kernel, rfl⟩
theorem dI_36 : decode prog_20_method_49_code 36 = .ok (.bipush 8, 2) ∧ 38 = 36 + 2 := ⟨by decide +kernel, rfl⟩
theorem dI_38 : decode prog_20_method_49_code 38 = .ok (.iushr, 1) ∧ 39 = 38 + 1 := ⟨by decide +kernel, rfl⟩
theorem dI_39 : decode prog_20_method_49_code 39 = .ok (.iadd, 1) ∧ 40 = 39 + 1 := ⟨by decide +kernel, rfl⟩
theorem dI_40 : decode prog_20_method_49_code 40 = .ok (.istore_n 0, 1) ∧ 41 = 40 + 1 := ⟨by decide +kernel, rfl⟩
theorem dI_41 : decode prog_20_method_49_code 41 = .ok (.iload_n 0, 1) ∧ 42 = 41 + 1 := ⟨by decide +kernel, rfl⟩
theorem dI_42 : decode prog_20_method_49_code 42 = .ok (.iload_n 0, 1) ∧ 43 = 42 + 1 := ⟨by decide +kernel, rfl⟩
theorem dI_43 : decode prog_20_method_49_code 43 = .ok (.bipush 16, 2) ∧ 45 = 43 + 2 := ⟨by decide +kernel, rfl⟩
theorem dI_45 : decode prog_20_method_49_code 45 = .ok (.iushr, 1) ∧ 46 = 45 + 1 := ⟨by decide +kernel, rfl⟩
theorem dI_46 : decode prog_20_method_49_code 46 = .ok (.iadd, 1) ∧ 47 = 46 + 1 := ⟨by decide +kernel, rfl⟩
theorem dI_47 : decode prog_20_method_49_code 47 = .ok (.istore_n 0, 1) ∧ 48 = 47 + 1 := ⟨by decide +kernel, rfl⟩
theorem dI_48 : decode prog_20_method_49_code 48 = .ok (.iload_n 0, 1) ∧ 49 = 48 + 1 := ⟨by decide +kernel, rfl⟩
theorem dI_49 : decode prog_20_method_49_code 49 = .ok (.bipush 63, 2) ∧ 51 = 49 + 2 := ⟨by decide +kernel, rfl⟩
theorem dI_51 : decode prog_20_method_49_code 51 = .ok (.iand, 1) ∧ 52 = 51 + 1 := ⟨by decide +kernel, rfl⟩
theorem dI_52 : decode prog_20_method_49_code 52 = .ok (.ireturn, 1) ∧ 53 = 52 + 1 := ⟨by decide +kernel, rfl⟩
def yI_bit : MethodName := ⟨"java/lang/Integer", "bitCount", "(I)I"⟩
theorem K_bit {k : KT} {ws : va_W} {x : Int32} : CT k strs yI_bit prog_20_method_49_code 1 (some .int) (rmD 0 0 0) 0 0 [.int x] ws (some (.int (bcF x))) ws := by
  refine CT.of (by decide) (Nat.le_of_ble_eq_true rfl) ?_
  intro z X hQ
  show VW k z 0 0 ws 0 [some (.int x)] []
  refine r_iload_n X (x := x) dI_0 rfl ?_
  refine r_iload_n X (x := x) dI_1 rfl ?_
  refine r_iconst X (v := 1) dI_2 rfl ?_
  refine r_iushr X dI_3 ?_
  refine r_ldcw X (v := 1431655765) coI_265 dI_4 ?_
  refine r_iand X dI_7 ?_
  refine r_isub X dI_8 ?_
  refine r_istore_n X [some (.int (bcA x))] dI_9 (Nat.le_of_ble_eq_true rfl) rfl ?_
  refine r_iload_n X (x := (bcA x)) dI_10 rfl ?_
  refine r_ldcw X (v := 858993459) coI_266 dI_11 ?_
  refine r_iand X dI_14 ?_
  refine r_iload_n X (x := (bcA x)) dI_15 rfl ?_
  refine r_iconst X (v := 2) dI_16 rfl ?_
  refine r_iushr X dI_17 ?_
  refine r_ldcw X (v := 858993459) coI_266 dI_18 ?_
  refine r_iand X dI_21 ?_
  refine r_iadd X dI_22 ?_
  refine r_istore_n X [some (.int (bcB (bcA x)))] dI_23 (Nat.le_of_ble_eq_true rfl) rfl ?_
  refine r_iload_n X (x := (bcB (bcA x))) dI_24 rfl ?_
  refine r_iload_n X (x := (bcB (bcA x))) dI_25 rfl ?_
  refine r_iconst X (v := 4) dI_26 rfl ?_
  refine r_iushr X dI_27 ?_
  refine r_iadd X dI_28 ?_
  refine r_ldcw X (v := 252645135) coI_267 dI_29 ?_
  refine r_iand X dI_32 ?_
  refine r_istore_n X [some (.int (bcC (bcB (bcA x))))] dI_33 (Nat.le_of_ble_eq_true rfl) rfl ?_
  refine r_iload_n X (x := (bcC (bcB (bcA x)))) dI_34 rfl ?_
  refine r_iload_n X (x := (bcC (bcB (bcA x)))) dI_35 rfl ?_
  refine r_bipush X (v := 8) dI_36 rfl ?_
  refine r_iushr X dI_38 ?_
  refine r_iadd X dI_39 ?_
  refine r_istore_n X [some (.int (bcD (bcC (bcB (bcA x)))))] dI_40 (Nat.le_of_ble_eq_true rfl) rfl ?_
  refine r_iload_n X (x := (bcD (bcC (bcB (bcA x))))) dI_41 rfl ?_
  refine r_iload_n X (x := (bcD (bcC (bcB (bcA x))))) dI_42 rfl ?_
  refine r_bipush X (v := 16) dI_43 rfl ?_
  refine r_iushr X dI_45 ?_
  refine r_iadd X dI_46 ?_
  refine r_istore_n X [some (.int (bcE (bcD (bcC (bcB (bcA x))))))] dI_47 (Nat.le_of_ble_eq_true rfl) rfl ?_
  refine r_iload_n X (x := (bcE (bcD (bcC (bcB (bcA x)))))) dI_48 rfl ?_
  refine r_bipush X (v := 63) dI_49 rfl ?_
  refine r_iand X dI_51 ?_
  exact r_ireturn X hQ rfl rfl (Nat.le_of_ble_eq_true rfl) (Nat.le_of_ble_eq_true rfl) dI_52
section BITC
variable {k : KT} {z : ZT} {own : String} {cc : ByteArray} {nL : Nat} {ret : Option FieldType} {d2 mc2 ms2 : Nat} {n n' pc pc' : Nat} {ws : va_W} {lo : List (Option Value)} {st : List Value}
theorem r_bitc (X : XX k strs z own cc nL ret (rmD d2 mc2 ms2)) {ix : Nat} {x : Int32} (w : LKS own ix ⟨"java/lang/Integer", "bitCount", "(I)I"⟩ prog_20_method_49_code 1 (some .int) 1) (hd : 0 < d2) (hcat : (st.map fun v => v.category).sum ≤ 8) (hlo : lo.length = nL) (hc : n ≤ mc2) (hs : n' ≤ ms2) (d : DEC cc pc 3 pc' (.invokestatic ix)) (kk : VW k z n n' ws pc' lo (.int (bcF x) :: st)) : VW k z n n' ws pc lo (.int x :: st) :=
  r_callS0 X [.int x] st K_bit w hd (Nat.le_of_ble_eq_true rfl) rfl rfl hcat hlo rfl hc hs d kk
end BITC
def NC : Nat := 1000
def NS : Nat := 10000
theorem NC_le : NC ≤ room_1.cells := (Nat.le_of_ble_eq_true rfl)
theorem NS_le : NS ≤ room_1.slots := (Nat.le_of_ble_eq_true rfl)
def LEND (k : KT) (z : ZT) : Prop := ∀ (ws : va_W) (pc : Nat) (lo : List (Option Value)), decode cL_law pc = .ok (.ireturn, 1) → VW k z NC NS ws pc lo [.int 1]
theorem l_ret {k : KT} {z : ZT} {ws : va_W} {pc pc' : Nat} {lo : List (Option Value)} {v : Int32} (hE : LEND k z) (hv : v = 1) (d : DEC cL_law pc 1 pc' .ireturn) : VW k z NC NS ws pc lo [.int v] := by
  subst hv
  exact hE ws pc lo d.1
theorem rle1 {maxL d a b : Nat} (h : d < 12) (hn : maxL ≤ 15) : RLE maxL (rmD d a b) room_1 := ⟨h, by show 8 + (maxL + 11) + 34 * d ≤ 442; omega⟩
section LAWROWS
variable {k : KT} {z : ZT} {own : String} {cc : ByteArray} {nL : Nat} {ret : Option FieldType} {n n' pc pc' : Nat} {ws : va_W} {lo : List (Option Value)} {st : List Value}
theorem r_callV1 (X : XX k strs z own cc nL ret room_1) {ix ci maxL na d1 : Nat} {y : MethodName} {bytes : ByteArray} {rt : Option FieldType} {C : String} {T : u_T} {N : Nat} {ty : Nat → FieldType} {a : Nat} {fs : List Value} {o : Option Value} {ws' : va_W} {st0 st1 : List Value}
    (As : List Value) (st : List Value) (hM : CT k strs y bytes maxL rt (rmD d1 0 0) 0 0 (.ref a :: As) ws o ws') (w : LKV own ix y bytes maxL rt na) (c : CLS ci C T N ty) (hC : C = y.cls) (q : Nat) (he : ws[q]? = some (a, .inr (ci, fs))) (hd : d1 < 12) (hL : maxL ≤ 15)
    (hst : st0 = As.reverse ++ .ref a :: st) (hna : As.length = na) (hcat : (st.map fun v => v.category).sum ≤ 8) (hlo : lo.length = nL) (hst1 : o.toList ++ st = st1) (hc : n ≤ room_1.cells) (hs : n' ≤ room_1.slots) (d : DEC cc pc 3 pc' (.invokevirtual ix)) (kk : VW k z n n' ws' pc' lo st1) : VW k z n n' ws pc lo st0 :=
  r_callV X As st hM w c hC q he (rle1 hd hL) rfl rfl hc hs hst hna hcat hlo hst1 d kk
theorem r_callS1 (X : XX k strs z own cc nL ret room_1) {ix maxL na d1 : Nat} {y : MethodName} {bytes : ByteArray} {rt : Option FieldType} {o : Option Value} {ws' : va_W} {st0 st1 : List Value}
    (As : List Value) (st : List Value) (hM : CT k strs y bytes maxL rt (rmD d1 0 0) 0 0 As ws o ws') (w : LKS own ix y bytes maxL rt na) (hd : d1 < 12) (hL : maxL ≤ 15)
    (hst : st0 = As.reverse ++ st) (hna : As.length = na) (hcat : (st.map fun v => v.category).sum ≤ 8) (hlo : lo.length = nL) (hst1 : o.toList ++ st = st1) (hc : n ≤ room_1.cells) (hs : n' ≤ room_1.slots) (d : DEC cc pc 3 pc' (.invokestatic ix)) (kk : VW k z n n' ws' pc' lo st1) : VW k z n n' ws pc lo st0 :=
  r_callS X As st hM w (rle1 hd hL) rfl rfl hc hs hst hna hcat hlo hst1 d kk
theorem r_sld {R0 : Room} (X : XX k strs z own cc nL ret R0) {b L : Nat} {xs : Nat → Int32} (hX : va_X b L xs (zS z) (zS z).heap) (hbl : b < (zS z).heap.size) (hbA : ¬ kA k b) {i : Int32} (hi : inb i L = true) (d : DEC cc pc 1 pc' .iaload) (kk : VW k z n n' ws pc' lo (.int (xs (ix i)) :: st)) : VW k z n n' ws pc lo (.int i :: .ref b :: st) := by
  obtain ⟨d, rfl⟩ := d
  exact fun H L1 la hP hD hS hl => va_sld X.1 X.2.1 hX hbl hbA hS (inb_vp hi) d (kk H L1 la hP hD hS hl)
theorem r_slen {R0 : Room} (X : XX k strs z own cc nL ret R0) {b L : Nat} {xs : Nat → Int32} (hX : va_X b L xs (zS z) (zS z).heap) (hbl : b < (zS z).heap.size) (hbA : ¬ kA k b) (d : DEC cc pc 1 pc' .arraylength) (kk : VW k z n n' ws pc' lo (.int (Int32.ofNat L) :: st)) : VW k z n n' ws pc lo (.ref b :: st) := by
  obtain ⟨d, rfl⟩ := d
  exact fun H L1 la hP hD hS hl => va_slen X.1 X.2.1 hX hbl hbA hS d (kk H L1 la hP hD hS hl)
theorem PX.blind {b L : Nat} {xs : Nat → Int32} {args : List Value} : FrameBlind (va_Pc args (fun U => PW k strs ws U ∧ va_X b L xs U U.heap ∧ b < U.heap.size)) := by
  intro a U g mk h
  obtain ⟨h1, ⟨h2, h3, h4, h5⟩, h6, h7⟩ := h
  exact ⟨h1, ⟨h2, h3, h4.same rfl, h5⟩, va_X.moved (Vm.Alike.refl _) h6, h7⟩
theorem M_cell {b0 len : Nat} {xs : Nat → Int32} {x v : Int32} (hbA : ¬ kA k b0) (hf : fL_cell len xs x = some v) : Met k.l yL_cell (.code yL_cell cL_cell 2 (some .int) :: bigw) (rmD 0 0 0) (va_Pc [.ref b0, .int x] (fun U => PW k strs ws U ∧ va_X b0 len xs U U.heap ∧ b0 < U.heap.size)) (Qof k (some (.int v)) ws) 0 0 (kA k) := by
  refine Met.ofW (cc := cL_cell) (maxL := 2) (ret := some .int) (by decide) rfl ?_
  intro p e s m as below meth c s₁ B hml hv
  obtain ⟨rfl, ⟨hP, hD, hF, hb0⟩, hX, hbl⟩ := hv
  have hts : ∀ w ∈ bigw, w.before ([Value.ref b0, Value.int x].toArray) s = true := fun w hw => atoms_spec (ws := .code yL_cell cL_cell 2 (some .int) :: bigw) B.pre w (List.mem_cons_of_mem _ hw)
  have body : ∀ z : ZT, XX k strs z RL cL_cell 2 (some .int) (rmD 0 0 0) → zQ z = MQ (zB z) (Qof k (some (.int v)) ws) (zA z) (zS z) 0 0 (kA k) → va_X b0 len xs (zS z) (zS z).heap → b0 < (zS z).heap.size → VW k z 0 0 ws 0 [some (.ref b0), some (.int x)] [] := by
    intro z X hQ hX hbl
    unfold fL_cell at hf
    refine r_iload_n X (x := x) dL_cell_0 rfl ?_
    refine r_aload_n X (x := b0) dL_cell_1 rfl ?_
    refine r_slen X hX hbl hbA dL_cell_2 ?_
    refine r_icmp_ge X 12 dL_cell_3 rfl (fun c => ?_) (fun c => ?_)
    · replace hf := ifT hf c
      obtain rfl := Option.some.inj hf
      refine r_iconst X (v := 0) dL_cell_12 rfl ?_
      exact r_ireturn X hQ rfl rfl (Nat.le_of_ble_eq_true rfl) (Nat.le_of_ble_eq_true rfl) dL_cell_13
    · replace hf := ifF hf c
      obtain ⟨g, hf⟩ := gdS hf
      obtain rfl := Option.some.inj hf
      refine r_aload_n X (x := b0) dL_cell_6 rfl ?_
      refine r_iload_n X (x := x) dL_cell_7 rfl ?_
      refine r_sld X hX hbl hbA g dL_cell_8 ?_
      refine r_goto X 13 dL_cell_9 rfl ?_
      exact r_ireturn X hQ rfl rfl (Nat.le_of_ble_eq_true rfl) (Nat.le_of_ble_eq_true rfl) dL_cell_13
  have K := body (p, e, rmD 0 0 0, s, m, [Value.ref b0, Value.int x].toArray, below, meth, c, MQ below (Qof k (some (.int v)) ws) [Value.ref b0, Value.int x].toArray s 0 0 (kA k)) ⟨B.exec, B.bytes, hml, B.returns, rfl, B.notSynchronized, findClass_of_methodNamed B.named, hts, hF, hb0⟩ rfl hX hbl
  rw [lg_entry_eq]
  exact K s.heap [] _ hP hD va_S.rf (lvH.of_args (lv_entry [.ref b0, .int x] (Nat.le_of_ble_eq_true rfl)))
theorem r_cell (X : XX k strs z own cc nL ret room_1) {b0 len : Nat} {xs : Nat → Int32} (hX : va_X b0 len xs (zS z) (zS z).heap) (hbl : b0 < (zS z).heap.size) (hbA : ¬ kA k b0) {ix : Nat} {x v : Int32} (hf : fL_cell len xs x = some v) (w : LKS own ix yL_cell cL_cell 2 (some .int) 2) (hcat : (st.map fun v => v.category).sum ≤ 8) (hlo : lo.length = nL) (hc : n ≤ room_1.cells) (hs : n' ≤ room_1.slots) (d : DEC cc pc 3 pc' (.invokestatic ix)) (kk : VW k z n n' ws pc' lo (.int v :: st)) : VW k z n n' ws pc lo (.int x :: .ref b0 :: st) := by
  obtain ⟨d, rfl⟩ := d
  intro H L la hP hD hS hl
  refine run_on (mc := 0) (ms := 0) X hS hl (va_runS (n := 2) (nL := nL) (As := [.ref b0, .int x]) (rest := st) ⟨X.1, X.2.1, X.ml, X.own1, X.ts⟩ (M_cell (ws := ws) hbA hf) ⟨cb_of X w.1 (rle1 (by decide) (Nat.le_of_ble_eq_true rfl)) rfl rfl, X.ts _ w.2⟩ ⟨PX.blind, fun U hU hW => ⟨rfl, ⟨by rw [hU]; exact hP, hD, by rw [hU]; exact X.F.call hW hS.2.1, by rw [hU]; exact Nat.le_trans X.2.2.2.2.2.2.2.2.2 hS.1⟩, by rw [hU]; exact (va_X.moved hW.alike hX).kept (hS.2.1 _ hbl hbA), by rw [hU]; exact Nat.lt_of_lt_of_le hbl hS.1⟩⟩ rfl rfl (hl.1.trans hlo) rfl (lv_room hcat) d ⟨by rw [X.R]; exact hc, by rw [X.R]; exact hs⟩) ?_
  exact kk
end LAWROWS
set_option maxRecDepth 100000 in
set_option maxHeartbeats 4000000 in
theorem B_holds_B675 {k : KT} {z : ZT} {T : TT} {R : RR} {ly : Fin 2 → LL} {rc : RC} {rp : RP} {tp : TP} {ee : EE} {r : Int32 × (HN) × (Fin 12 → SS)} (X : XX k strs z RL cL_holds 14 (some .boolean) (rmD 6 0 0)) (hQ : zQ z = MQ (zB z) (Qof k (some (.int r.1)) (wAll k T R ly rc r.2.1 rp tp ee r.2.2)) (zA z) (zS z) 0 0 (kA k)) (rec : HN → (Fin 12 → SS) → Int32 → Int32 → Option (Int32 × (HN) × (Fin 12 → SS))) (hrec : ∀ (hn : HN) (st : Fin 12 → SS) (x2 : Int32) (x4 : Int32), rec hn st x2 x4 = some r → VW k z 0 0 (wAll k T R ly rc hn rp tp ee st) 599 [some (.ref (k.b + (0))), none, some (.int x2), none, some (.int x4), none, none, none, none, none, none, none, none, none] []) (hn : HN) (st : Fin 12 → SS) (x2 : Int32) (x4 : Int32) (x5 : Int32) (x6 : Int32) (hf : f_holds_B675 (ly (0 : Fin 2)) tp rec hn st x2 x4 x5 x6 = some r) : VW k z 0 0 (wAll k T R ly rc hn rp tp ee st) 675 [some (.ref (k.b + (0))), none, some (.int x2), none, some (.int x4), some (.int x5), some (.int x6), none, none, none, none, none, none, none] [] := by
  unfold f_holds_B675 at hf
  refine r_iload X (x := x5) dL_holds_675 rfl ?_
  refine r_iconst X (v := 2) dL_holds_677 rfl ?_
  refine r_icmp_ne X 695 dL_holds_678 rfl (fun c678 => ?_) (fun c678 => ?_)
  · replace hf := ifF hf c678
    refine r_iinc X (x := x4) (v := x4 + 1) [some (.ref (k.b + (0))), none, some (.int x2), none, some (.int (x4 + 1)), some (.int x5), some (.int x6), none, none, none, none, none, none, none] dL_holds_695 rfl rfl rfl ?_
    refine r_goto X 599 dL_holds_698 rfl ?_
    refine VW.msk [true, false, true, false, true, false, false, false, false, false, false, false, false, false] rfl (lo' := [some (.ref (k.b + (0))), none, some (.int x2), none, some (.int (x4 + 1)), none, none, none, none, none, none, none, none, none]) rfl ?_
    exact hrec hn st x2 (x4 + 1) hf
  · replace hf := ifT hf c678
    refine r_iload X (x := x6) dL_holds_681 rfl ?_
    refine r_aload_n X (x := k.b + (0)) dL_holds_683 rfl ?_
    refine r_iload X (x := x4) dL_holds_684 rfl ?_
    refine r_iconst X (v := 4) dL_holds_686 rfl ?_
    obtain ⟨u687, h687, hf⟩ := bdS hf
    refine r_callV0 X [.int x4, .int 4] [.int x6] (K9_pump h687) lkL_96 clsX9 rfl _ o_main (by decide) (Nat.le_of_ble_eq_true rfl) rfl rfl (Nat.le_of_ble_eq_true rfl) rfl rfl (Nat.zero_le _) (Nat.zero_le _) dL_holds_687 ?_
    refine r_icmp_gt X 695 dL_holds_690 rfl (fun c690 => ?_) (fun c690 => ?_)
    · replace hf := ifT hf c690
      refine r_iinc X (x := x4) (v := x4 + 1) [some (.ref (k.b + (0))), none, some (.int x2), none, some (.int (x4 + 1)), some (.int x5), some (.int x6), none, none, none, none, none, none, none] dL_holds_695 rfl rfl rfl ?_
      refine r_goto X 599 dL_holds_698 rfl ?_
      refine VW.msk [true, false, true, false, true, false, false, false, false, false, false, false, false, false] rfl (lo' := [some (.ref (k.b + (0))), none, some (.int x2), none, some (.int (x4 + 1)), none, none, none, none, none, none, none, none, none]) rfl ?_
      exact hrec hn st x2 (x4 + 1) hf
    · replace hf := ifF hf c690
      refine r_iconst X (v := 0) dL_holds_693 rfl ?_
      obtain rfl := Option.some.inj hf
      exact r_zreturn X hQ rfl rfl (Nat.le_of_ble_eq_true rfl) (Nat.le_of_ble_eq_true rfl) rfl dL_holds_694
set_option maxRecDepth 100000 in
set_option maxHeartbeats 4000000 in
theorem B_holds_B599 {k : KT} {z : ZT} {T : TT} {R : RR} {ly : Fin 2 → LL} {rc : RC} {rp : RP} {tp : TP} {ee : EE} {r : Int32 × (HN) × (Fin 12 → SS)} (X : XX k strs z RL cL_holds 14 (some .boolean) (rmD 6 0 0)) (hQ : zQ z = MQ (zB z) (Qof k (some (.int r.1)) (wAll k T R ly rc r.2.1 rp tp ee r.2.2)) (zA z) (zS z) 0 0 (kA k)) : ∀ (fu : Nat) (hn : HN) (st : Fin 12 → SS) (x2 : Int32) (x4 : Int32), f_holds_B599 (ly (0 : Fin 2)) tp fu hn st x2 x4 = some r → VW k z 0 0 (wAll k T R ly rc hn rp tp ee st) 599 [some (.ref (k.b + (0))), none, some (.int x2), none, some (.int x4), none, none, none, none, none, none, none, none, none] [] := by
  intro fu
  induction fu with
  | zero =>
    intro hn st x2 x4 hf
    rw [f_holds_B599] at hf
    cases hf
  | succ fu ih =>
    intro hn st x2 x4 hf
    rw [f_holds_B599] at hf
    refine r_iload X (x := x4) dL_holds_599 rfl ?_
    refine r_iconst X (v := 2) dL_holds_601 rfl ?_
    refine r_icmp_ge X 701 dL_holds_602 rfl (fun c602 => ?_) (fun c602 => ?_)
    · replace hf := ifT hf c602
      refine r_aload_n X (x := k.b + (0)) dL_holds_701 rfl ?_
      refine r_iconst X (v := 0) dL_holds_702 rfl ?_
      refine r_iconst X (v := 5) dL_holds_703 rfl ?_
      obtain ⟨u704, h704, hf⟩ := bdS hf
      refine r_callV0 X [.int 0, .int 5] [] (K9_valve h704) lkL_87 clsX9 rfl _ o_main (by decide) (Nat.le_of_ble_eq_true rfl) rfl rfl (Nat.le_of_ble_eq_true rfl) rfl rfl (Nat.zero_le _) (Nat.zero_le _) dL_holds_704 ?_
      refine r_aload_n X (x := k.b + (0)) dL_holds_707 rfl ?_
      refine r_iconst X (v := 1) dL_holds_708 rfl ?_
      refine r_iconst X (v := 5) dL_holds_709 rfl ?_
      obtain ⟨u710, h710, hf⟩ := bdS hf
      refine r_callV0 X [.int 1, .int 5] [.int u704] (K9_valve h710) lkL_87 clsX9 rfl _ o_main (by decide) (Nat.le_of_ble_eq_true rfl) rfl rfl (Nat.le_of_ble_eq_true rfl) rfl rfl (Nat.zero_le _) (Nat.zero_le _) dL_holds_710 ?_
      refine r_iadd X dL_holds_713 ?_
      refine r_aload_n X (x := k.b + (0)) dL_holds_714 rfl ?_
      refine r_iconst X (v := 2) dL_holds_715 rfl ?_
      refine r_iconst X (v := 5) dL_holds_716 rfl ?_
      obtain ⟨u717, h717, hf⟩ := bdS hf
      refine r_callV0 X [.int 2, .int 5] [.int (u704 + u710)] (K9_valve h717) lkL_87 clsX9 rfl _ o_main (by decide) (Nat.le_of_ble_eq_true rfl) rfl rfl (Nat.le_of_ble_eq_true rfl) rfl rfl (Nat.zero_le _) (Nat.zero_le _) dL_holds_717 ?_
      refine r_iadd X dL_holds_720 ?_
      refine r_aload_n X (x := k.b + (0)) dL_holds_721 rfl ?_
      refine r_iconst X (v := 3) dL_holds_722 rfl ?_
      refine r_iconst X (v := 5) dL_holds_723 rfl ?_
      obtain ⟨u724, h724, hf⟩ := bdS hf
      refine r_callV0 X [.int 3, .int 5] [.int ((u704 + u710) + u717)] (K9_valve h724) lkL_87 clsX9 rfl _ o_main (by decide) (Nat.le_of_ble_eq_true rfl) rfl rfl (Nat.le_of_ble_eq_true rfl) rfl rfl (Nat.zero_le _) (Nat.zero_le _) dL_holds_724 ?_
      refine r_iadd X dL_holds_727 ?_
      refine r_aload_n X (x := k.b + (0)) dL_holds_728 rfl ?_
      refine r_iconst X (v := 5) dL_holds_729 rfl ?_
      obtain ⟨u730, h730, hf⟩ := bdS hf
      refine r_callV0 X [.int 5] [.int (((u704 + u710) + u717) + u724)] (K9_count h730) lkL_78 clsX9 rfl _ o_main (by decide) (Nat.le_of_ble_eq_true rfl) rfl rfl (Nat.le_of_ble_eq_true rfl) rfl rfl (Nat.zero_le _) (Nat.zero_le _) dL_holds_730 ?_
      refine r_icmp_ne X 772 dL_holds_733 rfl (fun c733 => ?_) (fun c733 => ?_)
      · replace hf := ifF hf c733
        refine r_iconst X (v := 0) dL_holds_772 rfl ?_
        obtain rfl := Option.some.inj hf
        exact r_zreturn X hQ rfl rfl (Nat.le_of_ble_eq_true rfl) (Nat.le_of_ble_eq_true rfl) rfl dL_holds_773
      · replace hf := ifT hf c733
        refine r_aload_n X (x := k.b + (0)) dL_holds_736 rfl ?_
        refine r_iconst X (v := 0) dL_holds_737 rfl ?_
        refine r_bipush X (v := 7) dL_holds_738 rfl ?_
        obtain ⟨u740, h740, hf⟩ := bdS hf
        refine r_callV0 X [.int 0, .int 7] [] (K9_pump h740) lkL_96 clsX9 rfl _ o_main (by decide) (Nat.le_of_ble_eq_true rfl) rfl rfl (Nat.le_of_ble_eq_true rfl) rfl rfl (Nat.zero_le _) (Nat.zero_le _) dL_holds_740 ?_
        refine r_aload_n X (x := k.b + (0)) dL_holds_743 rfl ?_
        refine r_iconst X (v := 1) dL_holds_744 rfl ?_
        refine r_bipush X (v := 7) dL_holds_745 rfl ?_
        obtain ⟨u747, h747, hf⟩ := bdS hf
        refine r_callV0 X [.int 1, .int 7] [.int u740] (K9_pump h747) lkL_96 clsX9 rfl _ o_main (by decide) (Nat.le_of_ble_eq_true rfl) rfl rfl (Nat.le_of_ble_eq_true rfl) rfl rfl (Nat.zero_le _) (Nat.zero_le _) dL_holds_747 ?_
        refine r_iadd X dL_holds_750 ?_
        refine r_aload_n X (x := k.b + (0)) dL_holds_751 rfl ?_
        refine r_bipush X (v := 6) dL_holds_752 rfl ?_
        obtain ⟨u754, h754, hf⟩ := bdS hf
        refine r_callV0 X [.int 6] [.int (u740 + u747)] (K9_count h754) lkL_78 clsX9 rfl _ o_main (by decide) (Nat.le_of_ble_eq_true rfl) rfl rfl (Nat.le_of_ble_eq_true rfl) rfl rfl (Nat.zero_le _) (Nat.zero_le _) dL_holds_754 ?_
        refine r_icmp_ne X 772 dL_holds_757 rfl (fun c757 => ?_) (fun c757 => ?_)
        · replace hf := ifF hf c757
          refine r_iconst X (v := 0) dL_holds_772 rfl ?_
          obtain rfl := Option.some.inj hf
          exact r_zreturn X hQ rfl rfl (Nat.le_of_ble_eq_true rfl) (Nat.le_of_ble_eq_true rfl) rfl dL_holds_773
        · replace hf := ifT hf c757
          refine r_aload_n X (x := k.b + (0)) dL_holds_760 rfl ?_
          refine r_iload_n X (x := x2) dL_holds_761 rfl ?_
          obtain ⟨u762, h762, hf⟩ := bdS hf
          refine r_callV0 X [.int x2] [] (K9_tripsIn h762) lkL_99 clsX9 rfl _ o_main (by decide) (Nat.le_of_ble_eq_true rfl) rfl rfl (Nat.le_of_ble_eq_true rfl) rfl rfl (Nat.zero_le _) (Nat.zero_le _) dL_holds_762 ?_
          refine r_if_lt X 772 dL_holds_765 rfl (fun c765 => ?_) (fun c765 => ?_)
          · replace hf := ifT hf c765
            refine r_iconst X (v := 0) dL_holds_772 rfl ?_
            obtain rfl := Option.some.inj hf
            exact r_zreturn X hQ rfl rfl (Nat.le_of_ble_eq_true rfl) (Nat.le_of_ble_eq_true rfl) rfl dL_holds_773
          · replace hf := ifF hf c765
            refine r_iconst X (v := 1) dL_holds_768 rfl ?_
            refine r_goto X 773 dL_holds_769 rfl ?_
            obtain rfl := Option.some.inj hf
            exact r_zreturn X hQ rfl rfl (Nat.le_of_ble_eq_true rfl) (Nat.le_of_ble_eq_true rfl) rfl dL_holds_773
    · replace hf := ifF hf c602
      refine r_aload_n X (x := k.b + (0)) dL_holds_605 rfl ?_
      refine r_iload X (x := x4) dL_holds_606 rfl ?_
      obtain ⟨u608, h608, hf⟩ := bdS hf
      refine r_callV0 X [.int x4] [] (K9_mayStart h608) lkL_93 clsX9 rfl _ o_main (by decide) (Nat.le_of_ble_eq_true rfl) rfl rfl (Nat.le_of_ble_eq_true rfl) rfl rfl (Nat.zero_le _) (Nat.zero_le _) dL_holds_608 ?_
      refine r_istore X [some (.ref (k.b + (0))), none, some (.int x2), none, some (.int x4), some (.int u608), none, none, none, none, none, none, none, none] dL_holds_611 (Nat.le_of_ble_eq_true rfl) rfl ?_
      refine r_aload_n X (x := k.b + (0)) dL_holds_613 rfl ?_
      refine r_aload_n X (x := k.b + (0)) dL_holds_614 rfl ?_
      refine r_iload X (x := x4) dL_holds_615 rfl ?_
      refine r_iconst X (v := 0) dL_holds_617 rfl ?_
      obtain ⟨u618, h618, hf⟩ := bdS hf
      refine r_callV0 X [.int x4, .int 0] [.ref (k.b + (0))] (K9_pump h618) lkL_96 clsX9 rfl _ o_main (by decide) (Nat.le_of_ble_eq_true rfl) rfl rfl (Nat.le_of_ble_eq_true rfl) rfl rfl (Nat.zero_le _) (Nat.zero_le _) dL_holds_618 ?_
      refine r_iconst X (v := 3) dL_holds_621 rfl ?_
      obtain ⟨u622, h622, hf⟩ := bdS hf
      refine r_callV0 X [.int u618, .int 3] [] (K9_chamber h622) lkL_27 clsX9 rfl _ o_main (by decide) (Nat.le_of_ble_eq_true rfl) rfl rfl (Nat.le_of_ble_eq_true rfl) rfl rfl (Nat.zero_le _) (Nat.zero_le _) dL_holds_622 ?_
      refine r_istore X [some (.ref (k.b + (0))), none, some (.int x2), none, some (.int x4), some (.int u608), some (.int u622), none, none, none, none, none, none, none] dL_holds_625 (Nat.le_of_ble_eq_true rfl) rfl ?_
      refine r_iload X (x := u608) dL_holds_627 rfl ?_
      refine r_iconst X (v := 1) dL_holds_629 rfl ?_
      suffices K630 : VW k z 0 0 (wAll k T R ly rc hn rp tp ee st) 638 [some (.ref (k.b + (0))), none, some (.int x2), none, some (.int x4), some (.int u608), some (.int u622), none, none, none, none, none, none, none] [.int (if u608 = 1 then (1 : Int32) else (0 : Int32))] by
        refine r_icmp_ne X 637 dL_holds_630 rfl (fun c630 => ?_) (fun c630 => ?_)
        · refine r_iconst X (v := 0) dL_holds_637 rfl ?_
          rw [if_neg c630] at K630
          exact K630
        · refine r_iconst X (v := 1) dL_holds_633 rfl ?_
          refine r_goto X 638 dL_holds_634 rfl ?_
          rw [if_pos c630] at K630
          exact K630
      refine r_aload_n X (x := k.b + (0)) dL_holds_638 rfl ?_
      refine r_iload X (x := x4) dL_holds_639 rfl ?_
      refine r_bipush X (v := 6) dL_holds_641 rfl ?_
      obtain ⟨u643, h643, hf⟩ := bdS hf
      refine r_callV0 X [.int x4, .int 6] [.int (if u608 = 1 then (1 : Int32) else (0 : Int32))] (K9_pump h643) lkL_96 clsX9 rfl _ o_main (by decide) (Nat.le_of_ble_eq_true rfl) rfl rfl (Nat.le_of_ble_eq_true rfl) rfl rfl (Nat.zero_le _) (Nat.zero_le _) dL_holds_643 ?_
      refine r_iconst X (v := 1) dL_holds_646 rfl ?_
      suffices K647 : VW k z 0 0 (wAll k T R ly rc hn rp tp ee st) 655 [some (.ref (k.b + (0))), none, some (.int x2), none, some (.int x4), some (.int u608), some (.int u622), none, none, none, none, none, none, none] [.int (if u643 = 1 then (1 : Int32) else (0 : Int32)), .int (if u608 = 1 then (1 : Int32) else (0 : Int32))] by
        refine r_icmp_ne X 654 dL_holds_647 rfl (fun c647 => ?_) (fun c647 => ?_)
        · refine r_iconst X (v := 0) dL_holds_654 rfl ?_
          rw [if_neg c647] at K647
          exact K647
        · refine r_iconst X (v := 1) dL_holds_650 rfl ?_
          refine r_goto X 655 dL_holds_651 rfl ?_
          rw [if_pos c647] at K647
          exact K647
      refine r_icmp_ne X 693 dL_holds_655 rfl (fun c655 => ?_) (fun c655 => ?_)
      · replace hf := ifF hf c655
        refine r_iconst X (v := 0) dL_holds_693 rfl ?_
        obtain rfl := Option.some.inj hf
        exact r_zreturn X hQ rfl rfl (Nat.le_of_ble_eq_true rfl) (Nat.le_of_ble_eq_true rfl) rfl dL_holds_694
      · replace hf := ifT hf c655
        refine r_iload X (x := u608) dL_holds_658 rfl ?_
        refine r_if_ne X 675 dL_holds_660 rfl (fun c660 => ?_) (fun c660 => ?_)
        · replace hf := ifF hf c660
          exact B_holds_B675 X hQ (f_holds_B599 (ly (0 : Fin 2)) tp fu) ih hn st x2 x4 u608 u622 hf
        · replace hf := ifT hf c660
          refine r_iload X (x := u622) dL_holds_663 rfl ?_
          refine r_aload_n X (x := k.b + (0)) dL_holds_665 rfl ?_
          refine r_iload X (x := x4) dL_holds_666 rfl ?_
          refine r_iconst X (v := 4) dL_holds_668 rfl ?_
          obtain ⟨u669, h669, hf⟩ := bdS hf
          refine r_callV0 X [.int x4, .int 4] [.int u622] (K9_pump h669) lkL_96 clsX9 rfl _ o_main (by decide) (Nat.le_of_ble_eq_true rfl) rfl rfl (Nat.le_of_ble_eq_true rfl) rfl rfl (Nat.zero_le _) (Nat.zero_le _) dL_holds_669 ?_
          refine r_icmp_gt X 693 dL_holds_672 rfl (fun c672 => ?_) (fun c672 => ?_)
          · replace hf := ifT hf c672
            refine r_iconst X (v := 0) dL_holds_693 rfl ?_
            obtain rfl := Option.some.inj hf
            exact r_zreturn X hQ rfl rfl (Nat.le_of_ble_eq_true rfl) (Nat.le_of_ble_eq_true rfl) rfl dL_holds_694
          · replace hf := ifF hf c672
            exact B_holds_B675 X hQ (f_holds_B599 (ly (0 : Fin 2)) tp fu) ih hn st x2 x4 u608 u622 hf
set_option maxRecDepth 100000 in
set_option maxHeartbeats 4000000 in
theorem B_holds_B564 {k : KT} {z : ZT} {T : TT} {R : RR} {ly : Fin 2 → LL} {rc : RC} {rp : RP} {tp : TP} {ee : EE} {r : Int32 × (HN) × (Fin 12 → SS)} (X : XX k strs z RL cL_holds 14 (some .boolean) (rmD 6 0 0)) (hQ : zQ z = MQ (zB z) (Qof k (some (.int r.1)) (wAll k T R ly rc r.2.1 rp tp ee r.2.2)) (zA z) (zS z) 0 0 (kA k)) (rec : HN → (Fin 12 → SS) → Int32 → Int32 → Option (Int32 × (HN) × (Fin 12 → SS))) (hrec : ∀ (hn : HN) (st : Fin 12 → SS) (x2 : Int32) (x4 : Int32), rec hn st x2 x4 = some r → VW k z 0 0 (wAll k T R ly rc hn rp tp ee st) 466 [some (.ref (k.b + (0))), none, some (.int x2), none, some (.int x4), none, none, none, none, none, none, none, none, none] []) (hn : HN) (st : Fin 12 → SS) (x2 : Int32) (x4 : Int32) (x5 : Int32) (hf : f_holds_B564 (ly (0 : Fin 2)) tp rec hn st x2 x4 x5 = some r) : VW k z 0 0 (wAll k T R ly rc hn rp tp ee st) 564 [some (.ref (k.b + (0))), none, some (.int x2), none, some (.int x4), some (.int x5), none, none, none, none, none, none, none, none] [] := by
  unfold f_holds_B564 at hf
  refine r_iload X (x := x5) dL_holds_564 rfl ?_
  refine r_iconst X (v := 2) dL_holds_566 rfl ?_
  refine r_icmp_ne X 590 dL_holds_567 rfl (fun c567 => ?_) (fun c567 => ?_)
  · replace hf := ifF hf c567
    refine r_iinc X (x := x4) (v := x4 + 1) [some (.ref (k.b + (0))), none, some (.int x2), none, some (.int (x4 + 1)), some (.int x5), none, none, none, none, none, none, none, none] dL_holds_590 rfl rfl rfl ?_
    refine r_goto X 466 dL_holds_593 rfl ?_
    refine VW.msk [true, false, true, false, true, false, false, false, false, false, false, false, false, false] rfl (lo' := [some (.ref (k.b + (0))), none, some (.int x2), none, some (.int (x4 + 1)), none, none, none, none, none, none, none, none, none]) rfl ?_
    exact hrec hn st x2 (x4 + 1) hf
  · replace hf := ifT hf c567
    refine r_aload_n X (x := k.b + (0)) dL_holds_570 rfl ?_
    refine r_iload X (x := x4) dL_holds_571 rfl ?_
    refine r_bipush X (v := 6) dL_holds_573 rfl ?_
    obtain ⟨u575, h575, hf⟩ := bdS hf
    refine r_callV0 X [.int x4, .int 6] [] (K9_valve h575) lkL_87 clsX9 rfl _ o_main (by decide) (Nat.le_of_ble_eq_true rfl) rfl rfl (Nat.le_of_ble_eq_true rfl) rfl rfl (Nat.zero_le _) (Nat.zero_le _) dL_holds_575 ?_
    refine r_aload_n X (x := k.b + (0)) dL_holds_578 rfl ?_
    refine r_iload X (x := x4) dL_holds_579 rfl ?_
    refine r_iconst X (v := 3) dL_holds_581 rfl ?_
    obtain ⟨u582, h582, hf⟩ := bdS hf
    refine r_callV0 X [.int x4, .int 3] [.int u575] (K9_valve h582) lkL_87 clsX9 rfl _ o_main (by decide) (Nat.le_of_ble_eq_true rfl) rfl rfl (Nat.le_of_ble_eq_true rfl) rfl rfl (Nat.zero_le _) (Nat.zero_le _) dL_holds_582 ?_
    refine r_icmp_gt X 590 dL_holds_585 rfl (fun c585 => ?_) (fun c585 => ?_)
    · replace hf := ifT hf c585
      refine r_iinc X (x := x4) (v := x4 + 1) [some (.ref (k.b + (0))), none, some (.int x2), none, some (.int (x4 + 1)), some (.int x5), none, none, none, none, none, none, none, none] dL_holds_590 rfl rfl rfl ?_
      refine r_goto X 466 dL_holds_593 rfl ?_
      refine VW.msk [true, false, true, false, true, false, false, false, false, false, false, false, false, false] rfl (lo' := [some (.ref (k.b + (0))), none, some (.int x2), none, some (.int (x4 + 1)), none, none, none, none, none, none, none, none, none]) rfl ?_
      exact hrec hn st x2 (x4 + 1) hf
    · replace hf := ifF hf c585
      refine r_iconst X (v := 0) dL_holds_588 rfl ?_
      obtain rfl := Option.some.inj hf
      exact r_zreturn X hQ rfl rfl (Nat.le_of_ble_eq_true rfl) (Nat.le_of_ble_eq_true rfl) rfl dL_holds_589
set_option maxRecDepth 100000 in
set_option maxHeartbeats 4000000 in
theorem B_holds_B466 {k : KT} {z : ZT} {T : TT} {R : RR} {ly : Fin 2 → LL} {rc : RC} {rp : RP} {tp : TP} {ee : EE} {r : Int32 × (HN) × (Fin 12 → SS)} (X : XX k strs z RL cL_holds 14 (some .boolean) (rmD 6 0 0)) (hQ : zQ z = MQ (zB z) (Qof k (some (.int r.1)) (wAll k T R ly rc r.2.1 rp tp ee r.2.2)) (zA z) (zS z) 0 0 (kA k)) : ∀ (fu : Nat) (hn : HN) (st : Fin 12 → SS) (x2 : Int32) (x4 : Int32), f_holds_B466 (ly (0 : Fin 2)) tp fu hn st x2 x4 = some r → VW k z 0 0 (wAll k T R ly rc hn rp tp ee st) 466 [some (.ref (k.b + (0))), none, some (.int x2), none, some (.int x4), none, none, none, none, none, none, none, none, none] [] := by
  intro fu
  induction fu with
  | zero =>
    intro hn st x2 x4 hf
    rw [f_holds_B466] at hf
    cases hf
  | succ fu ih =>
    intro hn st x2 x4 hf
    rw [f_holds_B466] at hf
    refine r_iload X (x := x4) dL_holds_466 rfl ?_
    refine r_iconst X (v := 4) dL_holds_468 rfl ?_
    refine r_icmp_ge X 596 dL_holds_469 rfl (fun c469 => ?_) (fun c469 => ?_)
    · replace hf := ifT hf c469
      refine r_iconst X (v := 0) dL_holds_596 rfl ?_
      refine r_istore X [some (.ref (k.b + (0))), none, some (.int x2), none, some (.int 0), none, none, none, none, none, none, none, none, none] dL_holds_597 (Nat.le_of_ble_eq_true rfl) rfl ?_
      exact B_holds_B599 X hQ FU hn st x2 0 hf
    · replace hf := ifF hf c469
      refine r_aload_n X (x := k.b + (0)) dL_holds_472 rfl ?_
      refine r_iload X (x := x4) dL_holds_473 rfl ?_
      obtain ⟨u475, h475, hf⟩ := bdS hf
      refine r_callV0 X [.int x4] [] (K9_mayOpen h475) lkL_84 clsX9 rfl _ o_main (by decide) (Nat.le_of_ble_eq_true rfl) rfl rfl (Nat.le_of_ble_eq_true rfl) rfl rfl (Nat.zero_le _) (Nat.zero_le _) dL_holds_475 ?_
      refine r_istore X [some (.ref (k.b + (0))), none, some (.int x2), none, some (.int x4), some (.int u475), none, none, none, none, none, none, none, none] dL_holds_478 (Nat.le_of_ble_eq_true rfl) rfl ?_
      refine r_iload X (x := u475) dL_holds_480 rfl ?_
      refine r_iconst X (v := 1) dL_holds_482 rfl ?_
      suffices K483 : VW k z 0 0 (wAll k T R ly rc hn rp tp ee st) 491 [some (.ref (k.b + (0))), none, some (.int x2), none, some (.int x4), some (.int u475), none, none, none, none, none, none, none, none] [.int (if u475 = 1 then (1 : Int32) else (0 : Int32))] by
        refine r_icmp_ne X 490 dL_holds_483 rfl (fun c483 => ?_) (fun c483 => ?_)
        · refine r_iconst X (v := 0) dL_holds_490 rfl ?_
          rw [if_neg c483] at K483
          exact K483
        · refine r_iconst X (v := 1) dL_holds_486 rfl ?_
          refine r_goto X 491 dL_holds_487 rfl ?_
          rw [if_pos c483] at K483
          exact K483
      refine r_aload_n X (x := k.b + (0)) dL_holds_491 rfl ?_
      refine r_iload X (x := x4) dL_holds_492 rfl ?_
      refine r_iconst X (v := 4) dL_holds_494 rfl ?_
      obtain ⟨u495, h495, hf⟩ := bdS hf
      refine r_callV0 X [.int x4, .int 4] [.int (if u475 = 1 then (1 : Int32) else (0 : Int32))] (K9_valve h495) lkL_87 clsX9 rfl _ o_main (by decide) (Nat.le_of_ble_eq_true rfl) rfl rfl (Nat.le_of_ble_eq_true rfl) rfl rfl (Nat.zero_le _) (Nat.zero_le _) dL_holds_495 ?_
      refine r_iconst X (v := 1) dL_holds_498 rfl ?_
      suffices K499 : VW k z 0 0 (wAll k T R ly rc hn rp tp ee st) 507 [some (.ref (k.b + (0))), none, some (.int x2), none, some (.int x4), some (.int u475), none, none, none, none, none, none, none, none] [.int (if u495 = 1 then (1 : Int32) else (0 : Int32)), .int (if u475 = 1 then (1 : Int32) else (0 : Int32))] by
        refine r_icmp_ne X 506 dL_holds_499 rfl (fun c499 => ?_) (fun c499 => ?_)
        · refine r_iconst X (v := 0) dL_holds_506 rfl ?_
          rw [if_neg c499] at K499
          exact K499
        · refine r_iconst X (v := 1) dL_holds_502 rfl ?_
          refine r_goto X 507 dL_holds_503 rfl ?_
          rw [if_pos c499] at K499
          exact K499
      refine r_icmp_ne X 588 dL_holds_507 rfl (fun c507 => ?_) (fun c507 => ?_)
      · replace hf := ifF hf c507
        refine r_iconst X (v := 0) dL_holds_588 rfl ?_
        obtain rfl := Option.some.inj hf
        exact r_zreturn X hQ rfl rfl (Nat.le_of_ble_eq_true rfl) (Nat.le_of_ble_eq_true rfl) rfl dL_holds_589
      · replace hf := ifT hf c507
        refine r_iload X (x := u475) dL_holds_510 rfl ?_
        suffices K512 : VW k z 0 0 (wAll k T R ly rc hn rp tp ee st) 520 [some (.ref (k.b + (0))), none, some (.int x2), none, some (.int x4), some (.int u475), none, none, none, none, none, none, none, none] [.int (if u475 = 0 then (1 : Int32) else (0 : Int32))] by
          refine r_if_ne X 519 dL_holds_512 rfl (fun c512 => ?_) (fun c512 => ?_)
          · refine r_iconst X (v := 0) dL_holds_519 rfl ?_
            rw [if_neg c512] at K512
            exact K512
          · refine r_iconst X (v := 1) dL_holds_515 rfl ?_
            refine r_goto X 520 dL_holds_516 rfl ?_
            rw [if_pos c512] at K512
            exact K512
        refine r_aload_n X (x := k.b + (0)) dL_holds_520 rfl ?_
        obtain ⟨u521, h521, hf⟩ := bdS hf
        refine r_callV0 X [] [.int (if u475 = 0 then (1 : Int32) else (0 : Int32))] (K9_openable h521) lkL_90 clsX9 rfl _ o_main (by decide) (Nat.le_of_ble_eq_true rfl) rfl rfl (Nat.le_of_ble_eq_true rfl) rfl rfl (Nat.zero_le _) (Nat.zero_le _) dL_holds_521 ?_
        refine r_iload X (x := x4) dL_holds_524 rfl ?_
        refine r_ishr X dL_holds_526 ?_
        refine r_iconst X (v := 1) dL_holds_527 rfl ?_
        refine r_iand X dL_holds_528 ?_
        refine r_iconst X (v := 1) dL_holds_529 rfl ?_
        suffices K530 : VW k z 0 0 (wAll k T R ly rc hn rp tp ee st) 538 [some (.ref (k.b + (0))), none, some (.int x2), none, some (.int x4), some (.int u475), none, none, none, none, none, none, none, none] [.int (if ((u521 >>> (x4 &&& 31)) &&& 1) = 1 then (1 : Int32) else (0 : Int32)), .int (if u475 = 0 then (1 : Int32) else (0 : Int32))] by
          refine r_icmp_ne X 537 dL_holds_530 rfl (fun c530 => ?_) (fun c530 => ?_)
          · refine r_iconst X (v := 0) dL_holds_537 rfl ?_
            rw [if_neg c530] at K530
            exact K530
          · refine r_iconst X (v := 1) dL_holds_533 rfl ?_
            refine r_goto X 538 dL_holds_534 rfl ?_
            rw [if_pos c530] at K530
            exact K530
        refine r_icmp_ne X 588 dL_holds_538 rfl (fun c538 => ?_) (fun c538 => ?_)
        · replace hf := ifF hf c538
          refine r_iconst X (v := 0) dL_holds_588 rfl ?_
          obtain rfl := Option.some.inj hf
          exact r_zreturn X hQ rfl rfl (Nat.le_of_ble_eq_true rfl) (Nat.le_of_ble_eq_true rfl) rfl dL_holds_589
        · replace hf := ifT hf c538
          refine r_iload X (x := u475) dL_holds_541 rfl ?_
          refine r_if_ne X 564 dL_holds_543 rfl (fun c543 => ?_) (fun c543 => ?_)
          · replace hf := ifF hf c543
            exact B_holds_B564 X hQ (f_holds_B466 (ly (0 : Fin 2)) tp fu) ih hn st x2 x4 u475 hf
          · replace hf := ifT hf c543
            refine r_aload_n X (x := k.b + (0)) dL_holds_546 rfl ?_
            refine r_iload X (x := x4) dL_holds_547 rfl ?_
            refine r_bipush X (v := 6) dL_holds_549 rfl ?_
            obtain ⟨u551, h551, hf⟩ := bdS hf
            refine r_callV0 X [.int x4, .int 6] [] (K9_valve h551) lkL_87 clsX9 rfl _ o_main (by decide) (Nat.le_of_ble_eq_true rfl) rfl rfl (Nat.le_of_ble_eq_true rfl) rfl rfl (Nat.zero_le _) (Nat.zero_le _) dL_holds_551 ?_
            refine r_aload_n X (x := k.b + (0)) dL_holds_554 rfl ?_
            refine r_iload X (x := x4) dL_holds_555 rfl ?_
            refine r_iconst X (v := 3) dL_holds_557 rfl ?_
            obtain ⟨u558, h558, hf⟩ := bdS hf
            refine r_callV0 X [.int x4, .int 3] [.int u551] (K9_valve h558) lkL_87 clsX9 rfl _ o_main (by decide) (Nat.le_of_ble_eq_true rfl) rfl rfl (Nat.le_of_ble_eq_true rfl) rfl rfl (Nat.zero_le _) (Nat.zero_le _) dL_holds_558 ?_
            refine r_icmp_gt X 588 dL_holds_561 rfl (fun c561 => ?_) (fun c561 => ?_)
            · replace hf := ifT hf c561
              refine r_iconst X (v := 0) dL_holds_588 rfl ?_
              obtain rfl := Option.some.inj hf
              exact r_zreturn X hQ rfl rfl (Nat.le_of_ble_eq_true rfl) (Nat.le_of_ble_eq_true rfl) rfl dL_holds_589
            · replace hf := ifF hf c561
              exact B_holds_B564 X hQ (f_holds_B466 (ly (0 : Fin 2)) tp fu) ih hn st x2 x4 u475 hf
set_option maxRecDepth 100000 in
set_option maxHeartbeats 4000000 in
theorem B_holds_B435 {k : KT} {z : ZT} {T : TT} {R : RR} {ly : Fin 2 → LL} {rc : RC} {rp : RP} {tp : TP} {ee : EE} {r : Int32 × (HN) × (Fin 12 → SS)} (X : XX k strs z RL cL_holds 14 (some .boolean) (rmD 6 0 0)) (hQ : zQ z = MQ (zB z) (Qof k (some (.int r.1)) (wAll k T R ly rc r.2.1 rp tp ee r.2.2)) (zA z) (zS z) 0 0 (kA k)) (rec23 : HN → (Fin 12 → SS) → Int32 → Int32 → Int32 → Option (Int32 × (HN) × (Fin 12 → SS))) (hrec23 : ∀ (hn : HN) (st : Fin 12 → SS) (x2 : Int32) (x3 : Int32) (x4 : Int32), rec23 hn st x2 x3 x4 = some r → VW k z 0 0 (wAll k T R ly rc hn rp tp ee st) 23 [some (.ref (k.b + (0))), none, some (.int x2), some (.int x3), some (.int x4), none, none, none, none, none, none, none, none, none] []) (rec381 : HN → (Fin 12 → SS) → Int32 → Int32 → Int32 → Int32 → Int32 → Option (Int32 × (HN) × (Fin 12 → SS))) (hrec381 : ∀ (hn : HN) (st : Fin 12 → SS) (x2 : Int32) (x3 : Int32) (x4 : Int32) (x11 : Int32) (x13 : Int32), rec381 hn st x2 x3 x4 x11 x13 = some r → VW k z 0 0 (wAll k T R ly rc hn rp tp ee st) 381 [some (.ref (k.b + (0))), none, some (.int x2), some (.int x3), some (.int x4), none, none, none, none, none, none, some (.int x11), none, some (.int x13)] []) (hn : HN) (st : Fin 12 → SS) (x2 : Int32) (x3 : Int32) (x4 : Int32) (x11 : Int32) (x13 : Int32) (t0 : Int32) (t1 : Int32) (hf : f_holds_B435 (ly (0 : Fin 2)) tp rec23 rec381 hn st x2 x3 x4 x11 x13 t0 t1 = some r) : VW k z 0 0 (wAll k T R ly rc hn rp tp ee st) 435 [some (.ref (k.b + (0))), none, some (.int x2), some (.int x3), some (.int x4), none, none, none, none, none, none, some (.int x11), none, some (.int x13)] [.int t1, .int t0] := by
  unfold f_holds_B435 at hf
  refine r_icmp_eq X 451 dL_holds_435 rfl (fun c435 => ?_) (fun c435 => ?_)
  · replace hf := ifT hf c435
    refine r_iinc X (x := x13) (v := x13 + 1) [some (.ref (k.b + (0))), none, some (.int x2), some (.int x3), some (.int x4), none, none, none, none, none, none, some (.int x11), none, some (.int (x13 + 1))] dL_holds_451 rfl rfl rfl ?_
    refine r_goto X 381 dL_holds_454 rfl ?_
    exact hrec381 hn st x2 x3 x4 x11 (x13 + 1) hf
  · replace hf := ifF hf c435
    refine r_iload X (x := x11) dL_holds_438 rfl ?_
    refine r_iload X (x := x13) dL_holds_440 rfl ?_
    refine r_ishr X dL_holds_442 ?_
    refine r_iconst X (v := 1) dL_holds_443 rfl ?_
    refine r_iand X dL_holds_444 ?_
    refine r_iconst X (v := 1) dL_holds_445 rfl ?_
    refine r_icmp_ne X 451 dL_holds_446 rfl (fun c446 => ?_) (fun c446 => ?_)
    · replace hf := ifF hf c446
      refine r_iinc X (x := x13) (v := x13 + 1) [some (.ref (k.b + (0))), none, some (.int x2), some (.int x3), some (.int x4), none, none, none, none, none, none, some (.int x11), none, some (.int (x13 + 1))] dL_holds_451 rfl rfl rfl ?_
      refine r_goto X 381 dL_holds_454 rfl ?_
      exact hrec381 hn st x2 x3 x4 x11 (x13 + 1) hf
    · replace hf := ifT hf c446
      refine r_iconst X (v := 0) dL_holds_449 rfl ?_
      obtain rfl := Option.some.inj hf
      exact r_zreturn X hQ rfl rfl (Nat.le_of_ble_eq_true rfl) (Nat.le_of_ble_eq_true rfl) rfl dL_holds_450
set_option maxRecDepth 100000 in
set_option maxHeartbeats 4000000 in
theorem B_holds_B381 {k : KT} {z : ZT} {T : TT} {R : RR} {ly : Fin 2 → LL} {rc : RC} {rp : RP} {tp : TP} {ee : EE} {r : Int32 × (HN) × (Fin 12 → SS)} (X : XX k strs z RL cL_holds 14 (some .boolean) (rmD 6 0 0)) (hQ : zQ z = MQ (zB z) (Qof k (some (.int r.1)) (wAll k T R ly rc r.2.1 rp tp ee r.2.2)) (zA z) (zS z) 0 0 (kA k)) (rec23 : HN → (Fin 12 → SS) → Int32 → Int32 → Int32 → Option (Int32 × (HN) × (Fin 12 → SS))) (hrec23 : ∀ (hn : HN) (st : Fin 12 → SS) (x2 : Int32) (x3 : Int32) (x4 : Int32), rec23 hn st x2 x3 x4 = some r → VW k z 0 0 (wAll k T R ly rc hn rp tp ee st) 23 [some (.ref (k.b + (0))), none, some (.int x2), some (.int x3), some (.int x4), none, none, none, none, none, none, none, none, none] []) : ∀ (fu : Nat) (hn : HN) (st : Fin 12 → SS) (x2 : Int32) (x3 : Int32) (x4 : Int32) (x11 : Int32) (x13 : Int32), f_holds_B381 (ly (0 : Fin 2)) tp rec23 fu hn st x2 x3 x4 x11 x13 = some r → VW k z 0 0 (wAll k T R ly rc hn rp tp ee st) 381 [some (.ref (k.b + (0))), none, some (.int x2), some (.int x3), some (.int x4), none, none, none, none, none, none, some (.int x11), none, some (.int x13)] [] := by
  intro fu
  induction fu with
  | zero =>
    intro hn st x2 x3 x4 x11 x13 hf
    rw [f_holds_B381] at hf
    cases hf
  | succ fu ih =>
    intro hn st x2 x3 x4 x11 x13 hf
    rw [f_holds_B381] at hf
    refine r_iload X (x := x13) dL_holds_381 rfl ?_
    refine r_aload_n X (x := k.b + (0)) dL_holds_383 rfl ?_
    refine r_iconst X (v := 3) dL_holds_384 rfl ?_
    obtain ⟨u385, h385, hf⟩ := bdS hf
    refine r_callV0 X [.int 3] [.int x13] (K9_count h385) lkL_78 clsX9 rfl _ o_main (by decide) (Nat.le_of_ble_eq_true rfl) rfl rfl (Nat.le_of_ble_eq_true rfl) rfl rfl (Nat.zero_le _) (Nat.zero_le _) dL_holds_385 ?_
    refine r_icmp_ge X 457 dL_holds_388 rfl (fun c388 => ?_) (fun c388 => ?_)
    · replace hf := ifT hf c388
      refine r_iinc X (x := x4) (v := x4 + 1) [some (.ref (k.b + (0))), none, some (.int x2), some (.int x3), some (.int (x4 + 1)), none, none, none, none, none, none, some (.int x11), none, some (.int x13)] dL_holds_457 rfl rfl rfl ?_
      refine r_goto X 23 dL_holds_460 rfl ?_
      refine VW.msk [true, false, true, true, true, false, false, false, false, false, false, false, false, false] rfl (lo' := [some (.ref (k.b + (0))), none, some (.int x2), some (.int x3), some (.int (x4 + 1)), none, none, none, none, none, none, none, none, none]) rfl ?_
      exact hrec23 hn st x2 x3 (x4 + 1) hf
    · replace hf := ifF hf c388
      refine r_iload X (x := x11) dL_holds_391 rfl ?_
      refine r_iload X (x := x13) dL_holds_393 rfl ?_
      refine r_ishr X dL_holds_395 ?_
      refine r_iconst X (v := 1) dL_holds_396 rfl ?_
      refine r_iand X dL_holds_397 ?_
      refine r_iconst X (v := 1) dL_holds_398 rfl ?_
      suffices K399 : VW k z 0 0 (wAll k T R ly rc hn rp tp ee st) 407 [some (.ref (k.b + (0))), none, some (.int x2), some (.int x3), some (.int x4), none, none, none, none, none, none, some (.int x11), none, some (.int x13)] [.int (if ((x11 >>> (x13 &&& 31)) &&& 1) = 1 then (1 : Int32) else (0 : Int32))] by
        refine r_icmp_ne X 406 dL_holds_399 rfl (fun c399 => ?_) (fun c399 => ?_)
        · refine r_iconst X (v := 0) dL_holds_406 rfl ?_
          rw [if_neg c399] at K399
          exact K399
        · refine r_iconst X (v := 1) dL_holds_402 rfl ?_
          refine r_goto X 407 dL_holds_403 rfl ?_
          rw [if_pos c399] at K399
          exact K399
      refine r_aload_n X (x := k.b + (0)) dL_holds_407 rfl ?_
      refine r_iload X (x := x13) dL_holds_408 rfl ?_
      refine r_iconst X (v := 0) dL_holds_410 rfl ?_
      obtain ⟨u411, h411, hf⟩ := bdS hf
      refine r_callV0 X [.int x13, .int 0] [.int (if ((x11 >>> (x13 &&& 31)) &&& 1) = 1 then (1 : Int32) else (0 : Int32))] (K9_flange h411) lkL_81 clsX9 rfl _ o_main (by decide) (Nat.le_of_ble_eq_true rfl) rfl rfl (Nat.le_of_ble_eq_true rfl) rfl rfl (Nat.zero_le _) (Nat.zero_le _) dL_holds_411 ?_
      refine r_iload X (x := x4) dL_holds_414 rfl ?_
      refine r_icmp_ne X 434 dL_holds_416 rfl (fun c416 => ?_) (fun c416 => ?_)
      · replace hf := ifF hf c416
        refine r_iconst X (v := 0) dL_holds_434 rfl ?_
        exact B_holds_B435 X hQ rec23 hrec23 (f_holds_B381 (ly (0 : Fin 2)) tp rec23 fu) ih hn st x2 x3 x4 x11 x13 (if ((x11 >>> (x13 &&& 31)) &&& 1) = 1 then (1 : Int32) else (0 : Int32)) 0 hf
      · replace hf := ifT hf c416
        refine r_aload_n X (x := k.b + (0)) dL_holds_419 rfl ?_
        refine r_iload X (x := x13) dL_holds_420 rfl ?_
        refine r_iconst X (v := 1) dL_holds_422 rfl ?_
        obtain ⟨u423, h423, hf⟩ := bdS hf
        refine r_callV0 X [.int x13, .int 1] [.int (if ((x11 >>> (x13 &&& 31)) &&& 1) = 1 then (1 : Int32) else (0 : Int32))] (K9_flange h423) lkL_81 clsX9 rfl _ o_main (by decide) (Nat.le_of_ble_eq_true rfl) rfl rfl (Nat.le_of_ble_eq_true rfl) rfl rfl (Nat.zero_le _) (Nat.zero_le _) dL_holds_423 ?_
        refine r_iload_n X (x := x3) dL_holds_426 rfl ?_
        refine r_icmp_lt X 434 dL_holds_427 rfl (fun c427 => ?_) (fun c427 => ?_)
        · replace hf := ifT hf c427
          refine r_iconst X (v := 0) dL_holds_434 rfl ?_
          exact B_holds_B435 X hQ rec23 hrec23 (f_holds_B381 (ly (0 : Fin 2)) tp rec23 fu) ih hn st x2 x3 x4 x11 x13 (if ((x11 >>> (x13 &&& 31)) &&& 1) = 1 then (1 : Int32) else (0 : Int32)) 0 hf
        · replace hf := ifF hf c427
          refine r_iconst X (v := 1) dL_holds_430 rfl ?_
          refine r_goto X 435 dL_holds_431 rfl ?_
          exact B_holds_B435 X hQ rec23 hrec23 (f_holds_B381 (ly (0 : Fin 2)) tp rec23 fu) ih hn st x2 x3 x4 x11 x13 (if ((x11 >>> (x13 &&& 31)) &&& 1) = 1 then (1 : Int32) else (0 : Int32)) 1 hf
set_option maxRecDepth 100000 in
set_option maxHeartbeats 4000000 in
theorem B_holds_B225 {k : KT} {z : ZT} {T : TT} {R : RR} {ly : Fin 2 → LL} {rc : RC} {rp : RP} {tp : TP} {ee : EE} {r : Int32 × (HN) × (Fin 12 → SS)} (X : XX k strs z RL cL_holds 14 (some .boolean) (rmD 6 0 0)) (hQ : zQ z = MQ (zB z) (Qof k (some (.int r.1)) (wAll k T R ly rc r.2.1 rp tp ee r.2.2)) (zA z) (zS z) 0 0 (kA k)) (rec23 : HN → (Fin 12 → SS) → Int32 → Int32 → Int32 → Option (Int32 × (HN) × (Fin 12 → SS))) (hrec23 : ∀ (hn : HN) (st : Fin 12 → SS) (x2 : Int32) (x3 : Int32) (x4 : Int32), rec23 hn st x2 x3 x4 = some r → VW k z 0 0 (wAll k T R ly rc hn rp tp ee st) 23 [some (.ref (k.b + (0))), none, some (.int x2), some (.int x3), some (.int x4), none, none, none, none, none, none, none, none, none] []) : ∀ (fu : Nat) (hn : HN) (st : Fin 12 → SS) (x2 : Int32) (x3 : Int32) (x4 : Int32) (x6 : Int32) (x11 : Int32), f_holds_B225 (ly (0 : Fin 2)) tp rec23 fu hn st x2 x3 x4 x6 x11 = some r → VW k z 0 0 (wAll k T R ly rc hn rp tp ee st) 225 [some (.ref (k.b + (0))), none, some (.int x2), some (.int x3), some (.int x4), none, some (.int x6), none, none, none, none, some (.int x11), none, none] [] := by
  intro fu
  induction fu with
  | zero =>
    intro hn st x2 x3 x4 x6 x11 hf
    rw [f_holds_B225] at hf
    cases hf
  | succ fu ih =>
    intro hn st x2 x3 x4 x6 x11 hf
    rw [f_holds_B225] at hf
    refine r_iload X (x := x11) dL_holds_225 rfl ?_
    refine r_iconst X (v := 3) dL_holds_227 rfl ?_
    refine r_icmp_ge X 316 dL_holds_228 rfl (fun c228 => ?_) (fun c228 => ?_)
    · replace hf := ifT hf c228
      refine r_aload_n X (x := k.b + (0)) dL_holds_316 rfl ?_
      refine r_iload X (x := x4) dL_holds_317 rfl ?_
      refine r_iload_n X (x := x3) dL_holds_319 rfl ?_
      obtain ⟨u320, h320, hf⟩ := bdS hf
      refine r_callV0 X [.int x4, .int x3] [] (K9_found h320) lkL_64 clsX9 rfl _ o_main (by decide) (Nat.le_of_ble_eq_true rfl) rfl rfl (Nat.le_of_ble_eq_true rfl) rfl rfl (Nat.zero_le _) (Nat.zero_le _) dL_holds_320 ?_
      refine r_istore X [some (.ref (k.b + (0))), none, some (.int x2), some (.int x3), some (.int x4), none, some (.int x6), none, none, none, none, some (.int u320.1), none, none] dL_holds_323 (Nat.le_of_ble_eq_true rfl) rfl ?_
      refine r_aload_n X (x := k.b + (0)) dL_holds_325 rfl ?_
      refine r_iload X (x := x4) dL_holds_326 rfl ?_
      refine r_iload_n X (x := x3) dL_holds_328 rfl ?_
      obtain ⟨u329, h329, hf⟩ := bdS hf
      refine r_callV0 X [.int x4, .int x3] [] (K9_sprays h329) lkL_67 clsX9 rfl _ o_main (by decide) (Nat.le_of_ble_eq_true rfl) rfl rfl (Nat.le_of_ble_eq_true rfl) rfl rfl (Nat.zero_le _) (Nat.zero_le _) dL_holds_329 ?_
      refine r_istore X [some (.ref (k.b + (0))), none, some (.int x2), some (.int x3), some (.int x4), none, some (.int x6), none, none, none, none, some (.int u320.1), some (.int u329.1), none] dL_holds_332 (Nat.le_of_ble_eq_true rfl) rfl ?_
      refine r_aload_n X (x := k.b + (0)) dL_holds_334 rfl ?_
      refine r_iload X (x := u320.1) dL_holds_335 rfl ?_
      obtain ⟨u337, h337, hf⟩ := bdS hf
      refine r_callV0 X [.int u320.1] [] (K9_spray h337) lkL_70 clsX9 rfl _ o_main (by decide) (Nat.le_of_ble_eq_true rfl) rfl rfl (Nat.le_of_ble_eq_true rfl) rfl rfl (Nat.zero_le _) (Nat.zero_le _) dL_holds_337 ?_
      refine r_aload_n X (x := k.b + (0)) dL_holds_340 rfl ?_
      refine r_iload X (x := x4) dL_holds_341 rfl ?_
      refine r_iconst X (v := 4) dL_holds_343 rfl ?_
      obtain ⟨u344, h344, hf⟩ := bdS hf
      refine r_callV0 X [.int x4, .int 4] [.int u337] (K9_chamber h344) lkL_27 clsX9 rfl _ o_main (by decide) (Nat.le_of_ble_eq_true rfl) rfl rfl (Nat.le_of_ble_eq_true rfl) rfl rfl (Nat.zero_le _) (Nat.zero_le _) dL_holds_344 ?_
      refine r_icmp_gt X 376 dL_holds_347 rfl (fun c347 => ?_) (fun c347 => ?_)
      · replace hf := ifT hf c347
        refine r_iconst X (v := 0) dL_holds_376 rfl ?_
        obtain rfl := Option.some.inj hf
        exact r_zreturn X hQ rfl rfl (Nat.le_of_ble_eq_true rfl) (Nat.le_of_ble_eq_true rfl) rfl dL_holds_377
      · replace hf := ifF hf c347
        refine r_iload X (x := u329.1) dL_holds_350 rfl ?_
        refine r_iload X (x := u320.1) dL_holds_352 rfl ?_
        refine r_bitc X lkL_73 (Nat.le_of_ble_eq_true rfl) (Nat.le_of_ble_eq_true rfl) rfl (Nat.zero_le _) (Nat.zero_le _) dL_holds_354 ?_
        refine r_icmp_lt X 376 dL_holds_357 rfl (fun c357 => ?_) (fun c357 => ?_)
        · replace hf := ifT hf c357
          refine r_iconst X (v := 0) dL_holds_376 rfl ?_
          obtain rfl := Option.some.inj hf
          exact r_zreturn X hQ rfl rfl (Nat.le_of_ble_eq_true rfl) (Nat.le_of_ble_eq_true rfl) rfl dL_holds_377
        · replace hf := ifF hf c357
          refine r_iload X (x := u320.1) dL_holds_360 rfl ?_
          refine r_if_eq X 378 dL_holds_362 rfl (fun c362 => ?_) (fun c362 => ?_)
          · replace hf := ifT hf c362
            refine r_iconst X (v := 0) dL_holds_378 rfl ?_
            refine r_istore X [some (.ref (k.b + (0))), none, some (.int x2), some (.int x3), some (.int x4), none, some (.int x6), none, none, none, none, some (.int u320.1), some (.int u329.1), some (.int 0)] dL_holds_379 (Nat.le_of_ble_eq_true rfl) rfl ?_
            refine VW.msk [true, false, true, true, true, false, false, false, false, false, false, true, false, true] rfl (lo' := [some (.ref (k.b + (0))), none, some (.int x2), some (.int x3), some (.int x4), none, none, none, none, none, none, some (.int u320.1), none, some (.int 0)]) rfl ?_
            exact B_holds_B381 X hQ rec23 hrec23 FU u329.2 st x2 x3 x4 u320.1 0 hf
          · replace hf := ifF hf c362
            refine r_aload_n X (x := k.b + (0)) dL_holds_365 rfl ?_
            refine r_iload X (x := x4) dL_holds_366 rfl ?_
            refine r_iconst X (v := 4) dL_holds_368 rfl ?_
            obtain ⟨u369, h369, hf⟩ := bdS hf
            refine r_callV0 X [.int x4, .int 4] [] (K9_chamber h369) lkL_27 clsX9 rfl _ o_main (by decide) (Nat.le_of_ble_eq_true rfl) rfl rfl (Nat.le_of_ble_eq_true rfl) rfl rfl (Nat.zero_le _) (Nat.zero_le _) dL_holds_369 ?_
            refine r_iload_n X (x := x3) dL_holds_372 rfl ?_
            refine r_icmp_ge X 378 dL_holds_373 rfl (fun c373 => ?_) (fun c373 => ?_)
            · replace hf := ifT hf c373
              refine r_iconst X (v := 0) dL_holds_378 rfl ?_
              refine r_istore X [some (.ref (k.b + (0))), none, some (.int x2), some (.int x3), some (.int x4), none, some (.int x6), none, none, none, none, some (.int u320.1), some (.int u329.1), some (.int 0)] dL_holds_379 (Nat.le_of_ble_eq_true rfl) rfl ?_
              refine VW.msk [true, false, true, true, true, false, false, false, false, false, false, true, false, true] rfl (lo' := [some (.ref (k.b + (0))), none, some (.int x2), some (.int x3), some (.int x4), none, none, none, none, none, none, some (.int u320.1), none, some (.int 0)]) rfl ?_
              exact B_holds_B381 X hQ rec23 hrec23 FU u329.2 st x2 x3 x4 u320.1 0 hf
            · replace hf := ifF hf c373
              refine r_iconst X (v := 0) dL_holds_376 rfl ?_
              obtain rfl := Option.some.inj hf
              exact r_zreturn X hQ rfl rfl (Nat.le_of_ble_eq_true rfl) (Nat.le_of_ble_eq_true rfl) rfl dL_holds_377
    · replace hf := ifF hf c228
      refine r_iload X (x := x6) dL_holds_231 rfl ?_
      refine r_iload X (x := x11) dL_holds_233 rfl ?_
      refine r_ishr X dL_holds_235 ?_
      refine r_iconst X (v := 1) dL_holds_236 rfl ?_
      refine r_iand X dL_holds_237 ?_
      refine r_aload_n X (x := k.b + (0)) dL_holds_238 rfl ?_
      refine r_iload X (x := x11) dL_holds_239 rfl ?_
      obtain ⟨u241, h241, hf⟩ := bdS hf
      refine r_callV0 X [.int x11] [.int ((x6 >>> (x11 &&& 31)) &&& 1)] (K9_joined h241) lkL_31 clsX9 rfl _ o_main (by decide) (Nat.le_of_ble_eq_true rfl) rfl rfl (Nat.le_of_ble_eq_true rfl) rfl rfl (Nat.zero_le _) (Nat.zero_le _) dL_holds_241 ?_
      refine r_iload X (x := x4) dL_holds_244 rfl ?_
      refine r_ishr X dL_holds_246 ?_
      refine r_iconst X (v := 1) dL_holds_247 rfl ?_
      refine r_iand X dL_holds_248 ?_
      refine r_icmp_ne X 308 dL_holds_249 rfl (fun c249 => ?_) (fun c249 => ?_)
      · replace hf := ifF hf c249
        refine r_iconst X (v := 0) dL_holds_308 rfl ?_
        obtain rfl := Option.some.inj hf
        exact r_zreturn X hQ rfl rfl (Nat.le_of_ble_eq_true rfl) (Nat.le_of_ble_eq_true rfl) rfl dL_holds_309
      · replace hf := ifT hf c249
        refine r_aload_n X (x := k.b + (0)) dL_holds_252 rfl ?_
        refine r_iload X (x := x4) dL_holds_253 rfl ?_
        refine r_iload X (x := x11) dL_holds_255 rfl ?_
        obtain ⟨u257, h257, hf⟩ := bdS hf
        refine r_callV0 X [.int x4, .int x11] [] (K9_fewestValves h257) lkL_58 clsX9 rfl _ o_main (by decide) (Nat.le_of_ble_eq_true rfl) rfl rfl (Nat.le_of_ble_eq_true rfl) rfl rfl (Nat.zero_le _) (Nat.zero_le _) dL_holds_257 ?_
        refine r_aload_n X (x := k.b + (0)) dL_holds_260 rfl ?_
        refine r_iload X (x := x11) dL_holds_261 rfl ?_
        refine r_iload X (x := x4) dL_holds_263 rfl ?_
        obtain ⟨u265, h265, hf⟩ := bdS hf
        refine r_callV0 X [.int x11, .int x4] [.int u257] (K9_fewestValves h265) lkL_58 clsX9 rfl _ o_main (by decide) (Nat.le_of_ble_eq_true rfl) rfl rfl (Nat.le_of_ble_eq_true rfl) rfl rfl (Nat.zero_le _) (Nat.zero_le _) dL_holds_265 ?_
        refine r_icmp_ne X 308 dL_holds_268 rfl (fun c268 => ?_) (fun c268 => ?_)
        · replace hf := ifF hf c268
          refine r_iconst X (v := 0) dL_holds_308 rfl ?_
          obtain rfl := Option.some.inj hf
          exact r_zreturn X hQ rfl rfl (Nat.le_of_ble_eq_true rfl) (Nat.le_of_ble_eq_true rfl) rfl dL_holds_309
        · replace hf := ifT hf c268
          refine r_iload X (x := x6) dL_holds_271 rfl ?_
          refine r_iload X (x := x11) dL_holds_273 rfl ?_
          refine r_ishr X dL_holds_275 ?_
          refine r_iconst X (v := 1) dL_holds_276 rfl ?_
          refine r_iand X dL_holds_277 ?_
          refine r_iconst X (v := 1) dL_holds_278 rfl ?_
          refine r_icmp_ne X 310 dL_holds_279 rfl (fun c279 => ?_) (fun c279 => ?_)
          · replace hf := ifF hf c279
            refine r_iinc X (x := x11) (v := x11 + 1) [some (.ref (k.b + (0))), none, some (.int x2), some (.int x3), some (.int x4), none, some (.int x6), none, none, none, none, some (.int (x11 + 1)), none, none] dL_holds_310 rfl rfl rfl ?_
            refine r_goto X 225 dL_holds_313 rfl ?_
            exact ih hn st x2 x3 x4 x6 (x11 + 1) hf
          · replace hf := ifT hf c279
            refine r_aload_n X (x := k.b + (0)) dL_holds_282 rfl ?_
            refine r_iload X (x := x4) dL_holds_283 rfl ?_
            refine r_iload X (x := x11) dL_holds_285 rfl ?_
            obtain ⟨u287, h287, hf⟩ := bdS hf
            refine r_callV0 X [.int x4, .int x11] [] (K9_fewestValves h287) lkL_58 clsX9 rfl _ o_main (by decide) (Nat.le_of_ble_eq_true rfl) rfl rfl (Nat.le_of_ble_eq_true rfl) rfl rfl (Nat.zero_le _) (Nat.zero_le _) dL_holds_287 ?_
            refine r_if_lt X 308 dL_holds_290 rfl (fun c290 => ?_) (fun c290 => ?_)
            · replace hf := ifT hf c290
              refine r_iconst X (v := 0) dL_holds_308 rfl ?_
              obtain rfl := Option.some.inj hf
              exact r_zreturn X hQ rfl rfl (Nat.le_of_ble_eq_true rfl) (Nat.le_of_ble_eq_true rfl) rfl dL_holds_309
            · replace hf := ifF hf c290
              refine r_aload_n X (x := k.b + (0)) dL_holds_293 rfl ?_
              refine r_iload X (x := x4) dL_holds_294 rfl ?_
              obtain ⟨u296, h296, hf⟩ := bdS hf
              refine r_callV0 X [.int x4] [] (K9_isVented h296) lkL_61 clsX9 rfl _ o_main (by decide) (Nat.le_of_ble_eq_true rfl) rfl rfl (Nat.le_of_ble_eq_true rfl) rfl rfl (Nat.zero_le _) (Nat.zero_le _) dL_holds_296 ?_
              refine r_aload_n X (x := k.b + (0)) dL_holds_299 rfl ?_
              refine r_iload X (x := x11) dL_holds_300 rfl ?_
              obtain ⟨u302, h302, hf⟩ := bdS hf
              refine r_callV0 X [.int x11] [.int u296] (K9_isVented h302) lkL_61 clsX9 rfl _ o_main (by decide) (Nat.le_of_ble_eq_true rfl) rfl rfl (Nat.le_of_ble_eq_true rfl) rfl rfl (Nat.zero_le _) (Nat.zero_le _) dL_holds_302 ?_
              refine r_icmp_eq X 310 dL_holds_305 rfl (fun c305 => ?_) (fun c305 => ?_)
              · replace hf := ifT hf c305
                refine r_iinc X (x := x11) (v := x11 + 1) [some (.ref (k.b + (0))), none, some (.int x2), some (.int x3), some (.int x4), none, some (.int x6), none, none, none, none, some (.int (x11 + 1)), none, none] dL_holds_310 rfl rfl rfl ?_
                refine r_goto X 225 dL_holds_313 rfl ?_
                exact ih hn st x2 x3 x4 x6 (x11 + 1) hf
              · replace hf := ifF hf c305
                refine r_iconst X (v := 0) dL_holds_308 rfl ?_
                obtain rfl := Option.some.inj hf
                exact r_zreturn X hQ rfl rfl (Nat.le_of_ble_eq_true rfl) (Nat.le_of_ble_eq_true rfl) rfl dL_holds_309
set_option maxRecDepth 100000 in
set_option maxHeartbeats 4000000 in
theorem B_holds_B109 {k : KT} {z : ZT} {T : TT} {R : RR} {ly : Fin 2 → LL} {rc : RC} {rp : RP} {tp : TP} {ee : EE} {r : Int32 × (HN) × (Fin 12 → SS)} (X : XX k strs z RL cL_holds 14 (some .boolean) (rmD 6 0 0)) (hQ : zQ z = MQ (zB z) (Qof k (some (.int r.1)) (wAll k T R ly rc r.2.1 rp tp ee r.2.2)) (zA z) (zS z) 0 0 (kA k)) (rec : HN → (Fin 12 → SS) → Int32 → Int32 → Int32 → Option (Int32 × (HN) × (Fin 12 → SS))) (hrec : ∀ (hn : HN) (st : Fin 12 → SS) (x2 : Int32) (x3 : Int32) (x4 : Int32), rec hn st x2 x3 x4 = some r → VW k z 0 0 (wAll k T R ly rc hn rp tp ee st) 23 [some (.ref (k.b + (0))), none, some (.int x2), some (.int x3), some (.int x4), none, none, none, none, none, none, none, none, none] []) (hn : HN) (st : Fin 12 → SS) (x2 : Int32) (x3 : Int32) (x4 : Int32) (x5 : Int32) (x6 : Int32) (hf : f_holds_B109 (ly (0 : Fin 2)) tp rec hn st x2 x3 x4 x5 x6 = some r) : VW k z 0 0 (wAll k T R ly rc hn rp tp ee st) 109 [some (.ref (k.b + (0))), none, some (.int x2), some (.int x3), some (.int x4), some (.int x5), some (.int x6), none, none, none, none, none, none, none] [] := by
  unfold f_holds_B109 at hf
  refine r_aload_n X (x := k.b + (0)) dL_holds_109 rfl ?_
  refine r_iload X (x := x4) dL_holds_110 rfl ?_
  refine r_iload_n X (x := x2) dL_holds_112 rfl ?_
  obtain ⟨u113, h113, hf⟩ := bdS hf
  refine r_callV0 X [.int x4, .int x2] [] (K9_lowest h113) lkL_42 clsX9 rfl _ o_main (by decide) (Nat.le_of_ble_eq_true rfl) rfl rfl (Nat.le_of_ble_eq_true rfl) rfl rfl (Nat.zero_le _) (Nat.zero_le _) dL_holds_113 ?_
  refine r_istore X [some (.ref (k.b + (0))), none, some (.int x2), some (.int x3), some (.int x4), some (.int x5), some (.int x6), some (.int u113.1), none, none, none, none, none, none] dL_holds_116 (Nat.le_of_ble_eq_true rfl) rfl ?_
  refine r_aload_n X (x := k.b + (0)) dL_holds_118 rfl ?_
  refine r_iload X (x := x4) dL_holds_119 rfl ?_
  refine r_iload_n X (x := x2) dL_holds_121 rfl ?_
  obtain ⟨u122, h122, hf⟩ := bdS hf
  refine r_callV0 X [.int x4, .int x2] [] (K9_pressureAfter h122) lkL_45 clsX9 rfl _ o_main (by decide) (Nat.le_of_ble_eq_true rfl) rfl rfl (Nat.le_of_ble_eq_true rfl) rfl rfl (Nat.zero_le _) (Nat.zero_le _) dL_holds_122 ?_
  refine r_istore X [some (.ref (k.b + (0))), none, some (.int x2), some (.int x3), some (.int x4), some (.int x5), some (.int x6), some (.int u113.1), some (.int u122.1), none, none, none, none, none] dL_holds_125 (Nat.le_of_ble_eq_true rfl) rfl ?_
  refine r_aload_n X (x := k.b + (0)) dL_holds_127 rfl ?_
  refine r_iload X (x := x4) dL_holds_128 rfl ?_
  refine r_iload_n X (x := x2) dL_holds_130 rfl ?_
  obtain ⟨u131, h131, hf⟩ := bdS hf
  refine r_callV0 X [.int x4, .int x2] [] (K9_meanPressure h131) lkL_48 clsX9 rfl _ o_main (by decide) (Nat.le_of_ble_eq_true rfl) rfl rfl (Nat.le_of_ble_eq_true rfl) rfl rfl (Nat.zero_le _) (Nat.zero_le _) dL_holds_131 ?_
  refine r_dstore X [some (.ref (k.b + (0))), none, some (.int x2), some (.int x3), some (.int x4), some (.int x5), some (.int x6), some (.int u113.1), some (.int u122.1), some (.double u131.1), none, none, none, none] dL_holds_134 (Nat.le_of_ble_eq_true rfl) rfl ?_
  refine r_iload X (x := u113.1) dL_holds_136 rfl ?_
  refine r_iload X (x := x5) dL_holds_138 rfl ?_
  refine r_icmp_gt X 171 dL_holds_140 rfl (fun c140 => ?_) (fun c140 => ?_)
  · replace hf := ifT hf c140
    refine r_iconst X (v := 0) dL_holds_171 rfl ?_
    obtain rfl := Option.some.inj hf
    exact r_zreturn X hQ rfl rfl (Nat.le_of_ble_eq_true rfl) (Nat.le_of_ble_eq_true rfl) rfl dL_holds_172
  · replace hf := ifF hf c140
    refine r_iload X (x := u113.1) dL_holds_143 rfl ?_
    refine r_iload X (x := u122.1) dL_holds_145 rfl ?_
    refine r_icmp_gt X 171 dL_holds_147 rfl (fun c147 => ?_) (fun c147 => ?_)
    · replace hf := ifT hf c147
      refine r_iconst X (v := 0) dL_holds_171 rfl ?_
      obtain rfl := Option.some.inj hf
      exact r_zreturn X hQ rfl rfl (Nat.le_of_ble_eq_true rfl) (Nat.le_of_ble_eq_true rfl) rfl dL_holds_172
    · replace hf := ifF hf c147
      refine r_dload X (x := u131.1) dL_holds_150 rfl ?_
      refine r_iload X (x := u113.1) dL_holds_152 rfl ?_
      refine r_i2d X dL_holds_154 ?_
      refine r_dcmp X dL_holds_155 ?_
      refine r_if_lt X 171 dL_holds_156 rfl (fun c156 => ?_) (fun c156 => ?_)
      · replace hf := ifT hf c156
        refine r_iconst X (v := 0) dL_holds_171 rfl ?_
        obtain rfl := Option.some.inj hf
        exact r_zreturn X hQ rfl rfl (Nat.le_of_ble_eq_true rfl) (Nat.le_of_ble_eq_true rfl) rfl dL_holds_172
      · replace hf := ifF hf c156
        refine r_aload_n X (x := k.b + (0)) dL_holds_159 rfl ?_
        refine r_iload X (x := x4) dL_holds_160 rfl ?_
        refine r_iconst X (v := 1) dL_holds_162 rfl ?_
        obtain ⟨u163, h163, hf⟩ := bdS hf
        refine r_callV0 X [.int x4, .int 1] [] (K9_pressureAfter h163) lkL_45 clsX9 rfl _ o_main (by decide) (Nat.le_of_ble_eq_true rfl) rfl rfl (Nat.le_of_ble_eq_true rfl) rfl rfl (Nat.zero_le _) (Nat.zero_le _) dL_holds_163 ?_
        refine r_iload X (x := u113.1) dL_holds_166 rfl ?_
        refine r_icmp_ge X 173 dL_holds_168 rfl (fun c168 => ?_) (fun c168 => ?_)
        · replace hf := ifT hf c168
          refine r_aload_n X (x := k.b + (0)) dL_holds_173 rfl ?_
          refine r_iload X (x := x4) dL_holds_174 rfl ?_
          obtain ⟨u176, h176, hf⟩ := bdS hf
          refine r_callV0 X [.int x4] [] (K9_spread h176) lkL_52 clsX9 rfl _ o_main (by decide) (Nat.le_of_ble_eq_true rfl) rfl rfl (Nat.le_of_ble_eq_true rfl) rfl rfl (Nat.zero_le _) (Nat.zero_le _) dL_holds_176 ?_
          refine r_if_lt X 220 dL_holds_179 rfl (fun c179 => ?_) (fun c179 => ?_)
          · replace hf := ifT hf c179
            refine r_iconst X (v := 0) dL_holds_220 rfl ?_
            obtain rfl := Option.some.inj hf
            exact r_zreturn X hQ rfl rfl (Nat.le_of_ble_eq_true rfl) (Nat.le_of_ble_eq_true rfl) rfl dL_holds_221
          · replace hf := ifF hf c179
            refine r_aload_n X (x := k.b + (0)) dL_holds_182 rfl ?_
            refine r_iload X (x := x4) dL_holds_183 rfl ?_
            obtain ⟨u185, h185, hf⟩ := bdS hf
            refine r_callV0 X [.int x4] [] (K9_settled h185) lkL_55 clsX9 rfl _ o_main (by decide) (Nat.le_of_ble_eq_true rfl) rfl rfl (Nat.le_of_ble_eq_true rfl) rfl rfl (Nat.zero_le _) (Nat.zero_le _) dL_holds_185 ?_
            refine r_if_lt X 220 dL_holds_188 rfl (fun c188 => ?_) (fun c188 => ?_)
            · replace hf := ifT hf c188
              refine r_iconst X (v := 0) dL_holds_220 rfl ?_
              obtain rfl := Option.some.inj hf
              exact r_zreturn X hQ rfl rfl (Nat.le_of_ble_eq_true rfl) (Nat.le_of_ble_eq_true rfl) rfl dL_holds_221
            · replace hf := ifF hf c188
              refine r_iload X (x := x6) dL_holds_191 rfl ?_
              refine r_iconst X (v := 1) dL_holds_193 rfl ?_
              refine r_iload X (x := x4) dL_holds_194 rfl ?_
              refine r_ishl X dL_holds_196 ?_
              refine r_icmp_ne X 222 dL_holds_197 rfl (fun c197 => ?_) (fun c197 => ?_)
              · replace hf := ifF hf c197
                refine r_iconst X (v := 0) dL_holds_222 rfl ?_
                refine r_istore X [some (.ref (k.b + (0))), none, some (.int x2), some (.int x3), some (.int x4), some (.int x5), some (.int x6), some (.int u113.1), some (.int u122.1), some (.double u131.1), none, some (.int 0), none, none] dL_holds_223 (Nat.le_of_ble_eq_true rfl) rfl ?_
                refine VW.msk [true, false, true, true, true, false, true, false, false, false, false, true, false, false] rfl (lo' := [some (.ref (k.b + (0))), none, some (.int x2), some (.int x3), some (.int x4), none, some (.int x6), none, none, none, none, some (.int 0), none, none]) rfl ?_
                exact B_holds_B225 X hQ rec hrec FU hn u163.2 x2 x3 x4 x6 0 hf
              · replace hf := ifT hf c197
                refine r_aload_n X (x := k.b + (0)) dL_holds_200 rfl ?_
                refine r_iload X (x := x4) dL_holds_201 rfl ?_
                obtain ⟨u203, h203, hf⟩ := bdS hf
                refine r_callV0 X [.int x4] [] (K9_spread h203) lkL_52 clsX9 rfl _ o_main (by decide) (Nat.le_of_ble_eq_true rfl) rfl rfl (Nat.le_of_ble_eq_true rfl) rfl rfl (Nat.zero_le _) (Nat.zero_le _) dL_holds_203 ?_
                refine r_if_ne X 220 dL_holds_206 rfl (fun c206 => ?_) (fun c206 => ?_)
                · replace hf := ifF hf c206
                  refine r_iconst X (v := 0) dL_holds_220 rfl ?_
                  obtain rfl := Option.some.inj hf
                  exact r_zreturn X hQ rfl rfl (Nat.le_of_ble_eq_true rfl) (Nat.le_of_ble_eq_true rfl) rfl dL_holds_221
                · replace hf := ifT hf c206
                  refine r_aload_n X (x := k.b + (0)) dL_holds_209 rfl ?_
                  refine r_iload X (x := x4) dL_holds_210 rfl ?_
                  obtain ⟨u212, h212, hf⟩ := bdS hf
                  refine r_callV0 X [.int x4] [] (K9_settled h212) lkL_55 clsX9 rfl _ o_main (by decide) (Nat.le_of_ble_eq_true rfl) rfl rfl (Nat.le_of_ble_eq_true rfl) rfl rfl (Nat.zero_le _) (Nat.zero_le _) dL_holds_212 ?_
                  refine r_iload X (x := x5) dL_holds_215 rfl ?_
                  refine r_icmp_eq X 222 dL_holds_217 rfl (fun c217 => ?_) (fun c217 => ?_)
                  · replace hf := ifT hf c217
                    refine r_iconst X (v := 0) dL_holds_222 rfl ?_
                    refine r_istore X [some (.ref (k.b + (0))), none, some (.int x2), some (.int x3), some (.int x4), some (.int x5), some (.int x6), some (.int u113.1), some (.int u122.1), some (.double u131.1), none, some (.int 0), none, none] dL_holds_223 (Nat.le_of_ble_eq_true rfl) rfl ?_
                    refine VW.msk [true, false, true, true, true, false, true, false, false, false, false, true, false, false] rfl (lo' := [some (.ref (k.b + (0))), none, some (.int x2), some (.int x3), some (.int x4), none, some (.int x6), none, none, none, none, some (.int 0), none, none]) rfl ?_
                    exact B_holds_B225 X hQ rec hrec FU hn u163.2 x2 x3 x4 x6 0 hf
                  · replace hf := ifF hf c217
                    refine r_iconst X (v := 0) dL_holds_220 rfl ?_
                    obtain rfl := Option.some.inj hf
                    exact r_zreturn X hQ rfl rfl (Nat.le_of_ble_eq_true rfl) (Nat.le_of_ble_eq_true rfl) rfl dL_holds_221
        · replace hf := ifF hf c168
          refine r_iconst X (v := 0) dL_holds_171 rfl ?_
          obtain rfl := Option.some.inj hf
          exact r_zreturn X hQ rfl rfl (Nat.le_of_ble_eq_true rfl) (Nat.le_of_ble_eq_true rfl) rfl dL_holds_172
set_option maxRecDepth 100000 in
set_option maxHeartbeats 4000000 in
theorem B_holds_B23 {k : KT} {z : ZT} {T : TT} {R : RR} {ly : Fin 2 → LL} {rc : RC} {rp : RP} {tp : TP} {ee : EE} {r : Int32 × (HN) × (Fin 12 → SS)} (X : XX k strs z RL cL_holds 14 (some .boolean) (rmD 6 0 0)) (hQ : zQ z = MQ (zB z) (Qof k (some (.int r.1)) (wAll k T R ly rc r.2.1 rp tp ee r.2.2)) (zA z) (zS z) 0 0 (kA k)) : ∀ (fu : Nat) (hn : HN) (st : Fin 12 → SS) (x2 : Int32) (x3 : Int32) (x4 : Int32), f_holds_B23 (ly (0 : Fin 2)) tp fu hn st x2 x3 x4 = some r → VW k z 0 0 (wAll k T R ly rc hn rp tp ee st) 23 [some (.ref (k.b + (0))), none, some (.int x2), some (.int x3), some (.int x4), none, none, none, none, none, none, none, none, none] [] := by
  intro fu
  induction fu with
  | zero =>
    intro hn st x2 x3 x4 hf
    rw [f_holds_B23] at hf
    cases hf
  | succ fu ih =>
    intro hn st x2 x3 x4 hf
    rw [f_holds_B23] at hf
    refine r_iload X (x := x4) dL_holds_23 rfl ?_
    refine r_iconst X (v := 3) dL_holds_25 rfl ?_
    refine r_icmp_ge X 463 dL_holds_26 rfl (fun c26 => ?_) (fun c26 => ?_)
    · replace hf := ifT hf c26
      refine r_iconst X (v := 0) dL_holds_463 rfl ?_
      refine r_istore X [some (.ref (k.b + (0))), none, some (.int x2), some (.int x3), some (.int 0), none, none, none, none, none, none, none, none, none] dL_holds_464 (Nat.le_of_ble_eq_true rfl) rfl ?_
      refine VW.msk [true, false, true, false, true, false, false, false, false, false, false, false, false, false] rfl (lo' := [some (.ref (k.b + (0))), none, some (.int x2), none, some (.int 0), none, none, none, none, none, none, none, none, none]) rfl ?_
      exact B_holds_B466 X hQ FU hn st x2 0 hf
    · replace hf := ifF hf c26
      refine r_aload_n X (x := k.b + (0)) dL_holds_29 rfl ?_
      refine r_iload X (x := x4) dL_holds_30 rfl ?_
      refine r_iconst X (v := 3) dL_holds_32 rfl ?_
      obtain ⟨u33, h33, hf⟩ := bdS hf
      refine r_callV0 X [.int x4, .int 3] [] (K9_chamber h33) lkL_27 clsX9 rfl _ o_main (by decide) (Nat.le_of_ble_eq_true rfl) rfl rfl (Nat.le_of_ble_eq_true rfl) rfl rfl (Nat.zero_le _) (Nat.zero_le _) dL_holds_33 ?_
      refine r_istore X [some (.ref (k.b + (0))), none, some (.int x2), some (.int x3), some (.int x4), some (.int u33), none, none, none, none, none, none, none, none] dL_holds_36 (Nat.le_of_ble_eq_true rfl) rfl ?_
      refine r_aload_n X (x := k.b + (0)) dL_holds_38 rfl ?_
      refine r_iload X (x := x4) dL_holds_39 rfl ?_
      obtain ⟨u41, h41, hf⟩ := bdS hf
      refine r_callV0 X [.int x4] [] (K9_joined h41) lkL_31 clsX9 rfl _ o_main (by decide) (Nat.le_of_ble_eq_true rfl) rfl rfl (Nat.le_of_ble_eq_true rfl) rfl rfl (Nat.zero_le _) (Nat.zero_le _) dL_holds_41 ?_
      refine r_istore X [some (.ref (k.b + (0))), none, some (.int x2), some (.int x3), some (.int x4), some (.int u33), some (.int u41), none, none, none, none, none, none, none] dL_holds_44 (Nat.le_of_ble_eq_true rfl) rfl ?_
      refine r_aload_n X (x := k.b + (0)) dL_holds_46 rfl ?_
      refine r_iload X (x := x4) dL_holds_47 rfl ?_
      obtain ⟨u49, h49, hf⟩ := bdS hf
      refine r_callV0 X [.int x4] [] (K9_gas h49) lkL_34 clsX9 rfl _ o_main (by decide) (Nat.le_of_ble_eq_true rfl) rfl rfl (Nat.le_of_ble_eq_true rfl) rfl rfl (Nat.zero_le _) (Nat.zero_le _) dL_holds_49 ?_
      refine r_lconst X (v := 0) dL_holds_52 rfl ?_
      refine r_lcmp_lt X 107 dL_holds_53 dL_holds_54 rfl (fun c53 => ?_) (fun c53 => ?_)
      · replace hf := ifT hf c53
        refine r_iconst X (v := 0) dL_holds_107 rfl ?_
        obtain rfl := Option.some.inj hf
        exact r_zreturn X hQ rfl rfl (Nat.le_of_ble_eq_true rfl) (Nat.le_of_ble_eq_true rfl) rfl dL_holds_108
      · replace hf := ifF hf c53
        refine r_iload X (x := u33) dL_holds_57 rfl ?_
        refine r_i2l X dL_holds_59 ?_
        refine r_aload_n X (x := k.b + (0)) dL_holds_60 rfl ?_
        refine r_iload X (x := x4) dL_holds_61 rfl ?_
        obtain ⟨u63, h63, hf⟩ := bdS hf
        refine r_callV0 X [.int x4] [.long u33.toInt64] (K9_gas h63) lkL_34 clsX9 rfl _ o_main (by decide) (Nat.le_of_ble_eq_true rfl) rfl rfl (Nat.le_of_ble_eq_true rfl) rfl rfl (Nat.zero_le _) (Nat.zero_le _) dL_holds_63 ?_
        refine r_aload_n X (x := k.b + (0)) dL_holds_66 rfl ?_
        refine r_iload X (x := x4) dL_holds_67 rfl ?_
        refine r_iconst X (v := 0) dL_holds_69 rfl ?_
        obtain ⟨u70, h70, hf⟩ := bdS hf
        refine r_callV0 X [.int x4, .int 0] [.long u63, .long u33.toInt64] (K9_chamber h70) lkL_27 clsX9 rfl _ o_main (by decide) (Nat.le_of_ble_eq_true rfl) rfl rfl (Nat.le_of_ble_eq_true rfl) rfl rfl (Nat.zero_le _) (Nat.zero_le _) dL_holds_70 ?_
        refine r_i2l X dL_holds_73 ?_
        obtain ⟨g74z, hf⟩ := gdS hf
        refine r_ldiv X dL_holds_74 g74z ?_
        refine r_lcmp_ne X 107 dL_holds_75 dL_holds_76 rfl (fun c75 => ?_) (fun c75 => ?_)
        · replace hf := ifF hf c75
          refine r_iconst X (v := 0) dL_holds_107 rfl ?_
          obtain rfl := Option.some.inj hf
          exact r_zreturn X hQ rfl rfl (Nat.le_of_ble_eq_true rfl) (Nat.le_of_ble_eq_true rfl) rfl dL_holds_108
        · replace hf := ifT hf c75
          refine r_iload X (x := u41) dL_holds_79 rfl ?_
          refine r_iload X (x := x4) dL_holds_81 rfl ?_
          refine r_ishr X dL_holds_83 ?_
          refine r_iconst X (v := 1) dL_holds_84 rfl ?_
          refine r_iand X dL_holds_85 ?_
          refine r_if_eq X 107 dL_holds_86 rfl (fun c86 => ?_) (fun c86 => ?_)
          · replace hf := ifT hf c86
            refine r_iconst X (v := 0) dL_holds_107 rfl ?_
            obtain rfl := Option.some.inj hf
            exact r_zreturn X hQ rfl rfl (Nat.le_of_ble_eq_true rfl) (Nat.le_of_ble_eq_true rfl) rfl dL_holds_108
          · replace hf := ifF hf c86
            refine r_aload_n X (x := k.b + (0)) dL_holds_89 rfl ?_
            refine r_iload X (x := x4) dL_holds_90 rfl ?_
            obtain ⟨u92, h92, hf⟩ := bdS hf
            refine r_callV0 X [.int x4] [] (K9_isIsolated h92) lkL_38 clsX9 rfl _ o_main (by decide) (Nat.le_of_ble_eq_true rfl) rfl rfl (Nat.le_of_ble_eq_true rfl) rfl rfl (Nat.zero_le _) (Nat.zero_le _) dL_holds_92 ?_
            refine r_if_eq X 109 dL_holds_95 rfl (fun c95 => ?_) (fun c95 => ?_)
            · replace hf := ifT hf c95
              exact B_holds_B109 X hQ (f_holds_B23 (ly (0 : Fin 2)) tp fu) ih hn st x2 x3 x4 u33 u41 hf
            · replace hf := ifF hf c95
              refine r_iload X (x := u41) dL_holds_98 rfl ?_
              refine r_iconst X (v := 1) dL_holds_100 rfl ?_
              refine r_iload X (x := x4) dL_holds_101 rfl ?_
              refine r_ishl X dL_holds_103 ?_
              refine r_icmp_eq X 109 dL_holds_104 rfl (fun c104 => ?_) (fun c104 => ?_)
              · replace hf := ifT hf c104
                exact B_holds_B109 X hQ (f_holds_B23 (ly (0 : Fin 2)) tp fu) ih hn st x2 x3 x4 u33 u41 hf
              · replace hf := ifF hf c104
                refine r_iconst X (v := 0) dL_holds_107 rfl ?_
                obtain rfl := Option.some.inj hf
                exact r_zreturn X hQ rfl rfl (Nat.le_of_ble_eq_true rfl) (Nat.le_of_ble_eq_true rfl) rfl dL_holds_108
set_option maxRecDepth 100000 in
set_option maxHeartbeats 4000000 in
theorem K_holds {k : KT} {T : TT} {R : RR} {ly : Fin 2 → LL} {rc : RC} {hn : HN} {rp : RP} {tp : TP} {ee : EE} {st : Fin 12 → SS}  {x1 : Int32} {r : Int32 × (HN) × (Fin 12 → SS)} (hf : f_holds (ly (0 : Fin 2)) tp hn st x1 = some r) : CT k strs yL_holds cL_holds 14 (some .boolean) (rmD 6 0 0) 0 0 [.ref (k.b + (0)), .int x1] (wAll k T R ly rc hn rp tp ee st) (some (.int r.1)) (wAll k T R ly rc r.2.1 rp tp ee r.2.2) := by
  refine CT.of (by decide) (Nat.le_of_ble_eq_true rfl) ?_
  intro z X hQ
  show VW k z 0 0 (wAll k T R ly rc hn rp tp ee st) 0 [some (.ref (k.b + (0))), some (.int x1), none, none, none, none, none, none, none, none, none, none, none, none] []
  unfold f_holds at hf
  refine r_iconst X (v := 1) dL_holds_0 rfl ?_
  refine r_iload_n X (x := x1) dL_holds_1 rfl ?_
  refine r_iconst X (v := 4) dL_holds_2 rfl ?_
  refine r_iushr X dL_holds_3 ?_
  refine r_bipush X (v := 31) dL_holds_4 rfl ?_
  refine r_iand X dL_holds_6 ?_
  refine r_iadd X dL_holds_7 ?_
  refine r_istore_n X [some (.ref (k.b + (0))), some (.int x1), some (.int (1 + ((iushrF x1 4) &&& 31))), none, none, none, none, none, none, none, none, none, none, none] dL_holds_8 (Nat.le_of_ble_eq_true rfl) rfl ?_
  refine r_iconst X (v := 1) dL_holds_9 rfl ?_
  refine r_iload_n X (x := x1) dL_holds_10 rfl ?_
  refine r_bipush X (v := 9) dL_holds_11 rfl ?_
  refine r_iushr X dL_holds_13 ?_
  refine r_sipush X (v := 255) dL_holds_14 rfl ?_
  refine r_iand X dL_holds_17 ?_
  refine r_iadd X dL_holds_18 ?_
  refine r_istore_n X [some (.ref (k.b + (0))), some (.int x1), some (.int (1 + ((iushrF x1 4) &&& 31))), some (.int (1 + ((iushrF x1 9) &&& 255))), none, none, none, none, none, none, none, none, none, none] dL_holds_19 (Nat.le_of_ble_eq_true rfl) rfl ?_
  refine r_iconst X (v := 0) dL_holds_20 rfl ?_
  refine r_istore X [some (.ref (k.b + (0))), some (.int x1), some (.int (1 + ((iushrF x1 4) &&& 31))), some (.int (1 + ((iushrF x1 9) &&& 255))), some (.int 0), none, none, none, none, none, none, none, none, none] dL_holds_21 (Nat.le_of_ble_eq_true rfl) rfl ?_
  refine VW.msk [true, false, true, true, true, false, false, false, false, false, false, false, false, false] rfl (lo' := [some (.ref (k.b + (0))), none, some (.int (1 + ((iushrF x1 4) &&& 31))), some (.int (1 + ((iushrF x1 9) &&& 255))), some (.int 0), none, none, none, none, none, none, none, none, none]) rfl ?_
  exact B_holds_B23 X hQ FU hn st (1 + ((iushrF x1 4) &&& 31)) (1 + ((iushrF x1 9) &&& 255)) 0 hf
