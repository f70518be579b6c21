/-! the law's turns -/
section LAWROWS2
variable {k : KT} {strs : List ST} {z : ZT} {own : String} {cc : ByteArray} {nL : Nat} {rt : Option FieldType} {R0 : Room} {n n' pc pc' : Nat} {ws : va_W} {lo : List (Option Value)} {st : List Value}
theorem r_sld (X : XX k strs z own cc nL rt R0) {b L : Nat} {xs : Nat → Int32} (hX : va_X b L xs (zS z) (zS z).heap) (hbl : b < (zS z).heap.size) (hbA : ¬ kA k b) {i : Int32} (hi : inb i L = true) (d : DEC cc pc 1 pc' .iaload) (kk : VW k z n n' ws pc' lo (.int (xs (ix i)) :: st)) : VW k z n n' ws pc lo (.int i :: .ref b :: st) := by
  obtain ⟨d, rfl⟩ := d
  exact fun H L1 la hP hD hS hl => va_sld X.1 X.2.1 hX hbl hbA hS (inb_vp hi) d (kk H L1 la hP hD hS hl)
theorem r_slen (X : XX k strs z own cc nL rt R0) {b L : Nat} {xs : Nat → Int32} (hX : va_X b L xs (zS z) (zS z).heap) (hbl : b < (zS z).heap.size) (hbA : ¬ kA k b) (d : DEC cc pc 1 pc' .arraylength) (kk : VW k z n n' ws pc' lo (.int (Int32.ofNat L) :: st)) : VW k z n n' ws pc lo (.ref b :: st) := by
  obtain ⟨d, rfl⟩ := d
  exact fun H L1 la hP hD hS hl => va_slen X.1 X.2.1 hX hbl hbA hS d (kk H L1 la hP hD hS hl)
end LAWROWS2
set_option maxRecDepth 100000 in
set_option maxHeartbeats 4000000 in
theorem LT_0 {k : KT} {z : ZT} (X : XX k strs z RL cL_law 9 ret room_1) {b0 len : Nat} {xs : Nat → Int32} (hX : va_X b0 len xs (zS z) (zS z).heap) (hbl : b0 < (zS z).heap.size) (hbA : ¬ kA k b0) {T : TT} {R : RR} {ly : Fin 2 → LL} {rc : RC} {hn : HN} {rp : RP} {tp : TP} {ee : EE} {st : Fin 12 → SS} {w : Nat → Int64} {aside : Nat → Int64} {thought : Nat → Int64} {fresh : Nat → Int64} {mu : MU} {th : Int32} {mp : MP} {mf : MF} {mh : MH} {mg : MG} {ou : Nat → Int64} {od : Nat → UInt64} {n n' : Nat} (hnc : n + 1 ≤ 601024) (hns : n' + 6 ≤ 7293034) {x5 : Int32} (hlt : ¬ (Int32.ofNat len - 6 < x5)) (g0 : inb (x5) len = true) (g1 : inb (x5 + 1) len = true) (g2 : inb (x5 + 2) len = true) (g3 : inb (x5 + 3) len = true) (g4 : inb (x5 + 4) len = true) (g5 : inb (x5 + 5) len = true) (hc : xs (ix x5) &&& 63 = 0) {r1 : Int32 × (TT) × (Nat → Int64)} {r2 : Int32 × (Int32) × (MP)} (h1 : fL_appendText T ou (xs (ix (x5 + 1))) (xs (ix (x5 + 2))) (xs (ix (x5 + 3))) (xs (ix (x5 + 4))) (xs (ix (x5 + 5))) = some r1) (h2 : f10_appendText th mp (xs (ix (x5 + 1))) (xs (ix (x5 + 2))) (xs (ix (x5 + 3))) (xs (ix (x5 + 4))) (xs (ix (x5 + 5))) = some r2) (h3 : r2.2.1 = r1.1) (h4 : r1.1 = 0 → r1.2.2 (ix 0) = r2.1.toInt64) (kk : VW k z (n + 1) (n' + 6) (wAll k r1.2.1 R ly rc hn rp tp ee st w aside thought fresh mu r2.2.1 r2.2.2 mf mh mg r1.2.2 od) 28 [some (.ref b0), some (.ref (k.b + (0))), some (.ref (k.b + (189))), some (.ref (k.b + (197))), some (.ref (k.b + (198))), some (.int (x5 + 6)), none, none, none] []) : VW k z n n' (wAll k T R ly rc hn rp tp ee st w aside thought fresh mu th mp mf mh mg ou od) 28 [some (.ref b0), some (.ref (k.b + (0))), some (.ref (k.b + (189))), some (.ref (k.b + (197))), some (.ref (k.b + (198))), some (.int x5), none, none, none] [] := by
  refine r_iload X (x := x5) dL_law_28 rfl ?_
  refine r_aload_n X (x := b0) dL_law_30 rfl ?_
  refine r_slen X hX hbl hbA dL_law_31 ?_
  refine r_bipush X (v := 6) dL_law_32 rfl ?_
  refine r_isub X dL_law_34 ?_
  refine r_icmp_gt X 3066 dL_law_35 rfl (fun c => absurd c hlt) (fun _ => ?_)
  refine r_aload_n X (x := b0) dL_law_38 rfl ?_
  refine r_iload X (x := x5) dL_law_39 rfl ?_
  refine r_sld X hX hbl hbA g0 dL_law_41 ?_
  refine r_bipush X (v := 63) dL_law_42 rfl ?_
  refine r_iand X dL_law_44 ?_
  refine r_tswIn X (off := 215) 260 dL_law_45 (by rw [hc]; decide) (by rw [hc]; decide) (by rw [hc]; rfl) rfl ?_
  refine r_aload_n X (x := k.b + (0)) dL_law_260 rfl ?_
  refine r_aload_n X (x := b0) dL_law_261 rfl ?_
  refine r_iload X (x := x5) dL_law_262 rfl ?_
  refine r_iconst X (v := 1) dL_law_264 rfl ?_
  refine r_iadd X dL_law_265 ?_
  refine r_sld X hX hbl hbA g1 dL_law_266 ?_
  refine r_aload_n X (x := b0) dL_law_267 rfl ?_
  refine r_iload X (x := x5) dL_law_268 rfl ?_
  refine r_iconst X (v := 2) dL_law_270 rfl ?_
  refine r_iadd X dL_law_271 ?_
  refine r_sld X hX hbl hbA g2 dL_law_272 ?_
  refine r_aload_n X (x := b0) dL_law_273 rfl ?_
  refine r_iload X (x := x5) dL_law_274 rfl ?_
  refine r_iconst X (v := 3) dL_law_276 rfl ?_
  refine r_iadd X dL_law_277 ?_
  refine r_sld X hX hbl hbA g3 dL_law_278 ?_
  refine r_aload_n X (x := b0) dL_law_279 rfl ?_
  refine r_iload X (x := x5) dL_law_280 rfl ?_
  refine r_iconst X (v := 4) dL_law_282 rfl ?_
  refine r_iadd X dL_law_283 ?_
  refine r_sld X hX hbl hbA g4 dL_law_284 ?_
  refine r_aload_n X (x := b0) dL_law_285 rfl ?_
  refine r_iload X (x := x5) dL_law_286 rfl ?_
  refine r_iconst X (v := 5) dL_law_288 rfl ?_
  refine r_iadd X dL_law_289 ?_
  refine r_sld X hX hbl hbA g5 dL_law_290 ?_
  refine r_aload_n X (x := k.b + (197)) dL_law_291 rfl ?_
  refine r_callSW X [.ref (k.b + (0)), .int (xs (ix (x5 + 1))), .int (xs (ix (x5 + 2))), .int (xs (ix (x5 + 3))), .int (xs (ix (x5 + 4))), .int (xs (ix (x5 + 5))), .ref (k.b + (197))] [] (KL_appendText h1) lkL_appendText ⟨(Nat.le_of_ble_eq_true rfl), (Nat.le_of_ble_eq_true rfl)⟩ rfl rfl (by show n + 1 ≤ 601024; omega) (by show n' + 6 ≤ 7293034; omega) rfl rfl (Nat.le_of_ble_eq_true rfl) rfl rfl dL_law_292 ?_
  refine r_istore X [some (.ref b0), some (.ref (k.b + (0))), some (.ref (k.b + (189))), some (.ref (k.b + (197))), some (.ref (k.b + (198))), some (.int x5), some (.int r1.1), none, none] dL_law_295 (Nat.le_of_ble_eq_true rfl) rfl ?_
  refine r_aload_n X (x := k.b + (189)) dL_law_297 rfl ?_
  refine r_aload_n X (x := b0) dL_law_298 rfl ?_
  refine r_iload X (x := x5) dL_law_299 rfl ?_
  refine r_iconst X (v := 1) dL_law_301 rfl ?_
  refine r_iadd X dL_law_302 ?_
  refine r_sld X hX hbl hbA g1 dL_law_303 ?_
  refine r_aload_n X (x := b0) dL_law_304 rfl ?_
  refine r_iload X (x := x5) dL_law_305 rfl ?_
  refine r_iconst X (v := 2) dL_law_307 rfl ?_
  refine r_iadd X dL_law_308 ?_
  refine r_sld X hX hbl hbA g2 dL_law_309 ?_
  refine r_aload_n X (x := b0) dL_law_310 rfl ?_
  refine r_iload X (x := x5) dL_law_311 rfl ?_
  refine r_iconst X (v := 3) dL_law_313 rfl ?_
  refine r_iadd X dL_law_314 ?_
  refine r_sld X hX hbl hbA g3 dL_law_315 ?_
  refine r_aload_n X (x := b0) dL_law_316 rfl ?_
  refine r_iload X (x := x5) dL_law_317 rfl ?_
  refine r_iconst X (v := 4) dL_law_319 rfl ?_
  refine r_iadd X dL_law_320 ?_
  refine r_sld X hX hbl hbA g4 dL_law_321 ?_
  refine r_aload_n X (x := b0) dL_law_322 rfl ?_
  refine r_iload X (x := x5) dL_law_323 rfl ?_
  refine r_iconst X (v := 5) dL_law_325 rfl ?_
  refine r_iadd X dL_law_326 ?_
  refine r_sld X hX hbl hbA g5 dL_law_327 ?_
  refine r_callV X [.int (xs (ix (x5 + 1))), .int (xs (ix (x5 + 2))), .int (xs (ix (x5 + 3))), .int (xs (ix (x5 + 4))), .int (xs (ix (x5 + 5)))] [] (K10_appendText h2) lkL_163 clsX10 rfl _ o_model ⟨(Nat.le_of_ble_eq_true rfl), (Nat.le_of_ble_eq_true rfl)⟩ rfl rfl (by show n + 1 + 0 ≤ 601024; omega) (by show n' + 6 + 0 ≤ 7293034; omega) rfl rfl (Nat.le_of_ble_eq_true rfl) rfl rfl dL_law_328 ?_
  refine r_istore X [some (.ref b0), some (.ref (k.b + (0))), some (.ref (k.b + (189))), some (.ref (k.b + (197))), some (.ref (k.b + (198))), some (.int x5), some (.int r1.1), some (.int r2.1), none] dL_law_331 (Nat.le_of_ble_eq_true rfl) rfl ?_
  refine r_aload_n X (x := k.b + (189)) dL_law_333 rfl ?_
  refine r_callV X [] [] (K10_thrown (r := r2.2.1) rfl) lkL_164 clsX10 rfl _ o_model ⟨(Nat.le_of_ble_eq_true rfl), (Nat.le_of_ble_eq_true rfl)⟩ rfl rfl (by show n + 1 + 0 ≤ 601024; omega) (by show n' + 6 + 0 ≤ 7293034; omega) rfl rfl (Nat.le_of_ble_eq_true rfl) rfl rfl dL_law_334 ?_
  refine r_iload X (x := r1.1) dL_law_337 rfl ?_
  refine r_icmp_eq X 344 dL_law_339 rfl (fun c339 => ?_) (fun c339 => absurd h3 c339)
  refine r_iload X (x := r1.1) dL_law_344 rfl ?_
  refine r_if_ne X 361 dL_law_346 rfl (fun c6 => ?_) (fun c6 => ?_)
  · refine r_goto X 3060 dL_law_361 rfl ?_
    refine r_iinc X (x := x5) (v := x5 + 6) [some (.ref b0), some (.ref (k.b + (0))), some (.ref (k.b + (189))), some (.ref (k.b + (197))), some (.ref (k.b + (198))), some (.int (x5 + 6)), some (.int r1.1), some (.int r2.1), none] dL_law_3060 rfl rfl rfl ?_
    refine r_goto X 28 dL_law_3063 rfl ?_
    refine VW.msk [true, true, true, true, true, true, false, false, false] rfl (lo' := [some (.ref b0), some (.ref (k.b + (0))), some (.ref (k.b + (189))), some (.ref (k.b + (197))), some (.ref (k.b + (198))), some (.int (x5 + 6)), none, none, none]) rfl ?_
    exact VW.widen (c := n + 1) (s := n' + 6) (by omega) (by omega) kk
  · refine r_aload_n X (x := k.b + (197)) dL_law_349 rfl ?_
    refine r_iconst X (v := 0) dL_law_350 rfl ?_
    refine r_laload X (f := r1.2.2) _ a_m_ou (by decide) dL_law_351 ?_
    refine r_iload X (x := r2.1) dL_law_352 rfl ?_
    refine r_i2l X dL_law_354 ?_
    refine r_lcmp_eq X 361 dL_law_355 dL_law_356 rfl (fun c355 => ?_) (fun c355 => absurd (h4 c6) c355)
    refine r_goto X 3060 dL_law_361 rfl ?_
    refine r_iinc X (x := x5) (v := x5 + 6) [some (.ref b0), some (.ref (k.b + (0))), some (.ref (k.b + (189))), some (.ref (k.b + (197))), some (.ref (k.b + (198))), some (.int (x5 + 6)), some (.int r1.1), some (.int r2.1), none] dL_law_3060 rfl rfl rfl ?_
    refine r_goto X 28 dL_law_3063 rfl ?_
    refine VW.msk [true, true, true, true, true, true, false, false, false] rfl (lo' := [some (.ref b0), some (.ref (k.b + (0))), some (.ref (k.b + (189))), some (.ref (k.b + (197))), some (.ref (k.b + (198))), some (.int (x5 + 6)), none, none, none]) rfl ?_
    exact VW.widen (c := n + 1) (s := n' + 6) (by omega) (by omega) kk
set_option maxRecDepth 100000 in
set_option maxHeartbeats 4000000 in
theorem LT_1 {k : KT} {z : ZT} (X : XX k strs z RL cL_law 9 ret room_1) {b0 len : Nat} {xs : Nat → Int32} (hX : va_X b0 len xs (zS z) (zS z).heap) (hbl : b0 < (zS z).heap.size) (hbA : ¬ kA k b0) {T : TT} {R : RR} {ly : Fin 2 → LL} {rc : RC} {hn : HN} {rp : RP} {tp : TP} {ee : EE} {st : Fin 12 → SS} {w : Nat → Int64} {aside : Nat → Int64} {thought : Nat → Int64} {fresh : Nat → Int64} {mu : MU} {th : Int32} {mp : MP} {mf : MF} {mh : MH} {mg : MG} {ou : Nat → Int64} {od : Nat → UInt64} {n n' : Nat} (hnc : n + 1 ≤ 601024) (hns : n' + 6 ≤ 7293034) {x5 : Int32} (hlt : ¬ (Int32.ofNat len - 6 < x5)) (g0 : inb (x5) len = true) (g1 : inb (x5 + 1) len = true) (g2 : inb (x5 + 2) len = true) (g3 : inb (x5 + 3) len = true) (g4 : inb (x5 + 4) len = true) (g5 : inb (x5 + 5) len = true) (hc : xs (ix x5) &&& 63 = 1) {r1 : Int32 × (TT) × (Nat → Int64)} {r2 : Int32 × (Int32) × (MP)} (h1 : fL_truncateText T ou (xs (ix (x5 + 1))) = some r1) (h2 : f10_truncateText th mp (xs (ix (x5 + 1))) = some r2) (h3 : r2.2.1 = r1.1) (h4 : r1.1 = 0 → r1.2.2 (ix 0) = r2.1.toInt64) (kk : VW k z (n + 1) (n' + 6) (wAll k r1.2.1 R ly rc hn rp tp ee st w aside thought fresh mu r2.2.1 r2.2.2 mf mh mg r1.2.2 od) 28 [some (.ref b0), some (.ref (k.b + (0))), some (.ref (k.b + (189))), some (.ref (k.b + (197))), some (.ref (k.b + (198))), some (.int (x5 + 6)), none, none, none] []) : VW k z n n' (wAll k T R ly rc hn rp tp ee st w aside thought fresh mu th mp mf mh mg ou od) 28 [some (.ref b0), some (.ref (k.b + (0))), some (.ref (k.b + (189))), some (.ref (k.b + (197))), some (.ref (k.b + (198))), some (.int x5), none, none, none] [] := by
  refine r_iload X (x := x5) dL_law_28 rfl ?_
  refine r_aload_n X (x := b0) dL_law_30 rfl ?_
  refine r_slen X hX hbl hbA dL_law_31 ?_
  refine r_bipush X (v := 6) dL_law_32 rfl ?_
  refine r_isub X dL_law_34 ?_
  refine r_icmp_gt X 3066 dL_law_35 rfl (fun c => absurd c hlt) (fun _ => ?_)
  refine r_aload_n X (x := b0) dL_law_38 rfl ?_
  refine r_iload X (x := x5) dL_law_39 rfl ?_
  refine r_sld X hX hbl hbA g0 dL_law_41 ?_
  refine r_bipush X (v := 63) dL_law_42 rfl ?_
  refine r_iand X dL_law_44 ?_
  refine r_tswIn X (off := 319) 364 dL_law_45 (by rw [hc]; decide) (by rw [hc]; decide) (by rw [hc]; rfl) rfl ?_
  refine r_aload_n X (x := k.b + (0)) dL_law_364 rfl ?_
  refine r_aload_n X (x := b0) dL_law_365 rfl ?_
  refine r_iload X (x := x5) dL_law_366 rfl ?_
  refine r_iconst X (v := 1) dL_law_368 rfl ?_
  refine r_iadd X dL_law_369 ?_
  refine r_sld X hX hbl hbA g1 dL_law_370 ?_
  refine r_aload_n X (x := k.b + (197)) dL_law_371 rfl ?_
  refine r_callSW X [.ref (k.b + (0)), .int (xs (ix (x5 + 1))), .ref (k.b + (197))] [] (KL_truncateText h1) lkL_truncateText ⟨(Nat.le_of_ble_eq_true rfl), (Nat.le_of_ble_eq_true rfl)⟩ rfl rfl (by show n + 1 ≤ 601024; omega) (by show n' + 6 ≤ 7293034; omega) rfl rfl (Nat.le_of_ble_eq_true rfl) rfl rfl dL_law_372 ?_
  refine r_istore X [some (.ref b0), some (.ref (k.b + (0))), some (.ref (k.b + (189))), some (.ref (k.b + (197))), some (.ref (k.b + (198))), some (.int x5), some (.int r1.1), none, none] dL_law_375 (Nat.le_of_ble_eq_true rfl) rfl ?_
  refine r_aload_n X (x := k.b + (189)) dL_law_377 rfl ?_
  refine r_aload_n X (x := b0) dL_law_378 rfl ?_
  refine r_iload X (x := x5) dL_law_379 rfl ?_
  refine r_iconst X (v := 1) dL_law_381 rfl ?_
  refine r_iadd X dL_law_382 ?_
  refine r_sld X hX hbl hbA g1 dL_law_383 ?_
  refine r_callV X [.int (xs (ix (x5 + 1)))] [] (K10_truncateText h2) lkL_170 clsX10 rfl _ o_model ⟨(Nat.le_of_ble_eq_true rfl), (Nat.le_of_ble_eq_true rfl)⟩ rfl rfl (by show n + 1 + 0 ≤ 601024; omega) (by show n' + 6 + 0 ≤ 7293034; omega) rfl rfl (Nat.le_of_ble_eq_true rfl) rfl rfl dL_law_384 ?_
  refine r_istore X [some (.ref b0), some (.ref (k.b + (0))), some (.ref (k.b + (189))), some (.ref (k.b + (197))), some (.ref (k.b + (198))), some (.int x5), some (.int r1.1), some (.int r2.1), none] dL_law_387 (Nat.le_of_ble_eq_true rfl) rfl ?_
  refine r_aload_n X (x := k.b + (189)) dL_law_389 rfl ?_
  refine r_callV X [] [] (K10_thrown (r := r2.2.1) rfl) lkL_164 clsX10 rfl _ o_model ⟨(Nat.le_of_ble_eq_true rfl), (Nat.le_of_ble_eq_true rfl)⟩ rfl rfl (by show n + 1 + 0 ≤ 601024; omega) (by show n' + 6 + 0 ≤ 7293034; omega) rfl rfl (Nat.le_of_ble_eq_true rfl) rfl rfl dL_law_390 ?_
  refine r_iload X (x := r1.1) dL_law_393 rfl ?_
  refine r_icmp_eq X 400 dL_law_395 rfl (fun c395 => ?_) (fun c395 => absurd h3 c395)
  refine r_iload X (x := r1.1) dL_law_400 rfl ?_
  refine r_if_ne X 417 dL_law_402 rfl (fun c6 => ?_) (fun c6 => ?_)
  · refine r_goto X 3060 dL_law_417 rfl ?_
    refine r_iinc X (x := x5) (v := x5 + 6) [some (.ref b0), some (.ref (k.b + (0))), some (.ref (k.b + (189))), some (.ref (k.b + (197))), some (.ref (k.b + (198))), some (.int (x5 + 6)), some (.int r1.1), some (.int r2.1), none] dL_law_3060 rfl rfl rfl ?_
    refine r_goto X 28 dL_law_3063 rfl ?_
    refine VW.msk [true, true, true, true, true, true, false, false, false] rfl (lo' := [some (.ref b0), some (.ref (k.b + (0))), some (.ref (k.b + (189))), some (.ref (k.b + (197))), some (.ref (k.b + (198))), some (.int (x5 + 6)), none, none, none]) rfl ?_
    exact VW.widen (c := n + 1) (s := n' + 6) (by omega) (by omega) kk
  · refine r_aload_n X (x := k.b + (197)) dL_law_405 rfl ?_
    refine r_iconst X (v := 0) dL_law_406 rfl ?_
    refine r_laload X (f := r1.2.2) _ a_m_ou (by decide) dL_law_407 ?_
    refine r_iload X (x := r2.1) dL_law_408 rfl ?_
    refine r_i2l X dL_law_410 ?_
    refine r_lcmp_eq X 417 dL_law_411 dL_law_412 rfl (fun c411 => ?_) (fun c411 => absurd (h4 c6) c411)
    refine r_goto X 3060 dL_law_417 rfl ?_
    refine r_iinc X (x := x5) (v := x5 + 6) [some (.ref b0), some (.ref (k.b + (0))), some (.ref (k.b + (189))), some (.ref (k.b + (197))), some (.ref (k.b + (198))), some (.int (x5 + 6)), some (.int r1.1), some (.int r2.1), none] dL_law_3060 rfl rfl rfl ?_
    refine r_goto X 28 dL_law_3063 rfl ?_
    refine VW.msk [true, true, true, true, true, true, false, false, false] rfl (lo' := [some (.ref b0), some (.ref (k.b + (0))), some (.ref (k.b + (189))), some (.ref (k.b + (197))), some (.ref (k.b + (198))), some (.int (x5 + 6)), none, none, none]) rfl ?_
    exact VW.widen (c := n + 1) (s := n' + 6) (by omega) (by omega) kk
set_option maxRecDepth 100000 in
set_option maxHeartbeats 4000000 in
theorem LT_2 {k : KT} {z : ZT} (X : XX k strs z RL cL_law 9 ret room_1) {b0 len : Nat} {xs : Nat → Int32} (hX : va_X b0 len xs (zS z) (zS z).heap) (hbl : b0 < (zS z).heap.size) (hbA : ¬ kA k b0) {T : TT} {R : RR} {ly : Fin 2 → LL} {rc : RC} {hn : HN} {rp : RP} {tp : TP} {ee : EE} {st : Fin 12 → SS} {w : Nat → Int64} {aside : Nat → Int64} {thought : Nat → Int64} {fresh : Nat → Int64} {mu : MU} {th : Int32} {mp : MP} {mf : MF} {mh : MH} {mg : MG} {ou : Nat → Int64} {od : Nat → UInt64} {n n' : Nat} (hnc : n + 1 ≤ 601024) (hns : n' + 6 ≤ 7293034) {x5 : Int32} (hlt : ¬ (Int32.ofNat len - 6 < x5)) (g0 : inb (x5) len = true) (g1 : inb (x5 + 1) len = true) (g2 : inb (x5 + 2) len = true) (g3 : inb (x5 + 3) len = true) (g4 : inb (x5 + 4) len = true) (g5 : inb (x5 + 5) len = true) (hc : xs (ix x5) &&& 63 = 2) {r1 : Int32 × (TT) × (RR) × (Fin 2 → LL) × (TP) × (EE) × (Fin 12 → SS)} {r2 : Int32 × (Nat → Int64) × (Nat → Int64) × (MU) × (Int32) × (MP)} (h1 : f9_parseSystem T R ly tp ee st = some r1) (h2 : f10_parseSystem w fresh mu th mp = some r2) (h3 : r1.1 = r2.1) (kk : VW k z (n + 1) (n' + 6) (wAll k r1.2.1 r1.2.2.1 r1.2.2.2.1 rc hn rp r1.2.2.2.2.1 r1.2.2.2.2.2.1 r1.2.2.2.2.2.2 r2.2.1 aside thought r2.2.2.1 r2.2.2.2.1 r2.2.2.2.2.1 r2.2.2.2.2.2 mf mh mg ou od) 28 [some (.ref b0), some (.ref (k.b + (0))), some (.ref (k.b + (189))), some (.ref (k.b + (197))), some (.ref (k.b + (198))), some (.int (x5 + 6)), none, none, none] []) : VW k z n n' (wAll k T R ly rc hn rp tp ee st w aside thought fresh mu th mp mf mh mg ou od) 28 [some (.ref b0), some (.ref (k.b + (0))), some (.ref (k.b + (189))), some (.ref (k.b + (197))), some (.ref (k.b + (198))), some (.int x5), none, none, none] [] := by
  refine r_iload X (x := x5) dL_law_28 rfl ?_
  refine r_aload_n X (x := b0) dL_law_30 rfl ?_
  refine r_slen X hX hbl hbA dL_law_31 ?_
  refine r_bipush X (v := 6) dL_law_32 rfl ?_
  refine r_isub X dL_law_34 ?_
  refine r_icmp_gt X 3066 dL_law_35 rfl (fun c => absurd c hlt) (fun _ => ?_)
  refine r_aload_n X (x := b0) dL_law_38 rfl ?_
  refine r_iload X (x := x5) dL_law_39 rfl ?_
  refine r_sld X hX hbl hbA g0 dL_law_41 ?_
  refine r_bipush X (v := 63) dL_law_42 rfl ?_
  refine r_iand X dL_law_44 ?_
  refine r_tswIn X (off := 375) 420 dL_law_45 (by rw [hc]; decide) (by rw [hc]; decide) (by rw [hc]; rfl) rfl ?_
  refine r_aload_n X (x := k.b + (0)) dL_law_420 rfl ?_
  refine r_callV X [] [] (K9_parseSystem h1) lkL_171 clsX9 rfl _ o_main ⟨(Nat.le_of_ble_eq_true rfl), (Nat.le_of_ble_eq_true rfl)⟩ rfl rfl (by show n + 0 ≤ 601024; omega) (by show n' + 0 ≤ 7293034; omega) rfl rfl (Nat.le_of_ble_eq_true rfl) rfl rfl dL_law_421 ?_
  refine r_aload_n X (x := k.b + (189)) dL_law_424 rfl ?_
  refine r_callV X [] [.int r1.1] (K10_parseSystem h2) lkL_174 clsX10 rfl _ o_model ⟨(Nat.le_of_ble_eq_true rfl), (Nat.le_of_ble_eq_true rfl)⟩ rfl rfl (by show n + 0 ≤ 601024; omega) (by show n' + 0 ≤ 7293034; omega) rfl rfl (Nat.le_of_ble_eq_true rfl) rfl rfl dL_law_425 ?_
  refine r_icmp_eq X 3060 dL_law_428 rfl (fun c428 => ?_) (fun c428 => absurd h3 c428)
  refine r_iinc X (x := x5) (v := x5 + 6) [some (.ref b0), some (.ref (k.b + (0))), some (.ref (k.b + (189))), some (.ref (k.b + (197))), some (.ref (k.b + (198))), some (.int (x5 + 6)), none, none, none] dL_law_3060 rfl rfl rfl ?_
  refine r_goto X 28 dL_law_3063 rfl ?_
  exact VW.widen (c := n + 1) (s := n' + 6) (by omega) (by omega) kk
set_option maxRecDepth 100000 in
set_option maxHeartbeats 4000000 in
theorem LT_3 {k : KT} {z : ZT} (X : XX k strs z RL cL_law 9 ret room_1) {b0 len : Nat} {xs : Nat → Int32} (hX : va_X b0 len xs (zS z) (zS z).heap) (hbl : b0 < (zS z).heap.size) (hbA : ¬ kA k b0) {T : TT} {R : RR} {ly : Fin 2 → LL} {rc : RC} {hn : HN} {rp : RP} {tp : TP} {ee : EE} {st : Fin 12 → SS} {w : Nat → Int64} {aside : Nat → Int64} {thought : Nat → Int64} {fresh : Nat → Int64} {mu : MU} {th : Int32} {mp : MP} {mf : MF} {mh : MH} {mg : MG} {ou : Nat → Int64} {od : Nat → UInt64} {n n' : Nat} (hnc : n + 1 ≤ 601024) (hns : n' + 6 ≤ 7293034) {x5 : Int32} (hlt : ¬ (Int32.ofNat len - 6 < x5)) (g0 : inb (x5) len = true) (g1 : inb (x5 + 1) len = true) (g2 : inb (x5 + 2) len = true) (g3 : inb (x5 + 3) len = true) (g4 : inb (x5 + 4) len = true) (g5 : inb (x5 + 5) len = true) (hc : xs (ix x5) &&& 63 = 3) {r1 : Int32} {r2 : Int32 × (Int32)} (h1 : f9_errorCode ee = some r1) (h2 : f10_errorCode mp th = some r2) (h3 : r1 = r2.1) (kk : VW k z (n + 1) (n' + 6) (wAll k T R ly rc hn rp tp ee st w aside thought fresh mu r2.2 mp mf mh mg ou od) 28 [some (.ref b0), some (.ref (k.b + (0))), some (.ref (k.b + (189))), some (.ref (k.b + (197))), some (.ref (k.b + (198))), some (.int (x5 + 6)), none, none, none] []) : VW k z n n' (wAll k T R ly rc hn rp tp ee st w aside thought fresh mu th mp mf mh mg ou od) 28 [some (.ref b0), some (.ref (k.b + (0))), some (.ref (k.b + (189))), some (.ref (k.b + (197))), some (.ref (k.b + (198))), some (.int x5), none, none, none] [] := by
  refine r_iload X (x := x5) dL_law_28 rfl ?_
  refine r_aload_n X (x := b0) dL_law_30 rfl ?_
  refine r_slen X hX hbl hbA dL_law_31 ?_
  refine r_bipush X (v := 6) dL_law_32 rfl ?_
  refine r_isub X dL_law_34 ?_
  refine r_icmp_gt X 3066 dL_law_35 rfl (fun c => absurd c hlt) (fun _ => ?_)
  refine r_aload_n X (x := b0) dL_law_38 rfl ?_
  refine r_iload X (x := x5) dL_law_39 rfl ?_
  refine r_sld X hX hbl hbA g0 dL_law_41 ?_
  refine r_bipush X (v := 63) dL_law_42 rfl ?_
  refine r_iand X dL_law_44 ?_
  refine r_tswIn X (off := 388) 433 dL_law_45 (by rw [hc]; decide) (by rw [hc]; decide) (by rw [hc]; rfl) rfl ?_
  refine r_aload_n X (x := k.b + (0)) dL_law_433 rfl ?_
  refine r_callV X [] [] (K9_errorCode h1) lkL_175 clsX9 rfl _ o_main ⟨(Nat.le_of_ble_eq_true rfl), (Nat.le_of_ble_eq_true rfl)⟩ rfl rfl (by show n + 0 ≤ 601024; omega) (by show n' + 0 ≤ 7293034; omega) rfl rfl (Nat.le_of_ble_eq_true rfl) rfl rfl dL_law_434 ?_
  refine r_aload_n X (x := k.b + (189)) dL_law_437 rfl ?_
  refine r_callV X [] [.int r1] (K10_errorCode h2) lkL_178 clsX10 rfl _ o_model ⟨(Nat.le_of_ble_eq_true rfl), (Nat.le_of_ble_eq_true rfl)⟩ rfl rfl (by show n + 0 ≤ 601024; omega) (by show n' + 0 ≤ 7293034; omega) rfl rfl (Nat.le_of_ble_eq_true rfl) rfl rfl dL_law_438 ?_
  refine r_icmp_eq X 3060 dL_law_441 rfl (fun c441 => ?_) (fun c441 => absurd h3 c441)
  refine r_iinc X (x := x5) (v := x5 + 6) [some (.ref b0), some (.ref (k.b + (0))), some (.ref (k.b + (189))), some (.ref (k.b + (197))), some (.ref (k.b + (198))), some (.int (x5 + 6)), none, none, none] dL_law_3060 rfl rfl rfl ?_
  refine r_goto X 28 dL_law_3063 rfl ?_
  exact VW.widen (c := n + 1) (s := n' + 6) (by omega) (by omega) kk
set_option maxRecDepth 100000 in
set_option maxHeartbeats 4000000 in
theorem LT_4 {k : KT} {z : ZT} (X : XX k strs z RL cL_law 9 ret room_1) {b0 len : Nat} {xs : Nat → Int32} (hX : va_X b0 len xs (zS z) (zS z).heap) (hbl : b0 < (zS z).heap.size) (hbA : ¬ kA k b0) {T : TT} {R : RR} {ly : Fin 2 → LL} {rc : RC} {hn : HN} {rp : RP} {tp : TP} {ee : EE} {st : Fin 12 → SS} {w : Nat → Int64} {aside : Nat → Int64} {thought : Nat → Int64} {fresh : Nat → Int64} {mu : MU} {th : Int32} {mp : MP} {mf : MF} {mh : MH} {mg : MG} {ou : Nat → Int64} {od : Nat → UInt64} {n n' : Nat} (hnc : n + 1 ≤ 601024) (hns : n' + 6 ≤ 7293034) {x5 : Int32} (hlt : ¬ (Int32.ofNat len - 6 < x5)) (g0 : inb (x5) len = true) (g1 : inb (x5 + 1) len = true) (g2 : inb (x5 + 2) len = true) (g3 : inb (x5 + 3) len = true) (g4 : inb (x5 + 4) len = true) (g5 : inb (x5 + 5) len = true) (hc : xs (ix x5) &&& 63 = 4) {r1 : Int32} {r2 : Int32 × (Int32)} (h1 : f9_errorPosition ee = some r1) (h2 : f10_errorPosition mp th = some r2) (h3 : r1 = r2.1) (kk : VW k z (n + 1) (n' + 6) (wAll k T R ly rc hn rp tp ee st w aside thought fresh mu r2.2 mp mf mh mg ou od) 28 [some (.ref b0), some (.ref (k.b + (0))), some (.ref (k.b + (189))), some (.ref (k.b + (197))), some (.ref (k.b + (198))), some (.int (x5 + 6)), none, none, none] []) : VW k z n n' (wAll k T R ly rc hn rp tp ee st w aside thought fresh mu th mp mf mh mg ou od) 28 [some (.ref b0), some (.ref (k.b + (0))), some (.ref (k.b + (189))), some (.ref (k.b + (197))), some (.ref (k.b + (198))), some (.int x5), none, none, none] [] := by
  refine r_iload X (x := x5) dL_law_28 rfl ?_
  refine r_aload_n X (x := b0) dL_law_30 rfl ?_
  refine r_slen X hX hbl hbA dL_law_31 ?_
  refine r_bipush X (v := 6) dL_law_32 rfl ?_
  refine r_isub X dL_law_34 ?_
  refine r_icmp_gt X 3066 dL_law_35 rfl (fun c => absurd c hlt) (fun _ => ?_)
  refine r_aload_n X (x := b0) dL_law_38 rfl ?_
  refine r_iload X (x := x5) dL_law_39 rfl ?_
  refine r_sld X hX hbl hbA g0 dL_law_41 ?_
  refine r_bipush X (v := 63) dL_law_42 rfl ?_
  refine r_iand X dL_law_44 ?_
  refine r_tswIn X (off := 401) 446 dL_law_45 (by rw [hc]; decide) (by rw [hc]; decide) (by rw [hc]; rfl) rfl ?_
  refine r_aload_n X (x := k.b + (0)) dL_law_446 rfl ?_
  refine r_callV X [] [] (K9_errorPosition h1) lkL_179 clsX9 rfl _ o_main ⟨(Nat.le_of_ble_eq_true rfl), (Nat.le_of_ble_eq_true rfl)⟩ rfl rfl (by show n + 0 ≤ 601024; omega) (by show n' + 0 ≤ 7293034; omega) rfl rfl (Nat.le_of_ble_eq_true rfl) rfl rfl dL_law_447 ?_
  refine r_aload_n X (x := k.b + (189)) dL_law_450 rfl ?_
  refine r_callV X [] [.int r1] (K10_errorPosition h2) lkL_182 clsX10 rfl _ o_model ⟨(Nat.le_of_ble_eq_true rfl), (Nat.le_of_ble_eq_true rfl)⟩ rfl rfl (by show n + 0 ≤ 601024; omega) (by show n' + 0 ≤ 7293034; omega) rfl rfl (Nat.le_of_ble_eq_true rfl) rfl rfl dL_law_451 ?_
  refine r_icmp_eq X 3060 dL_law_454 rfl (fun c454 => ?_) (fun c454 => absurd h3 c454)
  refine r_iinc X (x := x5) (v := x5 + 6) [some (.ref b0), some (.ref (k.b + (0))), some (.ref (k.b + (189))), some (.ref (k.b + (197))), some (.ref (k.b + (198))), some (.int (x5 + 6)), none, none, none] dL_law_3060 rfl rfl rfl ?_
  refine r_goto X 28 dL_law_3063 rfl ?_
  exact VW.widen (c := n + 1) (s := n' + 6) (by omega) (by omega) kk
set_option maxRecDepth 100000 in
set_option maxHeartbeats 4000000 in
theorem LT_5 {k : KT} {z : ZT} (X : XX k strs z RL cL_law 9 ret room_1) {b0 len : Nat} {xs : Nat → Int32} (hX : va_X b0 len xs (zS z) (zS z).heap) (hbl : b0 < (zS z).heap.size) (hbA : ¬ kA k b0) {T : TT} {R : RR} {ly : Fin 2 → LL} {rc : RC} {hn : HN} {rp : RP} {tp : TP} {ee : EE} {st : Fin 12 → SS} {w : Nat → Int64} {aside : Nat → Int64} {thought : Nat → Int64} {fresh : Nat → Int64} {mu : MU} {th : Int32} {mp : MP} {mf : MF} {mh : MH} {mg : MG} {ou : Nat → Int64} {od : Nat → UInt64} {n n' : Nat} (hnc : n + 1 ≤ 601024) (hns : n' + 6 ≤ 7293034) {x5 : Int32} (hlt : ¬ (Int32.ofNat len - 6 < x5)) (g0 : inb (x5) len = true) (g1 : inb (x5 + 1) len = true) (g2 : inb (x5 + 2) len = true) (g3 : inb (x5 + 3) len = true) (g4 : inb (x5 + 4) len = true) (g5 : inb (x5 + 5) len = true) (hc : xs (ix x5) &&& 63 = 5) {r1 : Int32 × (TP) × (Fin 12 → SS) × (Nat → Int64)} {r2 : Int32 × (Nat → Int64) × (Nat → Int64) × (MU) × (Int32)} (h1 : fL_open (ly (0 : Fin 2)) tp st ou (xs (ix (x5 + 1))) = some r1) (h2 : f10_open w aside mu th (xs (ix (x5 + 1))) = some r2) (h3 : r2.2.2.2.2 = r1.1) (h4 : r1.1 = 0 → r1.2.2.2 (ix 0) = r2.1.toInt64) (kk : VW k z (n + 1) (n' + 6) (wAll k T R ly rc hn rp r1.2.1 ee r1.2.2.1 r2.2.1 r2.2.2.1 thought fresh r2.2.2.2.1 r2.2.2.2.2 mp mf mh mg r1.2.2.2 od) 28 [some (.ref b0), some (.ref (k.b + (0))), some (.ref (k.b + (189))), some (.ref (k.b + (197))), some (.ref (k.b + (198))), some (.int (x5 + 6)), none, none, none] []) : VW k z n n' (wAll k T R ly rc hn rp tp ee st w aside thought fresh mu th mp mf mh mg ou od) 28 [some (.ref b0), some (.ref (k.b + (0))), some (.ref (k.b + (189))), some (.ref (k.b + (197))), some (.ref (k.b + (198))), some (.int x5), none, none, none] [] := by
  refine r_iload X (x := x5) dL_law_28 rfl ?_
  refine r_aload_n X (x := b0) dL_law_30 rfl ?_
  refine r_slen X hX hbl hbA dL_law_31 ?_
  refine r_bipush X (v := 6) dL_law_32 rfl ?_
  refine r_isub X dL_law_34 ?_
  refine r_icmp_gt X 3066 dL_law_35 rfl (fun c => absurd c hlt) (fun _ => ?_)
  refine r_aload_n X (x := b0) dL_law_38 rfl ?_
  refine r_iload X (x := x5) dL_law_39 rfl ?_
  refine r_sld X hX hbl hbA g0 dL_law_41 ?_
  refine r_bipush X (v := 63) dL_law_42 rfl ?_
  refine r_iand X dL_law_44 ?_
  refine r_tswIn X (off := 414) 459 dL_law_45 (by rw [hc]; decide) (by rw [hc]; decide) (by rw [hc]; rfl) rfl ?_
  refine r_aload_n X (x := k.b + (0)) dL_law_459 rfl ?_
  refine r_aload_n X (x := b0) dL_law_460 rfl ?_
  refine r_iload X (x := x5) dL_law_461 rfl ?_
  refine r_iconst X (v := 1) dL_law_463 rfl ?_
  refine r_iadd X dL_law_464 ?_
  refine r_sld X hX hbl hbA g1 dL_law_465 ?_
  refine r_aload_n X (x := k.b + (197)) dL_law_466 rfl ?_
  refine r_callSW X [.ref (k.b + (0)), .int (xs (ix (x5 + 1))), .ref (k.b + (197))] [] (KL_open h1) lkL_open ⟨(Nat.le_of_ble_eq_true rfl), (Nat.le_of_ble_eq_true rfl)⟩ rfl rfl (by show n + 1 ≤ 601024; omega) (by show n' + 6 ≤ 7293034; omega) rfl rfl (Nat.le_of_ble_eq_true rfl) rfl rfl dL_law_467 ?_
  refine r_istore X [some (.ref b0), some (.ref (k.b + (0))), some (.ref (k.b + (189))), some (.ref (k.b + (197))), some (.ref (k.b + (198))), some (.int x5), some (.int r1.1), none, none] dL_law_470 (Nat.le_of_ble_eq_true rfl) rfl ?_
  refine r_aload_n X (x := k.b + (189)) dL_law_472 rfl ?_
  refine r_aload_n X (x := b0) dL_law_473 rfl ?_
  refine r_iload X (x := x5) dL_law_474 rfl ?_
  refine r_iconst X (v := 1) dL_law_476 rfl ?_
  refine r_iadd X dL_law_477 ?_
  refine r_sld X hX hbl hbA g1 dL_law_478 ?_
  refine r_callV X [.int (xs (ix (x5 + 1)))] [] (K10_open h2) lkL_185 clsX10 rfl _ o_model ⟨(Nat.le_of_ble_eq_true rfl), (Nat.le_of_ble_eq_true rfl)⟩ rfl rfl (by show n + 1 + 0 ≤ 601024; omega) (by show n' + 6 + 0 ≤ 7293034; omega) rfl rfl (Nat.le_of_ble_eq_true rfl) rfl rfl dL_law_479 ?_
  refine r_istore X [some (.ref b0), some (.ref (k.b + (0))), some (.ref (k.b + (189))), some (.ref (k.b + (197))), some (.ref (k.b + (198))), some (.int x5), some (.int r1.1), some (.int r2.1), none] dL_law_482 (Nat.le_of_ble_eq_true rfl) rfl ?_
  refine r_aload_n X (x := k.b + (189)) dL_law_484 rfl ?_
  refine r_callV X [] [] (K10_thrown (r := r2.2.2.2.2) rfl) lkL_164 clsX10 rfl _ o_model ⟨(Nat.le_of_ble_eq_true rfl), (Nat.le_of_ble_eq_true rfl)⟩ rfl rfl (by show n + 1 + 0 ≤ 601024; omega) (by show n' + 6 + 0 ≤ 7293034; omega) rfl rfl (Nat.le_of_ble_eq_true rfl) rfl rfl dL_law_485 ?_
  refine r_iload X (x := r1.1) dL_law_488 rfl ?_
  refine r_icmp_eq X 495 dL_law_490 rfl (fun c490 => ?_) (fun c490 => absurd h3 c490)
  refine r_iload X (x := r1.1) dL_law_495 rfl ?_
  refine r_if_ne X 512 dL_law_497 rfl (fun c6 => ?_) (fun c6 => ?_)
  · refine r_goto X 3060 dL_law_512 rfl ?_
    refine r_iinc X (x := x5) (v := x5 + 6) [some (.ref b0), some (.ref (k.b + (0))), some (.ref (k.b + (189))), some (.ref (k.b + (197))), some (.ref (k.b + (198))), some (.int (x5 + 6)), some (.int r1.1), some (.int r2.1), none] dL_law_3060 rfl rfl rfl ?_
    refine r_goto X 28 dL_law_3063 rfl ?_
    refine VW.msk [true, true, true, true, true, true, false, false, false] rfl (lo' := [some (.ref b0), some (.ref (k.b + (0))), some (.ref (k.b + (189))), some (.ref (k.b + (197))), some (.ref (k.b + (198))), some (.int (x5 + 6)), none, none, none]) rfl ?_
    exact VW.widen (c := n + 1) (s := n' + 6) (by omega) (by omega) kk
  · refine r_aload_n X (x := k.b + (197)) dL_law_500 rfl ?_
    refine r_iconst X (v := 0) dL_law_501 rfl ?_
    refine r_laload X (f := r1.2.2.2) _ a_m_ou (by decide) dL_law_502 ?_
    refine r_iload X (x := r2.1) dL_law_503 rfl ?_
    refine r_i2l X dL_law_505 ?_
    refine r_lcmp_eq X 512 dL_law_506 dL_law_507 rfl (fun c506 => ?_) (fun c506 => absurd (h4 c6) c506)
    refine r_goto X 3060 dL_law_512 rfl ?_
    refine r_iinc X (x := x5) (v := x5 + 6) [some (.ref b0), some (.ref (k.b + (0))), some (.ref (k.b + (189))), some (.ref (k.b + (197))), some (.ref (k.b + (198))), some (.int (x5 + 6)), some (.int r1.1), some (.int r2.1), none] dL_law_3060 rfl rfl rfl ?_
    refine r_goto X 28 dL_law_3063 rfl ?_
    refine VW.msk [true, true, true, true, true, true, false, false, false] rfl (lo' := [some (.ref b0), some (.ref (k.b + (0))), some (.ref (k.b + (189))), some (.ref (k.b + (197))), some (.ref (k.b + (198))), some (.int (x5 + 6)), none, none, none]) rfl ?_
    exact VW.widen (c := n + 1) (s := n' + 6) (by omega) (by omega) kk
set_option maxRecDepth 100000 in
set_option maxHeartbeats 4000000 in
theorem LT_6 {k : KT} {z : ZT} (X : XX k strs z RL cL_law 9 ret room_1) {b0 len : Nat} {xs : Nat → Int32} (hX : va_X b0 len xs (zS z) (zS z).heap) (hbl : b0 < (zS z).heap.size) (hbA : ¬ kA k b0) {T : TT} {R : RR} {ly : Fin 2 → LL} {rc : RC} {hn : HN} {rp : RP} {tp : TP} {ee : EE} {st : Fin 12 → SS} {w : Nat → Int64} {aside : Nat → Int64} {thought : Nat → Int64} {fresh : Nat → Int64} {mu : MU} {th : Int32} {mp : MP} {mf : MF} {mh : MH} {mg : MG} {ou : Nat → Int64} {od : Nat → UInt64} {n n' : Nat} (hnc : n + 1 ≤ 601024) (hns : n' + 6 ≤ 7293034) {x5 : Int32} (hlt : ¬ (Int32.ofNat len - 6 < x5)) (g0 : inb (x5) len = true) (g1 : inb (x5 + 1) len = true) (g2 : inb (x5 + 2) len = true) (g3 : inb (x5 + 3) len = true) (g4 : inb (x5 + 4) len = true) (g5 : inb (x5 + 5) len = true) (hc : xs (ix x5) &&& 63 = 6) {r1 : Int32 × (TP) × (Fin 12 → SS) × (Nat → Int64)} {r2 : Int32 × (Nat → Int64) × (Nat → Int64) × (MU) × (Int32)} (h1 : fL_close (ly (0 : Fin 2)) tp st ou (xs (ix (x5 + 1))) = some r1) (h2 : f10_close w aside mu th (xs (ix (x5 + 1))) = some r2) (h3 : r2.2.2.2.2 = r1.1) (h4 : r1.1 = 0 → r1.2.2.2 (ix 0) = r2.1.toInt64) (kk : VW k z (n + 1) (n' + 6) (wAll k T R ly rc hn rp r1.2.1 ee r1.2.2.1 r2.2.1 r2.2.2.1 thought fresh r2.2.2.2.1 r2.2.2.2.2 mp mf mh mg r1.2.2.2 od) 28 [some (.ref b0), some (.ref (k.b + (0))), some (.ref (k.b + (189))), some (.ref (k.b + (197))), some (.ref (k.b + (198))), some (.int (x5 + 6)), none, none, none] []) : VW k z n n' (wAll k T R ly rc hn rp tp ee st w aside thought fresh mu th mp mf mh mg ou od) 28 [some (.ref b0), some (.ref (k.b + (0))), some (.ref (k.b + (189))), some (.ref (k.b + (197))), some (.ref (k.b + (198))), some (.int x5), none, none, none] [] := by
  refine r_iload X (x := x5) dL_law_28 rfl ?_
  refine r_aload_n X (x := b0) dL_law_30 rfl ?_
  refine r_slen X hX hbl hbA dL_law_31 ?_
  refine r_bipush X (v := 6) dL_law_32 rfl ?_
  refine r_isub X dL_law_34 ?_
  refine r_icmp_gt X 3066 dL_law_35 rfl (fun c => absurd c hlt) (fun _ => ?_)
  refine r_aload_n X (x := b0) dL_law_38 rfl ?_
  refine r_iload X (x := x5) dL_law_39 rfl ?_
  refine r_sld X hX hbl hbA g0 dL_law_41 ?_
  refine r_bipush X (v := 63) dL_law_42 rfl ?_
  refine r_iand X dL_law_44 ?_
  refine r_tswIn X (off := 470) 515 dL_law_45 (by rw [hc]; decide) (by rw [hc]; decide) (by rw [hc]; rfl) rfl ?_
  refine r_aload_n X (x := k.b + (0)) dL_law_515 rfl ?_
  refine r_aload_n X (x := b0) dL_law_516 rfl ?_
  refine r_iload X (x := x5) dL_law_517 rfl ?_
  refine r_iconst X (v := 1) dL_law_519 rfl ?_
  refine r_iadd X dL_law_520 ?_
  refine r_sld X hX hbl hbA g1 dL_law_521 ?_
  refine r_aload_n X (x := k.b + (197)) dL_law_522 rfl ?_
  refine r_callSW X [.ref (k.b + (0)), .int (xs (ix (x5 + 1))), .ref (k.b + (197))] [] (KL_close h1) lkL_close ⟨(Nat.le_of_ble_eq_true rfl), (Nat.le_of_ble_eq_true rfl)⟩ rfl rfl (by show n + 1 ≤ 601024; omega) (by show n' + 6 ≤ 7293034; omega) rfl rfl (Nat.le_of_ble_eq_true rfl) rfl rfl dL_law_523 ?_
  refine r_istore X [some (.ref b0), some (.ref (k.b + (0))), some (.ref (k.b + (189))), some (.ref (k.b + (197))), some (.ref (k.b + (198))), some (.int x5), some (.int r1.1), none, none] dL_law_526 (Nat.le_of_ble_eq_true rfl) rfl ?_
  refine r_aload_n X (x := k.b + (189)) dL_law_528 rfl ?_
  refine r_aload_n X (x := b0) dL_law_529 rfl ?_
  refine r_iload X (x := x5) dL_law_530 rfl ?_
  refine r_iconst X (v := 1) dL_law_532 rfl ?_
  refine r_iadd X dL_law_533 ?_
  refine r_sld X hX hbl hbA g1 dL_law_534 ?_
  refine r_callV X [.int (xs (ix (x5 + 1)))] [] (K10_close h2) lkL_188 clsX10 rfl _ o_model ⟨(Nat.le_of_ble_eq_true rfl), (Nat.le_of_ble_eq_true rfl)⟩ rfl rfl (by show n + 1 + 0 ≤ 601024; omega) (by show n' + 6 + 0 ≤ 7293034; omega) rfl rfl (Nat.le_of_ble_eq_true rfl) rfl rfl dL_law_535 ?_
  refine r_istore X [some (.ref b0), some (.ref (k.b + (0))), some (.ref (k.b + (189))), some (.ref (k.b + (197))), some (.ref (k.b + (198))), some (.int x5), some (.int r1.1), some (.int r2.1), none] dL_law_538 (Nat.le_of_ble_eq_true rfl) rfl ?_
  refine r_aload_n X (x := k.b + (189)) dL_law_540 rfl ?_
  refine r_callV X [] [] (K10_thrown (r := r2.2.2.2.2) rfl) lkL_164 clsX10 rfl _ o_model ⟨(Nat.le_of_ble_eq_true rfl), (Nat.le_of_ble_eq_true rfl)⟩ rfl rfl (by show n + 1 + 0 ≤ 601024; omega) (by show n' + 6 + 0 ≤ 7293034; omega) rfl rfl (Nat.le_of_ble_eq_true rfl) rfl rfl dL_law_541 ?_
  refine r_iload X (x := r1.1) dL_law_544 rfl ?_
  refine r_icmp_eq X 551 dL_law_546 rfl (fun c546 => ?_) (fun c546 => absurd h3 c546)
  refine r_iload X (x := r1.1) dL_law_551 rfl ?_
  refine r_if_ne X 568 dL_law_553 rfl (fun c6 => ?_) (fun c6 => ?_)
  · refine r_goto X 3060 dL_law_568 rfl ?_
    refine r_iinc X (x := x5) (v := x5 + 6) [some (.ref b0), some (.ref (k.b + (0))), some (.ref (k.b + (189))), some (.ref (k.b + (197))), some (.ref (k.b + (198))), some (.int (x5 + 6)), some (.int r1.1), some (.int r2.1), none] dL_law_3060 rfl rfl rfl ?_
    refine r_goto X 28 dL_law_3063 rfl ?_
    refine VW.msk [true, true, true, true, true, true, false, false, false] rfl (lo' := [some (.ref b0), some (.ref (k.b + (0))), some (.ref (k.b + (189))), some (.ref (k.b + (197))), some (.ref (k.b + (198))), some (.int (x5 + 6)), none, none, none]) rfl ?_
    exact VW.widen (c := n + 1) (s := n' + 6) (by omega) (by omega) kk
  · refine r_aload_n X (x := k.b + (197)) dL_law_556 rfl ?_
    refine r_iconst X (v := 0) dL_law_557 rfl ?_
    refine r_laload X (f := r1.2.2.2) _ a_m_ou (by decide) dL_law_558 ?_
    refine r_iload X (x := r2.1) dL_law_559 rfl ?_
    refine r_i2l X dL_law_561 ?_
    refine r_lcmp_eq X 568 dL_law_562 dL_law_563 rfl (fun c562 => ?_) (fun c562 => absurd (h4 c6) c562)
    refine r_goto X 3060 dL_law_568 rfl ?_
    refine r_iinc X (x := x5) (v := x5 + 6) [some (.ref b0), some (.ref (k.b + (0))), some (.ref (k.b + (189))), some (.ref (k.b + (197))), some (.ref (k.b + (198))), some (.int (x5 + 6)), some (.int r1.1), some (.int r2.1), none] dL_law_3060 rfl rfl rfl ?_
    refine r_goto X 28 dL_law_3063 rfl ?_
    refine VW.msk [true, true, true, true, true, true, false, false, false] rfl (lo' := [some (.ref b0), some (.ref (k.b + (0))), some (.ref (k.b + (189))), some (.ref (k.b + (197))), some (.ref (k.b + (198))), some (.int (x5 + 6)), none, none, none]) rfl ?_
    exact VW.widen (c := n + 1) (s := n' + 6) (by omega) (by omega) kk
set_option maxRecDepth 100000 in
set_option maxHeartbeats 4000000 in
theorem LT_7 {k : KT} {z : ZT} (X : XX k strs z RL cL_law 9 ret room_1) {b0 len : Nat} {xs : Nat → Int32} (hX : va_X b0 len xs (zS z) (zS z).heap) (hbl : b0 < (zS z).heap.size) (hbA : ¬ kA k b0) {T : TT} {R : RR} {ly : Fin 2 → LL} {rc : RC} {hn : HN} {rp : RP} {tp : TP} {ee : EE} {st : Fin 12 → SS} {w : Nat → Int64} {aside : Nat → Int64} {thought : Nat → Int64} {fresh : Nat → Int64} {mu : MU} {th : Int32} {mp : MP} {mf : MF} {mh : MH} {mg : MG} {ou : Nat → Int64} {od : Nat → UInt64} {n n' : Nat} (hnc : n + 1 ≤ 601024) (hns : n' + 6 ≤ 7293034) {x5 : Int32} (hlt : ¬ (Int32.ofNat len - 6 < x5)) (g0 : inb (x5) len = true) (g1 : inb (x5 + 1) len = true) (g2 : inb (x5 + 2) len = true) (g3 : inb (x5 + 3) len = true) (g4 : inb (x5 + 4) len = true) (g5 : inb (x5 + 5) len = true) (hc : xs (ix x5) &&& 63 = 7) {r1 : Int32 × (TP) × (Fin 12 → SS) × (Nat → Int64)} {r2 : Int32 × (Nat → Int64) × (Nat → Int64) × (MU) × (Int32)} (h1 : fL_start (ly (0 : Fin 2)) tp st ou (xs (ix (x5 + 1))) = some r1) (h2 : f10_start w aside mu th (xs (ix (x5 + 1))) = some r2) (h3 : r2.2.2.2.2 = r1.1) (h4 : r1.1 = 0 → r1.2.2.2 (ix 0) = r2.1.toInt64) (kk : VW k z (n + 1) (n' + 6) (wAll k T R ly rc hn rp r1.2.1 ee r1.2.2.1 r2.2.1 r2.2.2.1 thought fresh r2.2.2.2.1 r2.2.2.2.2 mp mf mh mg r1.2.2.2 od) 28 [some (.ref b0), some (.ref (k.b + (0))), some (.ref (k.b + (189))), some (.ref (k.b + (197))), some (.ref (k.b + (198))), some (.int (x5 + 6)), none, none, none] []) : VW k z n n' (wAll k T R ly rc hn rp tp ee st w aside thought fresh mu th mp mf mh mg ou od) 28 [some (.ref b0), some (.ref (k.b + (0))), some (.ref (k.b + (189))), some (.ref (k.b + (197))), some (.ref (k.b + (198))), some (.int x5), none, none, none] [] := by
  refine r_iload X (x := x5) dL_law_28 rfl ?_
  refine r_aload_n X (x := b0) dL_law_30 rfl ?_
  refine r_slen X hX hbl hbA dL_law_31 ?_
  refine r_bipush X (v := 6) dL_law_32 rfl ?_
  refine r_isub X dL_law_34 ?_
  refine r_icmp_gt X 3066 dL_law_35 rfl (fun c => absurd c hlt) (fun _ => ?_)
  refine r_aload_n X (x := b0) dL_law_38 rfl ?_
  refine r_iload X (x := x5) dL_law_39 rfl ?_
  refine r_sld X hX hbl hbA g0 dL_law_41 ?_
  refine r_bipush X (v := 63) dL_law_42 rfl ?_
  refine r_iand X dL_law_44 ?_
  refine r_tswIn X (off := 526) 571 dL_law_45 (by rw [hc]; decide) (by rw [hc]; decide) (by rw [hc]; rfl) rfl ?_
  refine r_aload_n X (x := k.b + (0)) dL_law_571 rfl ?_
  refine r_aload_n X (x := b0) dL_law_572 rfl ?_
  refine r_iload X (x := x5) dL_law_573 rfl ?_
  refine r_iconst X (v := 1) dL_law_575 rfl ?_
  refine r_iadd X dL_law_576 ?_
  refine r_sld X hX hbl hbA g1 dL_law_577 ?_
  refine r_aload_n X (x := k.b + (197)) dL_law_578 rfl ?_
  refine r_callSW X [.ref (k.b + (0)), .int (xs (ix (x5 + 1))), .ref (k.b + (197))] [] (KL_start h1) lkL_start ⟨(Nat.le_of_ble_eq_true rfl), (Nat.le_of_ble_eq_true rfl)⟩ rfl rfl (by show n + 1 ≤ 601024; omega) (by show n' + 6 ≤ 7293034; omega) rfl rfl (Nat.le_of_ble_eq_true rfl) rfl rfl dL_law_579 ?_
  refine r_istore X [some (.ref b0), some (.ref (k.b + (0))), some (.ref (k.b + (189))), some (.ref (k.b + (197))), some (.ref (k.b + (198))), some (.int x5), some (.int r1.1), none, none] dL_law_582 (Nat.le_of_ble_eq_true rfl) rfl ?_
  refine r_aload_n X (x := k.b + (189)) dL_law_584 rfl ?_
  refine r_aload_n X (x := b0) dL_law_585 rfl ?_
  refine r_iload X (x := x5) dL_law_586 rfl ?_
  refine r_iconst X (v := 1) dL_law_588 rfl ?_
  refine r_iadd X dL_law_589 ?_
  refine r_sld X hX hbl hbA g1 dL_law_590 ?_
  refine r_callV X [.int (xs (ix (x5 + 1)))] [] (K10_start h2) lkL_191 clsX10 rfl _ o_model ⟨(Nat.le_of_ble_eq_true rfl), (Nat.le_of_ble_eq_true rfl)⟩ rfl rfl (by show n + 1 + 0 ≤ 601024; omega) (by show n' + 6 + 0 ≤ 7293034; omega) rfl rfl (Nat.le_of_ble_eq_true rfl) rfl rfl dL_law_591 ?_
  refine r_istore X [some (.ref b0), some (.ref (k.b + (0))), some (.ref (k.b + (189))), some (.ref (k.b + (197))), some (.ref (k.b + (198))), some (.int x5), some (.int r1.1), some (.int r2.1), none] dL_law_594 (Nat.le_of_ble_eq_true rfl) rfl ?_
  refine r_aload_n X (x := k.b + (189)) dL_law_596 rfl ?_
  refine r_callV X [] [] (K10_thrown (r := r2.2.2.2.2) rfl) lkL_164 clsX10 rfl _ o_model ⟨(Nat.le_of_ble_eq_true rfl), (Nat.le_of_ble_eq_true rfl)⟩ rfl rfl (by show n + 1 + 0 ≤ 601024; omega) (by show n' + 6 + 0 ≤ 7293034; omega) rfl rfl (Nat.le_of_ble_eq_true rfl) rfl rfl dL_law_597 ?_
  refine r_iload X (x := r1.1) dL_law_600 rfl ?_
  refine r_icmp_eq X 607 dL_law_602 rfl (fun c602 => ?_) (fun c602 => absurd h3 c602)
  refine r_iload X (x := r1.1) dL_law_607 rfl ?_
  refine r_if_ne X 624 dL_law_609 rfl (fun c6 => ?_) (fun c6 => ?_)
  · refine r_goto X 3060 dL_law_624 rfl ?_
    refine r_iinc X (x := x5) (v := x5 + 6) [some (.ref b0), some (.ref (k.b + (0))), some (.ref (k.b + (189))), some (.ref (k.b + (197))), some (.ref (k.b + (198))), some (.int (x5 + 6)), some (.int r1.1), some (.int r2.1), none] dL_law_3060 rfl rfl rfl ?_
    refine r_goto X 28 dL_law_3063 rfl ?_
    refine VW.msk [true, true, true, true, true, true, false, false, false] rfl (lo' := [some (.ref b0), some (.ref (k.b + (0))), some (.ref (k.b + (189))), some (.ref (k.b + (197))), some (.ref (k.b + (198))), some (.int (x5 + 6)), none, none, none]) rfl ?_
    exact VW.widen (c := n + 1) (s := n' + 6) (by omega) (by omega) kk
  · refine r_aload_n X (x := k.b + (197)) dL_law_612 rfl ?_
    refine r_iconst X (v := 0) dL_law_613 rfl ?_
    refine r_laload X (f := r1.2.2.2) _ a_m_ou (by decide) dL_law_614 ?_
    refine r_iload X (x := r2.1) dL_law_615 rfl ?_
    refine r_i2l X dL_law_617 ?_
    refine r_lcmp_eq X 624 dL_law_618 dL_law_619 rfl (fun c618 => ?_) (fun c618 => absurd (h4 c6) c618)
    refine r_goto X 3060 dL_law_624 rfl ?_
    refine r_iinc X (x := x5) (v := x5 + 6) [some (.ref b0), some (.ref (k.b + (0))), some (.ref (k.b + (189))), some (.ref (k.b + (197))), some (.ref (k.b + (198))), some (.int (x5 + 6)), some (.int r1.1), some (.int r2.1), none] dL_law_3060 rfl rfl rfl ?_
    refine r_goto X 28 dL_law_3063 rfl ?_
    refine VW.msk [true, true, true, true, true, true, false, false, false] rfl (lo' := [some (.ref b0), some (.ref (k.b + (0))), some (.ref (k.b + (189))), some (.ref (k.b + (197))), some (.ref (k.b + (198))), some (.int (x5 + 6)), none, none, none]) rfl ?_
    exact VW.widen (c := n + 1) (s := n' + 6) (by omega) (by omega) kk
set_option maxRecDepth 100000 in
set_option maxHeartbeats 4000000 in
theorem LT_8 {k : KT} {z : ZT} (X : XX k strs z RL cL_law 9 ret room_1) {b0 len : Nat} {xs : Nat → Int32} (hX : va_X b0 len xs (zS z) (zS z).heap) (hbl : b0 < (zS z).heap.size) (hbA : ¬ kA k b0) {T : TT} {R : RR} {ly : Fin 2 → LL} {rc : RC} {hn : HN} {rp : RP} {tp : TP} {ee : EE} {st : Fin 12 → SS} {w : Nat → Int64} {aside : Nat → Int64} {thought : Nat → Int64} {fresh : Nat → Int64} {mu : MU} {th : Int32} {mp : MP} {mf : MF} {mh : MH} {mg : MG} {ou : Nat → Int64} {od : Nat → UInt64} {n n' : Nat} (hnc : n + 1 ≤ 601024) (hns : n' + 6 ≤ 7293034) {x5 : Int32} (hlt : ¬ (Int32.ofNat len - 6 < x5)) (g0 : inb (x5) len = true) (g1 : inb (x5 + 1) len = true) (g2 : inb (x5 + 2) len = true) (g3 : inb (x5 + 3) len = true) (g4 : inb (x5 + 4) len = true) (g5 : inb (x5 + 5) len = true) (hc : xs (ix x5) &&& 63 = 8) {r1 : Int32 × (TP) × (Fin 12 → SS) × (Nat → Int64)} {r2 : Int32 × (Nat → Int64) × (Nat → Int64) × (MU) × (Int32)} (h1 : fL_stop (ly (0 : Fin 2)) tp st ou (xs (ix (x5 + 1))) = some r1) (h2 : f10_stop w aside mu th (xs (ix (x5 + 1))) = some r2) (h3 : r2.2.2.2.2 = r1.1) (h4 : r1.1 = 0 → r1.2.2.2 (ix 0) = r2.1.toInt64) (kk : VW k z (n + 1) (n' + 6) (wAll k T R ly rc hn rp r1.2.1 ee r1.2.2.1 r2.2.1 r2.2.2.1 thought fresh r2.2.2.2.1 r2.2.2.2.2 mp mf mh mg r1.2.2.2 od) 28 [some (.ref b0), some (.ref (k.b + (0))), some (.ref (k.b + (189))), some (.ref (k.b + (197))), some (.ref (k.b + (198))), some (.int (x5 + 6)), none, none, none] []) : VW k z n n' (wAll k T R ly rc hn rp tp ee st w aside thought fresh mu th mp mf mh mg ou od) 28 [some (.ref b0), some (.ref (k.b + (0))), some (.ref (k.b + (189))), some (.ref (k.b + (197))), some (.ref (k.b + (198))), some (.int x5), none, none, none] [] := by
  refine r_iload X (x := x5) dL_law_28 rfl ?_
  refine r_aload_n X (x := b0) dL_law_30 rfl ?_
  refine r_slen X hX hbl hbA dL_law_31 ?_
  refine r_bipush X (v := 6) dL_law_32 rfl ?_
  refine r_isub X dL_law_34 ?_
  refine r_icmp_gt X 3066 dL_law_35 rfl (fun c => absurd c hlt) (fun _ => ?_)
  refine r_aload_n X (x := b0) dL_law_38 rfl ?_
  refine r_iload X (x := x5) dL_law_39 rfl ?_
  refine r_sld X hX hbl hbA g0 dL_law_41 ?_
  refine r_bipush X (v := 63) dL_law_42 rfl ?_
  refine r_iand X dL_law_44 ?_
  refine r_tswIn X (off := 582) 627 dL_law_45 (by rw [hc]; decide) (by rw [hc]; decide) (by rw [hc]; rfl) rfl ?_
  refine r_aload_n X (x := k.b + (0)) dL_law_627 rfl ?_
  refine r_aload_n X (x := b0) dL_law_628 rfl ?_
  refine r_iload X (x := x5) dL_law_629 rfl ?_
  refine r_iconst X (v := 1) dL_law_631 rfl ?_
  refine r_iadd X dL_law_632 ?_
  refine r_sld X hX hbl hbA g1 dL_law_633 ?_
  refine r_aload_n X (x := k.b + (197)) dL_law_634 rfl ?_
  refine r_callSW X [.ref (k.b + (0)), .int (xs (ix (x5 + 1))), .ref (k.b + (197))] [] (KL_stop h1) lkL_stop ⟨(Nat.le_of_ble_eq_true rfl), (Nat.le_of_ble_eq_true rfl)⟩ rfl rfl (by show n + 1 ≤ 601024; omega) (by show n' + 6 ≤ 7293034; omega) rfl rfl (Nat.le_of_ble_eq_true rfl) rfl rfl dL_law_635 ?_
  refine r_istore X [some (.ref b0), some (.ref (k.b + (0))), some (.ref (k.b + (189))), some (.ref (k.b + (197))), some (.ref (k.b + (198))), some (.int x5), some (.int r1.1), none, none] dL_law_638 (Nat.le_of_ble_eq_true rfl) rfl ?_
  refine r_aload_n X (x := k.b + (189)) dL_law_640 rfl ?_
  refine r_aload_n X (x := b0) dL_law_641 rfl ?_
  refine r_iload X (x := x5) dL_law_642 rfl ?_
  refine r_iconst X (v := 1) dL_law_644 rfl ?_
  refine r_iadd X dL_law_645 ?_
  refine r_sld X hX hbl hbA g1 dL_law_646 ?_
  refine r_callV X [.int (xs (ix (x5 + 1)))] [] (K10_stop h2) lkL_194 clsX10 rfl _ o_model ⟨(Nat.le_of_ble_eq_true rfl), (Nat.le_of_ble_eq_true rfl)⟩ rfl rfl (by show n + 1 + 0 ≤ 601024; omega) (by show n' + 6 + 0 ≤ 7293034; omega) rfl rfl (Nat.le_of_ble_eq_true rfl) rfl rfl dL_law_647 ?_
  refine r_istore X [some (.ref b0), some (.ref (k.b + (0))), some (.ref (k.b + (189))), some (.ref (k.b + (197))), some (.ref (k.b + (198))), some (.int x5), some (.int r1.1), some (.int r2.1), none] dL_law_650 (Nat.le_of_ble_eq_true rfl) rfl ?_
  refine r_aload_n X (x := k.b + (189)) dL_law_652 rfl ?_
  refine r_callV X [] [] (K10_thrown (r := r2.2.2.2.2) rfl) lkL_164 clsX10 rfl _ o_model ⟨(Nat.le_of_ble_eq_true rfl), (Nat.le_of_ble_eq_true rfl)⟩ rfl rfl (by show n + 1 + 0 ≤ 601024; omega) (by show n' + 6 + 0 ≤ 7293034; omega) rfl rfl (Nat.le_of_ble_eq_true rfl) rfl rfl dL_law_653 ?_
  refine r_iload X (x := r1.1) dL_law_656 rfl ?_
  refine r_icmp_eq X 663 dL_law_658 rfl (fun c658 => ?_) (fun c658 => absurd h3 c658)
  refine r_iload X (x := r1.1) dL_law_663 rfl ?_
  refine r_if_ne X 680 dL_law_665 rfl (fun c6 => ?_) (fun c6 => ?_)
  · refine r_goto X 3060 dL_law_680 rfl ?_
    refine r_iinc X (x := x5) (v := x5 + 6) [some (.ref b0), some (.ref (k.b + (0))), some (.ref (k.b + (189))), some (.ref (k.b + (197))), some (.ref (k.b + (198))), some (.int (x5 + 6)), some (.int r1.1), some (.int r2.1), none] dL_law_3060 rfl rfl rfl ?_
    refine r_goto X 28 dL_law_3063 rfl ?_
    refine VW.msk [true, true, true, true, true, true, false, false, false] rfl (lo' := [some (.ref b0), some (.ref (k.b + (0))), some (.ref (k.b + (189))), some (.ref (k.b + (197))), some (.ref (k.b + (198))), some (.int (x5 + 6)), none, none, none]) rfl ?_
    exact VW.widen (c := n + 1) (s := n' + 6) (by omega) (by omega) kk
  · refine r_aload_n X (x := k.b + (197)) dL_law_668 rfl ?_
    refine r_iconst X (v := 0) dL_law_669 rfl ?_
    refine r_laload X (f := r1.2.2.2) _ a_m_ou (by decide) dL_law_670 ?_
    refine r_iload X (x := r2.1) dL_law_671 rfl ?_
    refine r_i2l X dL_law_673 ?_
    refine r_lcmp_eq X 680 dL_law_674 dL_law_675 rfl (fun c674 => ?_) (fun c674 => absurd (h4 c6) c674)
    refine r_goto X 3060 dL_law_680 rfl ?_
    refine r_iinc X (x := x5) (v := x5 + 6) [some (.ref b0), some (.ref (k.b + (0))), some (.ref (k.b + (189))), some (.ref (k.b + (197))), some (.ref (k.b + (198))), some (.int (x5 + 6)), some (.int r1.1), some (.int r2.1), none] dL_law_3060 rfl rfl rfl ?_
    refine r_goto X 28 dL_law_3063 rfl ?_
    refine VW.msk [true, true, true, true, true, true, false, false, false] rfl (lo' := [some (.ref b0), some (.ref (k.b + (0))), some (.ref (k.b + (189))), some (.ref (k.b + (197))), some (.ref (k.b + (198))), some (.int (x5 + 6)), none, none, none]) rfl ?_
    exact VW.widen (c := n + 1) (s := n' + 6) (by omega) (by omega) kk
set_option maxRecDepth 100000 in
set_option maxHeartbeats 4000000 in
theorem LT_9 {k : KT} {z : ZT} (X : XX k strs z RL cL_law 9 ret room_1) {b0 len : Nat} {xs : Nat → Int32} (hX : va_X b0 len xs (zS z) (zS z).heap) (hbl : b0 < (zS z).heap.size) (hbA : ¬ kA k b0) {T : TT} {R : RR} {ly : Fin 2 → LL} {rc : RC} {hn : HN} {rp : RP} {tp : TP} {ee : EE} {st : Fin 12 → SS} {w : Nat → Int64} {aside : Nat → Int64} {thought : Nat → Int64} {fresh : Nat → Int64} {mu : MU} {th : Int32} {mp : MP} {mf : MF} {mh : MH} {mg : MG} {ou : Nat → Int64} {od : Nat → UInt64} {n n' : Nat} (hnc : n + 1 ≤ 601024) (hns : n' + 6 ≤ 7293034) {x5 : Int32} (hlt : ¬ (Int32.ofNat len - 6 < x5)) (g0 : inb (x5) len = true) (g1 : inb (x5 + 1) len = true) (g2 : inb (x5 + 2) len = true) (g3 : inb (x5 + 3) len = true) (g4 : inb (x5 + 4) len = true) (g5 : inb (x5 + 5) len = true) (hc : xs (ix x5) &&& 63 = 9) {r1 : Int32 × (TP) × (Fin 12 → SS) × (Nat → Int64)} {r2 : Int32 × (Nat → Int64) × (Nat → Int64) × (MU) × (Int32)} (h1 : fL_pass (ly (0 : Fin 2)) tp st ou (xs (ix (x5 + 1))) = some r1) (h2 : f10_pass w aside mu th (xs (ix (x5 + 1))) = some r2) (h3 : r2.2.2.2.2 = r1.1) (h4 : r1.1 = 0 → r1.2.2.2 (ix 0) = r2.1.toInt64) (kk : VW k z (n + 1) (n' + 6) (wAll k T R ly rc hn rp r1.2.1 ee r1.2.2.1 r2.2.1 r2.2.2.1 thought fresh r2.2.2.2.1 r2.2.2.2.2 mp mf mh mg r1.2.2.2 od) 28 [some (.ref b0), some (.ref (k.b + (0))), some (.ref (k.b + (189))), some (.ref (k.b + (197))), some (.ref (k.b + (198))), some (.int (x5 + 6)), none, none, none] []) : VW k z n n' (wAll k T R ly rc hn rp tp ee st w aside thought fresh mu th mp mf mh mg ou od) 28 [some (.ref b0), some (.ref (k.b + (0))), some (.ref (k.b + (189))), some (.ref (k.b + (197))), some (.ref (k.b + (198))), some (.int x5), none, none, none] [] := by
  refine r_iload X (x := x5) dL_law_28 rfl ?_
  refine r_aload_n X (x := b0) dL_law_30 rfl ?_
  refine r_slen X hX hbl hbA dL_law_31 ?_
  refine r_bipush X (v := 6) dL_law_32 rfl ?_
  refine r_isub X dL_law_34 ?_
  refine r_icmp_gt X 3066 dL_law_35 rfl (fun c => absurd c hlt) (fun _ => ?_)
  refine r_aload_n X (x := b0) dL_law_38 rfl ?_
  refine r_iload X (x := x5) dL_law_39 rfl ?_
  refine r_sld X hX hbl hbA g0 dL_law_41 ?_
  refine r_bipush X (v := 63) dL_law_42 rfl ?_
  refine r_iand X dL_law_44 ?_
  refine r_tswIn X (off := 638) 683 dL_law_45 (by rw [hc]; decide) (by rw [hc]; decide) (by rw [hc]; rfl) rfl ?_
  refine r_aload_n X (x := k.b + (0)) dL_law_683 rfl ?_
  refine r_aload_n X (x := b0) dL_law_684 rfl ?_
  refine r_iload X (x := x5) dL_law_685 rfl ?_
  refine r_iconst X (v := 1) dL_law_687 rfl ?_
  refine r_iadd X dL_law_688 ?_
  refine r_sld X hX hbl hbA g1 dL_law_689 ?_
  refine r_aload_n X (x := k.b + (197)) dL_law_690 rfl ?_
  refine r_callSW X [.ref (k.b + (0)), .int (xs (ix (x5 + 1))), .ref (k.b + (197))] [] (KL_pass h1) lkL_pass ⟨(Nat.le_of_ble_eq_true rfl), (Nat.le_of_ble_eq_true rfl)⟩ rfl rfl (by show n + 1 ≤ 601024; omega) (by show n' + 6 ≤ 7293034; omega) rfl rfl (Nat.le_of_ble_eq_true rfl) rfl rfl dL_law_691 ?_
  refine r_istore X [some (.ref b0), some (.ref (k.b + (0))), some (.ref (k.b + (189))), some (.ref (k.b + (197))), some (.ref (k.b + (198))), some (.int x5), some (.int r1.1), none, none] dL_law_694 (Nat.le_of_ble_eq_true rfl) rfl ?_
  refine r_aload_n X (x := k.b + (189)) dL_law_696 rfl ?_
  refine r_aload_n X (x := b0) dL_law_697 rfl ?_
  refine r_iload X (x := x5) dL_law_698 rfl ?_
  refine r_iconst X (v := 1) dL_law_700 rfl ?_
  refine r_iadd X dL_law_701 ?_
  refine r_sld X hX hbl hbA g1 dL_law_702 ?_
  refine r_callV X [.int (xs (ix (x5 + 1)))] [] (K10_pass h2) lkL_197 clsX10 rfl _ o_model ⟨(Nat.le_of_ble_eq_true rfl), (Nat.le_of_ble_eq_true rfl)⟩ rfl rfl (by show n + 1 + 0 ≤ 601024; omega) (by show n' + 6 + 0 ≤ 7293034; omega) rfl rfl (Nat.le_of_ble_eq_true rfl) rfl rfl dL_law_703 ?_
  refine r_istore X [some (.ref b0), some (.ref (k.b + (0))), some (.ref (k.b + (189))), some (.ref (k.b + (197))), some (.ref (k.b + (198))), some (.int x5), some (.int r1.1), some (.int r2.1), none] dL_law_706 (Nat.le_of_ble_eq_true rfl) rfl ?_
  refine r_aload_n X (x := k.b + (189)) dL_law_708 rfl ?_
  refine r_callV X [] [] (K10_thrown (r := r2.2.2.2.2) rfl) lkL_164 clsX10 rfl _ o_model ⟨(Nat.le_of_ble_eq_true rfl), (Nat.le_of_ble_eq_true rfl)⟩ rfl rfl (by show n + 1 + 0 ≤ 601024; omega) (by show n' + 6 + 0 ≤ 7293034; omega) rfl rfl (Nat.le_of_ble_eq_true rfl) rfl rfl dL_law_709 ?_
  refine r_iload X (x := r1.1) dL_law_712 rfl ?_
  refine r_icmp_eq X 719 dL_law_714 rfl (fun c714 => ?_) (fun c714 => absurd h3 c714)
  refine r_iload X (x := r1.1) dL_law_719 rfl ?_
  refine r_if_ne X 736 dL_law_721 rfl (fun c6 => ?_) (fun c6 => ?_)
  · refine r_goto X 3060 dL_law_736 rfl ?_
    refine r_iinc X (x := x5) (v := x5 + 6) [some (.ref b0), some (.ref (k.b + (0))), some (.ref (k.b + (189))), some (.ref (k.b + (197))), some (.ref (k.b + (198))), some (.int (x5 + 6)), some (.int r1.1), some (.int r2.1), none] dL_law_3060 rfl rfl rfl ?_
    refine r_goto X 28 dL_law_3063 rfl ?_
    refine VW.msk [true, true, true, true, true, true, false, false, false] rfl (lo' := [some (.ref b0), some (.ref (k.b + (0))), some (.ref (k.b + (189))), some (.ref (k.b + (197))), some (.ref (k.b + (198))), some (.int (x5 + 6)), none, none, none]) rfl ?_
    exact VW.widen (c := n + 1) (s := n' + 6) (by omega) (by omega) kk
  · refine r_aload_n X (x := k.b + (197)) dL_law_724 rfl ?_
    refine r_iconst X (v := 0) dL_law_725 rfl ?_
    refine r_laload X (f := r1.2.2.2) _ a_m_ou (by decide) dL_law_726 ?_
    refine r_iload X (x := r2.1) dL_law_727 rfl ?_
    refine r_i2l X dL_law_729 ?_
    refine r_lcmp_eq X 736 dL_law_730 dL_law_731 rfl (fun c730 => ?_) (fun c730 => absurd (h4 c6) c730)
    refine r_goto X 3060 dL_law_736 rfl ?_
    refine r_iinc X (x := x5) (v := x5 + 6) [some (.ref b0), some (.ref (k.b + (0))), some (.ref (k.b + (189))), some (.ref (k.b + (197))), some (.ref (k.b + (198))), some (.int (x5 + 6)), some (.int r1.1), some (.int r2.1), none] dL_law_3060 rfl rfl rfl ?_
    refine r_goto X 28 dL_law_3063 rfl ?_
    refine VW.msk [true, true, true, true, true, true, false, false, false] rfl (lo' := [some (.ref b0), some (.ref (k.b + (0))), some (.ref (k.b + (189))), some (.ref (k.b + (197))), some (.ref (k.b + (198))), some (.int (x5 + 6)), none, none, none]) rfl ?_
    exact VW.widen (c := n + 1) (s := n' + 6) (by omega) (by omega) kk
set_option maxRecDepth 100000 in
set_option maxHeartbeats 4000000 in
theorem LT_10 {k : KT} {z : ZT} (X : XX k strs z RL cL_law 9 ret room_1) {b0 len : Nat} {xs : Nat → Int32} (hX : va_X b0 len xs (zS z) (zS z).heap) (hbl : b0 < (zS z).heap.size) (hbA : ¬ kA k b0) {T : TT} {R : RR} {ly : Fin 2 → LL} {rc : RC} {hn : HN} {rp : RP} {tp : TP} {ee : EE} {st : Fin 12 → SS} {w : Nat → Int64} {aside : Nat → Int64} {thought : Nat → Int64} {fresh : Nat → Int64} {mu : MU} {th : Int32} {mp : MP} {mf : MF} {mh : MH} {mg : MG} {ou : Nat → Int64} {od : Nat → UInt64} {n n' : Nat} (hnc : n + 1 ≤ 601024) (hns : n' + 6 ≤ 7293034) {x5 : Int32} (hlt : ¬ (Int32.ofNat len - 6 < x5)) (g0 : inb (x5) len = true) (g1 : inb (x5 + 1) len = true) (g2 : inb (x5 + 2) len = true) (g3 : inb (x5 + 3) len = true) (g4 : inb (x5 + 4) len = true) (g5 : inb (x5 + 5) len = true) (hc : xs (ix x5) &&& 63 = 10) {r1 : Int32 × (TP) × (Fin 12 → SS) × (Nat → Int64)} {r2 : Int32 × (Nat → Int64) × (Nat → Int64) × (MU) × (Int32)} (h1 : fL_passUntil (ly (0 : Fin 2)) tp st ou (xs (ix (x5 + 1))) (xs (ix (x5 + 2))) = some r1) (h2 : f10_passUntil w aside mu th (xs (ix (x5 + 1))) (xs (ix (x5 + 2))) = some r2) (h3 : r2.2.2.2.2 = r1.1) (h4 : r1.1 = 0 → r1.2.2.2 (ix 0) = r2.1.toInt64) (kk : VW k z (n + 1) (n' + 6) (wAll k T R ly rc hn rp r1.2.1 ee r1.2.2.1 r2.2.1 r2.2.2.1 thought fresh r2.2.2.2.1 r2.2.2.2.2 mp mf mh mg r1.2.2.2 od) 28 [some (.ref b0), some (.ref (k.b + (0))), some (.ref (k.b + (189))), some (.ref (k.b + (197))), some (.ref (k.b + (198))), some (.int (x5 + 6)), none, none, none] []) : VW k z n n' (wAll k T R ly rc hn rp tp ee st w aside thought fresh mu th mp mf mh mg ou od) 28 [some (.ref b0), some (.ref (k.b + (0))), some (.ref (k.b + (189))), some (.ref (k.b + (197))), some (.ref (k.b + (198))), some (.int x5), none, none, none] [] := by
  refine r_iload X (x := x5) dL_law_28 rfl ?_
  refine r_aload_n X (x := b0) dL_law_30 rfl ?_
  refine r_slen X hX hbl hbA dL_law_31 ?_
  refine r_bipush X (v := 6) dL_law_32 rfl ?_
  refine r_isub X dL_law_34 ?_
  refine r_icmp_gt X 3066 dL_law_35 rfl (fun c => absurd c hlt) (fun _ => ?_)
  refine r_aload_n X (x := b0) dL_law_38 rfl ?_
  refine r_iload X (x := x5) dL_law_39 rfl ?_
  refine r_sld X hX hbl hbA g0 dL_law_41 ?_
  refine r_bipush X (v := 63) dL_law_42 rfl ?_
  refine r_iand X dL_law_44 ?_
  refine r_tswIn X (off := 694) 739 dL_law_45 (by rw [hc]; decide) (by rw [hc]; decide) (by rw [hc]; rfl) rfl ?_
  refine r_aload_n X (x := k.b + (0)) dL_law_739 rfl ?_
  refine r_aload_n X (x := b0) dL_law_740 rfl ?_
  refine r_iload X (x := x5) dL_law_741 rfl ?_
  refine r_iconst X (v := 1) dL_law_743 rfl ?_
  refine r_iadd X dL_law_744 ?_
  refine r_sld X hX hbl hbA g1 dL_law_745 ?_
  refine r_aload_n X (x := b0) dL_law_746 rfl ?_
  refine r_iload X (x := x5) dL_law_747 rfl ?_
  refine r_iconst X (v := 2) dL_law_749 rfl ?_
  refine r_iadd X dL_law_750 ?_
  refine r_sld X hX hbl hbA g2 dL_law_751 ?_
  refine r_aload_n X (x := k.b + (197)) dL_law_752 rfl ?_
  refine r_callSW X [.ref (k.b + (0)), .int (xs (ix (x5 + 1))), .int (xs (ix (x5 + 2))), .ref (k.b + (197))] [] (KL_passUntil h1) lkL_passUntil ⟨(Nat.le_of_ble_eq_true rfl), (Nat.le_of_ble_eq_true rfl)⟩ rfl rfl (by show n + 1 ≤ 601024; omega) (by show n' + 6 ≤ 7293034; omega) rfl rfl (Nat.le_of_ble_eq_true rfl) rfl rfl dL_law_753 ?_
  refine r_istore X [some (.ref b0), some (.ref (k.b + (0))), some (.ref (k.b + (189))), some (.ref (k.b + (197))), some (.ref (k.b + (198))), some (.int x5), some (.int r1.1), none, none] dL_law_756 (Nat.le_of_ble_eq_true rfl) rfl ?_
  refine r_aload_n X (x := k.b + (189)) dL_law_758 rfl ?_
  refine r_aload_n X (x := b0) dL_law_759 rfl ?_
  refine r_iload X (x := x5) dL_law_760 rfl ?_
  refine r_iconst X (v := 1) dL_law_762 rfl ?_
  refine r_iadd X dL_law_763 ?_
  refine r_sld X hX hbl hbA g1 dL_law_764 ?_
  refine r_aload_n X (x := b0) dL_law_765 rfl ?_
  refine r_iload X (x := x5) dL_law_766 rfl ?_
  refine r_iconst X (v := 2) dL_law_768 rfl ?_
  refine r_iadd X dL_law_769 ?_
  refine r_sld X hX hbl hbA g2 dL_law_770 ?_
  refine r_callV X [.int (xs (ix (x5 + 1))), .int (xs (ix (x5 + 2)))] [] (K10_passUntil h2) lkL_201 clsX10 rfl _ o_model ⟨(Nat.le_of_ble_eq_true rfl), (Nat.le_of_ble_eq_true rfl)⟩ rfl rfl (by show n + 1 + 0 ≤ 601024; omega) (by show n' + 6 + 0 ≤ 7293034; omega) rfl rfl (Nat.le_of_ble_eq_true rfl) rfl rfl dL_law_771 ?_
  refine r_istore X [some (.ref b0), some (.ref (k.b + (0))), some (.ref (k.b + (189))), some (.ref (k.b + (197))), some (.ref (k.b + (198))), some (.int x5), some (.int r1.1), some (.int r2.1), none] dL_law_774 (Nat.le_of_ble_eq_true rfl) rfl ?_
  refine r_aload_n X (x := k.b + (189)) dL_law_776 rfl ?_
  refine r_callV X [] [] (K10_thrown (r := r2.2.2.2.2) rfl) lkL_164 clsX10 rfl _ o_model ⟨(Nat.le_of_ble_eq_true rfl), (Nat.le_of_ble_eq_true rfl)⟩ rfl rfl (by show n + 1 + 0 ≤ 601024; omega) (by show n' + 6 + 0 ≤ 7293034; omega) rfl rfl (Nat.le_of_ble_eq_true rfl) rfl rfl dL_law_777 ?_
  refine r_iload X (x := r1.1) dL_law_780 rfl ?_
  refine r_icmp_eq X 787 dL_law_782 rfl (fun c782 => ?_) (fun c782 => absurd h3 c782)
  refine r_iload X (x := r1.1) dL_law_787 rfl ?_
  refine r_if_ne X 804 dL_law_789 rfl (fun c6 => ?_) (fun c6 => ?_)
  · refine r_goto X 3060 dL_law_804 rfl ?_
    refine r_iinc X (x := x5) (v := x5 + 6) [some (.ref b0), some (.ref (k.b + (0))), some (.ref (k.b + (189))), some (.ref (k.b + (197))), some (.ref (k.b + (198))), some (.int (x5 + 6)), some (.int r1.1), some (.int r2.1), none] dL_law_3060 rfl rfl rfl ?_
    refine r_goto X 28 dL_law_3063 rfl ?_
    refine VW.msk [true, true, true, true, true, true, false, false, false] rfl (lo' := [some (.ref b0), some (.ref (k.b + (0))), some (.ref (k.b + (189))), some (.ref (k.b + (197))), some (.ref (k.b + (198))), some (.int (x5 + 6)), none, none, none]) rfl ?_
    exact VW.widen (c := n + 1) (s := n' + 6) (by omega) (by omega) kk
  · refine r_aload_n X (x := k.b + (197)) dL_law_792 rfl ?_
    refine r_iconst X (v := 0) dL_law_793 rfl ?_
    refine r_laload X (f := r1.2.2.2) _ a_m_ou (by decide) dL_law_794 ?_
    refine r_iload X (x := r2.1) dL_law_795 rfl ?_
    refine r_i2l X dL_law_797 ?_
    refine r_lcmp_eq X 804 dL_law_798 dL_law_799 rfl (fun c798 => ?_) (fun c798 => absurd (h4 c6) c798)
    refine r_goto X 3060 dL_law_804 rfl ?_
    refine r_iinc X (x := x5) (v := x5 + 6) [some (.ref b0), some (.ref (k.b + (0))), some (.ref (k.b + (189))), some (.ref (k.b + (197))), some (.ref (k.b + (198))), some (.int (x5 + 6)), some (.int r1.1), some (.int r2.1), none] dL_law_3060 rfl rfl rfl ?_
    refine r_goto X 28 dL_law_3063 rfl ?_
    refine VW.msk [true, true, true, true, true, true, false, false, false] rfl (lo' := [some (.ref b0), some (.ref (k.b + (0))), some (.ref (k.b + (189))), some (.ref (k.b + (197))), some (.ref (k.b + (198))), some (.int (x5 + 6)), none, none, none]) rfl ?_
    exact VW.widen (c := n + 1) (s := n' + 6) (by omega) (by omega) kk
set_option maxRecDepth 100000 in
set_option maxHeartbeats 4000000 in
theorem LT_11 {k : KT} {z : ZT} (X : XX k strs z RL cL_law 9 ret room_1) {b0 len : Nat} {xs : Nat → Int32} (hX : va_X b0 len xs (zS z) (zS z).heap) (hbl : b0 < (zS z).heap.size) (hbA : ¬ kA k b0) {T : TT} {R : RR} {ly : Fin 2 → LL} {rc : RC} {hn : HN} {rp : RP} {tp : TP} {ee : EE} {st : Fin 12 → SS} {w : Nat → Int64} {aside : Nat → Int64} {thought : Nat → Int64} {fresh : Nat → Int64} {mu : MU} {th : Int32} {mp : MP} {mf : MF} {mh : MH} {mg : MG} {ou : Nat → Int64} {od : Nat → UInt64} {n n' : Nat} (hnc : n + 1 ≤ 601024) (hns : n' + 6 ≤ 7293034) {x5 : Int32} (hlt : ¬ (Int32.ofNat len - 6 < x5)) (g0 : inb (x5) len = true) (g1 : inb (x5 + 1) len = true) (g2 : inb (x5 + 2) len = true) (g3 : inb (x5 + 3) len = true) (g4 : inb (x5 + 4) len = true) (g5 : inb (x5 + 5) len = true) (hc : xs (ix x5) &&& 63 = 11) {r1 : Int32 × (TP) × (Fin 12 → SS) × (Nat → Int64)} {r2 : Int32 × (Nat → Int64) × (Nat → Int64) × (MU) × (Int32)} (h1 : fL_seal (ly (0 : Fin 2)) tp st ou (xs (ix (x5 + 1))) = some r1) (h2 : f10_seal w aside mu th (xs (ix (x5 + 1))) = some r2) (h3 : r2.2.2.2.2 = r1.1) (h4 : r1.1 = 0 → r1.2.2.2 (ix 0) = r2.1.toInt64) (kk : VW k z (n + 1) (n' + 6) (wAll k T R ly rc hn rp r1.2.1 ee r1.2.2.1 r2.2.1 r2.2.2.1 thought fresh r2.2.2.2.1 r2.2.2.2.2 mp mf mh mg r1.2.2.2 od) 28 [some (.ref b0), some (.ref (k.b + (0))), some (.ref (k.b + (189))), some (.ref (k.b + (197))), some (.ref (k.b + (198))), some (.int (x5 + 6)), none, none, none] []) : VW k z n n' (wAll k T R ly rc hn rp tp ee st w aside thought fresh mu th mp mf mh mg ou od) 28 [some (.ref b0), some (.ref (k.b + (0))), some (.ref (k.b + (189))), some (.ref (k.b + (197))), some (.ref (k.b + (198))), some (.int x5), none, none, none] [] := by
  refine r_iload X (x := x5) dL_law_28 rfl ?_
  refine r_aload_n X (x := b0) dL_law_30 rfl ?_
  refine r_slen X hX hbl hbA dL_law_31 ?_
  refine r_bipush X (v := 6) dL_law_32 rfl ?_
  refine r_isub X dL_law_34 ?_
  refine r_icmp_gt X 3066 dL_law_35 rfl (fun c => absurd c hlt) (fun _ => ?_)
  refine r_aload_n X (x := b0) dL_law_38 rfl ?_
  refine r_iload X (x := x5) dL_law_39 rfl ?_
  refine r_sld X hX hbl hbA g0 dL_law_41 ?_
  refine r_bipush X (v := 63) dL_law_42 rfl ?_
  refine r_iand X dL_law_44 ?_
  refine r_tswIn X (off := 762) 807 dL_law_45 (by rw [hc]; decide) (by rw [hc]; decide) (by rw [hc]; rfl) rfl ?_
  refine r_aload_n X (x := k.b + (0)) dL_law_807 rfl ?_
  refine r_aload_n X (x := b0) dL_law_808 rfl ?_
  refine r_iload X (x := x5) dL_law_809 rfl ?_
  refine r_iconst X (v := 1) dL_law_811 rfl ?_
  refine r_iadd X dL_law_812 ?_
  refine r_sld X hX hbl hbA g1 dL_law_813 ?_
  refine r_aload_n X (x := k.b + (197)) dL_law_814 rfl ?_
  refine r_callSW X [.ref (k.b + (0)), .int (xs (ix (x5 + 1))), .ref (k.b + (197))] [] (KL_seal h1) lkL_seal ⟨(Nat.le_of_ble_eq_true rfl), (Nat.le_of_ble_eq_true rfl)⟩ rfl rfl (by show n + 1 ≤ 601024; omega) (by show n' + 6 ≤ 7293034; omega) rfl rfl (Nat.le_of_ble_eq_true rfl) rfl rfl dL_law_815 ?_
  refine r_istore X [some (.ref b0), some (.ref (k.b + (0))), some (.ref (k.b + (189))), some (.ref (k.b + (197))), some (.ref (k.b + (198))), some (.int x5), some (.int r1.1), none, none] dL_law_818 (Nat.le_of_ble_eq_true rfl) rfl ?_
  refine r_aload_n X (x := k.b + (189)) dL_law_820 rfl ?_
  refine r_aload_n X (x := b0) dL_law_821 rfl ?_
  refine r_iload X (x := x5) dL_law_822 rfl ?_
  refine r_iconst X (v := 1) dL_law_824 rfl ?_
  refine r_iadd X dL_law_825 ?_
  refine r_sld X hX hbl hbA g1 dL_law_826 ?_
  refine r_callV X [.int (xs (ix (x5 + 1)))] [] (K10_seal h2) lkL_204 clsX10 rfl _ o_model ⟨(Nat.le_of_ble_eq_true rfl), (Nat.le_of_ble_eq_true rfl)⟩ rfl rfl (by show n + 1 + 0 ≤ 601024; omega) (by show n' + 6 + 0 ≤ 7293034; omega) rfl rfl (Nat.le_of_ble_eq_true rfl) rfl rfl dL_law_827 ?_
  refine r_istore X [some (.ref b0), some (.ref (k.b + (0))), some (.ref (k.b + (189))), some (.ref (k.b + (197))), some (.ref (k.b + (198))), some (.int x5), some (.int r1.1), some (.int r2.1), none] dL_law_830 (Nat.le_of_ble_eq_true rfl) rfl ?_
  refine r_aload_n X (x := k.b + (189)) dL_law_832 rfl ?_
  refine r_callV X [] [] (K10_thrown (r := r2.2.2.2.2) rfl) lkL_164 clsX10 rfl _ o_model ⟨(Nat.le_of_ble_eq_true rfl), (Nat.le_of_ble_eq_true rfl)⟩ rfl rfl (by show n + 1 + 0 ≤ 601024; omega) (by show n' + 6 + 0 ≤ 7293034; omega) rfl rfl (Nat.le_of_ble_eq_true rfl) rfl rfl dL_law_833 ?_
  refine r_iload X (x := r1.1) dL_law_836 rfl ?_
  refine r_icmp_eq X 843 dL_law_838 rfl (fun c838 => ?_) (fun c838 => absurd h3 c838)
  refine r_iload X (x := r1.1) dL_law_843 rfl ?_
  refine r_if_ne X 860 dL_law_845 rfl (fun c6 => ?_) (fun c6 => ?_)
  · refine r_goto X 3060 dL_law_860 rfl ?_
    refine r_iinc X (x := x5) (v := x5 + 6) [some (.ref b0), some (.ref (k.b + (0))), some (.ref (k.b + (189))), some (.ref (k.b + (197))), some (.ref (k.b + (198))), some (.int (x5 + 6)), some (.int r1.1), some (.int r2.1), none] dL_law_3060 rfl rfl rfl ?_
    refine r_goto X 28 dL_law_3063 rfl ?_
    refine VW.msk [true, true, true, true, true, true, false, false, false] rfl (lo' := [some (.ref b0), some (.ref (k.b + (0))), some (.ref (k.b + (189))), some (.ref (k.b + (197))), some (.ref (k.b + (198))), some (.int (x5 + 6)), none, none, none]) rfl ?_
    exact VW.widen (c := n + 1) (s := n' + 6) (by omega) (by omega) kk
  · refine r_aload_n X (x := k.b + (197)) dL_law_848 rfl ?_
    refine r_iconst X (v := 0) dL_law_849 rfl ?_
    refine r_laload X (f := r1.2.2.2) _ a_m_ou (by decide) dL_law_850 ?_
    refine r_iload X (x := r2.1) dL_law_851 rfl ?_
    refine r_i2l X dL_law_853 ?_
    refine r_lcmp_eq X 860 dL_law_854 dL_law_855 rfl (fun c854 => ?_) (fun c854 => absurd (h4 c6) c854)
    refine r_goto X 3060 dL_law_860 rfl ?_
    refine r_iinc X (x := x5) (v := x5 + 6) [some (.ref b0), some (.ref (k.b + (0))), some (.ref (k.b + (189))), some (.ref (k.b + (197))), some (.ref (k.b + (198))), some (.int (x5 + 6)), some (.int r1.1), some (.int r2.1), none] dL_law_3060 rfl rfl rfl ?_
    refine r_goto X 28 dL_law_3063 rfl ?_
    refine VW.msk [true, true, true, true, true, true, false, false, false] rfl (lo' := [some (.ref b0), some (.ref (k.b + (0))), some (.ref (k.b + (189))), some (.ref (k.b + (197))), some (.ref (k.b + (198))), some (.int (x5 + 6)), none, none, none]) rfl ?_
    exact VW.widen (c := n + 1) (s := n' + 6) (by omega) (by omega) kk
set_option maxRecDepth 100000 in
set_option maxHeartbeats 4000000 in
theorem LT_12 {k : KT} {z : ZT} (X : XX k strs z RL cL_law 9 ret room_1) {b0 len : Nat} {xs : Nat → Int32} (hX : va_X b0 len xs (zS z) (zS z).heap) (hbl : b0 < (zS z).heap.size) (hbA : ¬ kA k b0) {T : TT} {R : RR} {ly : Fin 2 → LL} {rc : RC} {hn : HN} {rp : RP} {tp : TP} {ee : EE} {st : Fin 12 → SS} {w : Nat → Int64} {aside : Nat → Int64} {thought : Nat → Int64} {fresh : Nat → Int64} {mu : MU} {th : Int32} {mp : MP} {mf : MF} {mh : MH} {mg : MG} {ou : Nat → Int64} {od : Nat → UInt64} {n n' : Nat} (hnc : n + 1 ≤ 601024) (hns : n' + 6 ≤ 7293034) {x5 : Int32} (hlt : ¬ (Int32.ofNat len - 6 < x5)) (g0 : inb (x5) len = true) (g1 : inb (x5 + 1) len = true) (g2 : inb (x5 + 2) len = true) (g3 : inb (x5 + 3) len = true) (g4 : inb (x5 + 4) len = true) (g5 : inb (x5 + 5) len = true) (hc : xs (ix x5) &&& 63 = 12) {r1 : Int32 × (TP) × (Fin 12 → SS) × (Nat → Int64)} {r2 : Int32 × (Nat → Int64) × (Nat → Int64) × (MU) × (Int32)} (h1 : fL_setLeak (ly (0 : Fin 2)) tp st ou (xs (ix (x5 + 1))) (xs (ix (x5 + 2))) = some r1) (h2 : f10_setLeak w aside mu th (xs (ix (x5 + 1))) (xs (ix (x5 + 2))) = some r2) (h3 : r2.2.2.2.2 = r1.1) (h4 : r1.1 = 0 → r1.2.2.2 (ix 0) = r2.1.toInt64) (kk : VW k z (n + 1) (n' + 6) (wAll k T R ly rc hn rp r1.2.1 ee r1.2.2.1 r2.2.1 r2.2.2.1 thought fresh r2.2.2.2.1 r2.2.2.2.2 mp mf mh mg r1.2.2.2 od) 28 [some (.ref b0), some (.ref (k.b + (0))), some (.ref (k.b + (189))), some (.ref (k.b + (197))), some (.ref (k.b + (198))), some (.int (x5 + 6)), none, none, none] []) : VW k z n n' (wAll k T R ly rc hn rp tp ee st w aside thought fresh mu th mp mf mh mg ou od) 28 [some (.ref b0), some (.ref (k.b + (0))), some (.ref (k.b + (189))), some (.ref (k.b + (197))), some (.ref (k.b + (198))), some (.int x5), none, none, none] [] := by
  refine r_iload X (x := x5) dL_law_28 rfl ?_
  refine r_aload_n X (x := b0) dL_law_30 rfl ?_
  refine r_slen X hX hbl hbA dL_law_31 ?_
  refine r_bipush X (v := 6) dL_law_32 rfl ?_
  refine r_isub X dL_law_34 ?_
  refine r_icmp_gt X 3066 dL_law_35 rfl (fun c => absurd c hlt) (fun _ => ?_)
  refine r_aload_n X (x := b0) dL_law_38 rfl ?_
  refine r_iload X (x := x5) dL_law_39 rfl ?_
  refine r_sld X hX hbl hbA g0 dL_law_41 ?_
  refine r_bipush X (v := 63) dL_law_42 rfl ?_
  refine r_iand X dL_law_44 ?_
  refine r_tswIn X (off := 818) 863 dL_law_45 (by rw [hc]; decide) (by rw [hc]; decide) (by rw [hc]; rfl) rfl ?_
  refine r_aload_n X (x := k.b + (0)) dL_law_863 rfl ?_
  refine r_aload_n X (x := b0) dL_law_864 rfl ?_
  refine r_iload X (x := x5) dL_law_865 rfl ?_
  refine r_iconst X (v := 1) dL_law_867 rfl ?_
  refine r_iadd X dL_law_868 ?_
  refine r_sld X hX hbl hbA g1 dL_law_869 ?_
  refine r_aload_n X (x := b0) dL_law_870 rfl ?_
  refine r_iload X (x := x5) dL_law_871 rfl ?_
  refine r_iconst X (v := 2) dL_law_873 rfl ?_
  refine r_iadd X dL_law_874 ?_
  refine r_sld X hX hbl hbA g2 dL_law_875 ?_
  refine r_aload_n X (x := k.b + (197)) dL_law_876 rfl ?_
  refine r_callSW X [.ref (k.b + (0)), .int (xs (ix (x5 + 1))), .int (xs (ix (x5 + 2))), .ref (k.b + (197))] [] (KL_setLeak h1) lkL_setLeak ⟨(Nat.le_of_ble_eq_true rfl), (Nat.le_of_ble_eq_true rfl)⟩ rfl rfl (by show n + 1 ≤ 601024; omega) (by show n' + 6 ≤ 7293034; omega) rfl rfl (Nat.le_of_ble_eq_true rfl) rfl rfl dL_law_877 ?_
  refine r_istore X [some (.ref b0), some (.ref (k.b + (0))), some (.ref (k.b + (189))), some (.ref (k.b + (197))), some (.ref (k.b + (198))), some (.int x5), some (.int r1.1), none, none] dL_law_880 (Nat.le_of_ble_eq_true rfl) rfl ?_
  refine r_aload_n X (x := k.b + (189)) dL_law_882 rfl ?_
  refine r_aload_n X (x := b0) dL_law_883 rfl ?_
  refine r_iload X (x := x5) dL_law_884 rfl ?_
  refine r_iconst X (v := 1) dL_law_886 rfl ?_
  refine r_iadd X dL_law_887 ?_
  refine r_sld X hX hbl hbA g1 dL_law_888 ?_
  refine r_aload_n X (x := b0) dL_law_889 rfl ?_
  refine r_iload X (x := x5) dL_law_890 rfl ?_
  refine r_iconst X (v := 2) dL_law_892 rfl ?_
  refine r_iadd X dL_law_893 ?_
  refine r_sld X hX hbl hbA g2 dL_law_894 ?_
  refine r_callV X [.int (xs (ix (x5 + 1))), .int (xs (ix (x5 + 2)))] [] (K10_setLeak h2) lkL_207 clsX10 rfl _ o_model ⟨(Nat.le_of_ble_eq_true rfl), (Nat.le_of_ble_eq_true rfl)⟩ rfl rfl (by show n + 1 + 0 ≤ 601024; omega) (by show n' + 6 + 0 ≤ 7293034; omega) rfl rfl (Nat.le_of_ble_eq_true rfl) rfl rfl dL_law_895 ?_
  refine r_istore X [some (.ref b0), some (.ref (k.b + (0))), some (.ref (k.b + (189))), some (.ref (k.b + (197))), some (.ref (k.b + (198))), some (.int x5), some (.int r1.1), some (.int r2.1), none] dL_law_898 (Nat.le_of_ble_eq_true rfl) rfl ?_
  refine r_aload_n X (x := k.b + (189)) dL_law_900 rfl ?_
  refine r_callV X [] [] (K10_thrown (r := r2.2.2.2.2) rfl) lkL_164 clsX10 rfl _ o_model ⟨(Nat.le_of_ble_eq_true rfl), (Nat.le_of_ble_eq_true rfl)⟩ rfl rfl (by show n + 1 + 0 ≤ 601024; omega) (by show n' + 6 + 0 ≤ 7293034; omega) rfl rfl (Nat.le_of_ble_eq_true rfl) rfl rfl dL_law_901 ?_
  refine r_iload X (x := r1.1) dL_law_904 rfl ?_
  refine r_icmp_eq X 911 dL_law_906 rfl (fun c906 => ?_) (fun c906 => absurd h3 c906)
  refine r_iload X (x := r1.1) dL_law_911 rfl ?_
  refine r_if_ne X 928 dL_law_913 rfl (fun c6 => ?_) (fun c6 => ?_)
  · refine r_goto X 3060 dL_law_928 rfl ?_
    refine r_iinc X (x := x5) (v := x5 + 6) [some (.ref b0), some (.ref (k.b + (0))), some (.ref (k.b + (189))), some (.ref (k.b + (197))), some (.ref (k.b + (198))), some (.int (x5 + 6)), some (.int r1.1), some (.int r2.1), none] dL_law_3060 rfl rfl rfl ?_
    refine r_goto X 28 dL_law_3063 rfl ?_
    refine VW.msk [true, true, true, true, true, true, false, false, false] rfl (lo' := [some (.ref b0), some (.ref (k.b + (0))), some (.ref (k.b + (189))), some (.ref (k.b + (197))), some (.ref (k.b + (198))), some (.int (x5 + 6)), none, none, none]) rfl ?_
    exact VW.widen (c := n + 1) (s := n' + 6) (by omega) (by omega) kk
  · refine r_aload_n X (x := k.b + (197)) dL_law_916 rfl ?_
    refine r_iconst X (v := 0) dL_law_917 rfl ?_
    refine r_laload X (f := r1.2.2.2) _ a_m_ou (by decide) dL_law_918 ?_
    refine r_iload X (x := r2.1) dL_law_919 rfl ?_
    refine r_i2l X dL_law_921 ?_
    refine r_lcmp_eq X 928 dL_law_922 dL_law_923 rfl (fun c922 => ?_) (fun c922 => absurd (h4 c6) c922)
    refine r_goto X 3060 dL_law_928 rfl ?_
    refine r_iinc X (x := x5) (v := x5 + 6) [some (.ref b0), some (.ref (k.b + (0))), some (.ref (k.b + (189))), some (.ref (k.b + (197))), some (.ref (k.b + (198))), some (.int (x5 + 6)), some (.int r1.1), some (.int r2.1), none] dL_law_3060 rfl rfl rfl ?_
    refine r_goto X 28 dL_law_3063 rfl ?_
    refine VW.msk [true, true, true, true, true, true, false, false, false] rfl (lo' := [some (.ref b0), some (.ref (k.b + (0))), some (.ref (k.b + (189))), some (.ref (k.b + (197))), some (.ref (k.b + (198))), some (.int (x5 + 6)), none, none, none]) rfl ?_
    exact VW.widen (c := n + 1) (s := n' + 6) (by omega) (by omega) kk
set_option maxRecDepth 100000 in
set_option maxHeartbeats 4000000 in
theorem LT_13 {k : KT} {z : ZT} (X : XX k strs z RL cL_law 9 ret room_1) {b0 len : Nat} {xs : Nat → Int32} (hX : va_X b0 len xs (zS z) (zS z).heap) (hbl : b0 < (zS z).heap.size) (hbA : ¬ kA k b0) {T : TT} {R : RR} {ly : Fin 2 → LL} {rc : RC} {hn : HN} {rp : RP} {tp : TP} {ee : EE} {st : Fin 12 → SS} {w : Nat → Int64} {aside : Nat → Int64} {thought : Nat → Int64} {fresh : Nat → Int64} {mu : MU} {th : Int32} {mp : MP} {mf : MF} {mh : MH} {mg : MG} {ou : Nat → Int64} {od : Nat → UInt64} {n n' : Nat} (hnc : n + 1 ≤ 601024) (hns : n' + 6 ≤ 7293034) {x5 : Int32} (hlt : ¬ (Int32.ofNat len - 6 < x5)) (g0 : inb (x5) len = true) (g1 : inb (x5 + 1) len = true) (g2 : inb (x5 + 2) len = true) (g3 : inb (x5 + 3) len = true) (g4 : inb (x5 + 4) len = true) (g5 : inb (x5 + 5) len = true) (hc : xs (ix x5) &&& 63 = 13) {r1 : Int32 × (TP) × (Fin 12 → SS) × (Nat → Int64)} {r2 : Int32 × (Nat → Int64) × (Nat → Int64) × (MU) × (Int32)} (h1 : fL_setOutgassing (ly (0 : Fin 2)) tp st ou (xs (ix (x5 + 1))) (xs (ix (x5 + 2))) = some r1) (h2 : f10_setOutgassing w aside mu th (xs (ix (x5 + 1))) (xs (ix (x5 + 2))) = some r2) (h3 : r2.2.2.2.2 = r1.1) (h4 : r1.1 = 0 → r1.2.2.2 (ix 0) = r2.1.toInt64) (kk : VW k z (n + 1) (n' + 6) (wAll k T R ly rc hn rp r1.2.1 ee r1.2.2.1 r2.2.1 r2.2.2.1 thought fresh r2.2.2.2.1 r2.2.2.2.2 mp mf mh mg r1.2.2.2 od) 28 [some (.ref b0), some (.ref (k.b + (0))), some (.ref (k.b + (189))), some (.ref (k.b + (197))), some (.ref (k.b + (198))), some (.int (x5 + 6)), none, none, none] []) : VW k z n n' (wAll k T R ly rc hn rp tp ee st w aside thought fresh mu th mp mf mh mg ou od) 28 [some (.ref b0), some (.ref (k.b + (0))), some (.ref (k.b + (189))), some (.ref (k.b + (197))), some (.ref (k.b + (198))), some (.int x5), none, none, none] [] := by
  refine r_iload X (x := x5) dL_law_28 rfl ?_
  refine r_aload_n X (x := b0) dL_law_30 rfl ?_
  refine r_slen X hX hbl hbA dL_law_31 ?_
  refine r_bipush X (v := 6) dL_law_32 rfl ?_
  refine r_isub X dL_law_34 ?_
  refine r_icmp_gt X 3066 dL_law_35 rfl (fun c => absurd c hlt) (fun _ => ?_)
  refine r_aload_n X (x := b0) dL_law_38 rfl ?_
  refine r_iload X (x := x5) dL_law_39 rfl ?_
  refine r_sld X hX hbl hbA g0 dL_law_41 ?_
  refine r_bipush X (v := 63) dL_law_42 rfl ?_
  refine r_iand X dL_law_44 ?_
  refine r_tswIn X (off := 886) 931 dL_law_45 (by rw [hc]; decide) (by rw [hc]; decide) (by rw [hc]; rfl) rfl ?_
  refine r_aload_n X (x := k.b + (0)) dL_law_931 rfl ?_
  refine r_aload_n X (x := b0) dL_law_932 rfl ?_
  refine r_iload X (x := x5) dL_law_933 rfl ?_
  refine r_iconst X (v := 1) dL_law_935 rfl ?_
  refine r_iadd X dL_law_936 ?_
  refine r_sld X hX hbl hbA g1 dL_law_937 ?_
  refine r_aload_n X (x := b0) dL_law_938 rfl ?_
  refine r_iload X (x := x5) dL_law_939 rfl ?_
  refine r_iconst X (v := 2) dL_law_941 rfl ?_
  refine r_iadd X dL_law_942 ?_
  refine r_sld X hX hbl hbA g2 dL_law_943 ?_
  refine r_aload_n X (x := k.b + (197)) dL_law_944 rfl ?_
  refine r_callSW X [.ref (k.b + (0)), .int (xs (ix (x5 + 1))), .int (xs (ix (x5 + 2))), .ref (k.b + (197))] [] (KL_setOutgassing h1) lkL_setOutgassing ⟨(Nat.le_of_ble_eq_true rfl), (Nat.le_of_ble_eq_true rfl)⟩ rfl rfl (by show n + 1 ≤ 601024; omega) (by show n' + 6 ≤ 7293034; omega) rfl rfl (Nat.le_of_ble_eq_true rfl) rfl rfl dL_law_945 ?_
  refine r_istore X [some (.ref b0), some (.ref (k.b + (0))), some (.ref (k.b + (189))), some (.ref (k.b + (197))), some (.ref (k.b + (198))), some (.int x5), some (.int r1.1), none, none] dL_law_948 (Nat.le_of_ble_eq_true rfl) rfl ?_
  refine r_aload_n X (x := k.b + (189)) dL_law_950 rfl ?_
  refine r_aload_n X (x := b0) dL_law_951 rfl ?_
  refine r_iload X (x := x5) dL_law_952 rfl ?_
  refine r_iconst X (v := 1) dL_law_954 rfl ?_
  refine r_iadd X dL_law_955 ?_
  refine r_sld X hX hbl hbA g1 dL_law_956 ?_
  refine r_aload_n X (x := b0) dL_law_957 rfl ?_
  refine r_iload X (x := x5) dL_law_958 rfl ?_
  refine r_iconst X (v := 2) dL_law_960 rfl ?_
  refine r_iadd X dL_law_961 ?_
  refine r_sld X hX hbl hbA g2 dL_law_962 ?_
  refine r_callV X [.int (xs (ix (x5 + 1))), .int (xs (ix (x5 + 2)))] [] (K10_setOutgassing h2) lkL_210 clsX10 rfl _ o_model ⟨(Nat.le_of_ble_eq_true rfl), (Nat.le_of_ble_eq_true rfl)⟩ rfl rfl (by show n + 1 + 0 ≤ 601024; omega) (by show n' + 6 + 0 ≤ 7293034; omega) rfl rfl (Nat.le_of_ble_eq_true rfl) rfl rfl dL_law_963 ?_
  refine r_istore X [some (.ref b0), some (.ref (k.b + (0))), some (.ref (k.b + (189))), some (.ref (k.b + (197))), some (.ref (k.b + (198))), some (.int x5), some (.int r1.1), some (.int r2.1), none] dL_law_966 (Nat.le_of_ble_eq_true rfl) rfl ?_
  refine r_aload_n X (x := k.b + (189)) dL_law_968 rfl ?_
  refine r_callV X [] [] (K10_thrown (r := r2.2.2.2.2) rfl) lkL_164 clsX10 rfl _ o_model ⟨(Nat.le_of_ble_eq_true rfl), (Nat.le_of_ble_eq_true rfl)⟩ rfl rfl (by show n + 1 + 0 ≤ 601024; omega) (by show n' + 6 + 0 ≤ 7293034; omega) rfl rfl (Nat.le_of_ble_eq_true rfl) rfl rfl dL_law_969 ?_
  refine r_iload X (x := r1.1) dL_law_972 rfl ?_
  refine r_icmp_eq X 979 dL_law_974 rfl (fun c974 => ?_) (fun c974 => absurd h3 c974)
  refine r_iload X (x := r1.1) dL_law_979 rfl ?_
  refine r_if_ne X 996 dL_law_981 rfl (fun c6 => ?_) (fun c6 => ?_)
  · refine r_goto X 3060 dL_law_996 rfl ?_
    refine r_iinc X (x := x5) (v := x5 + 6) [some (.ref b0), some (.ref (k.b + (0))), some (.ref (k.b + (189))), some (.ref (k.b + (197))), some (.ref (k.b + (198))), some (.int (x5 + 6)), some (.int r1.1), some (.int r2.1), none] dL_law_3060 rfl rfl rfl ?_
    refine r_goto X 28 dL_law_3063 rfl ?_
    refine VW.msk [true, true, true, true, true, true, false, false, false] rfl (lo' := [some (.ref b0), some (.ref (k.b + (0))), some (.ref (k.b + (189))), some (.ref (k.b + (197))), some (.ref (k.b + (198))), some (.int (x5 + 6)), none, none, none]) rfl ?_
    exact VW.widen (c := n + 1) (s := n' + 6) (by omega) (by omega) kk
  · refine r_aload_n X (x := k.b + (197)) dL_law_984 rfl ?_
    refine r_iconst X (v := 0) dL_law_985 rfl ?_
    refine r_laload X (f := r1.2.2.2) _ a_m_ou (by decide) dL_law_986 ?_
    refine r_iload X (x := r2.1) dL_law_987 rfl ?_
    refine r_i2l X dL_law_989 ?_
    refine r_lcmp_eq X 996 dL_law_990 dL_law_991 rfl (fun c990 => ?_) (fun c990 => absurd (h4 c6) c990)
    refine r_goto X 3060 dL_law_996 rfl ?_
    refine r_iinc X (x := x5) (v := x5 + 6) [some (.ref b0), some (.ref (k.b + (0))), some (.ref (k.b + (189))), some (.ref (k.b + (197))), some (.ref (k.b + (198))), some (.int (x5 + 6)), some (.int r1.1), some (.int r2.1), none] dL_law_3060 rfl rfl rfl ?_
    refine r_goto X 28 dL_law_3063 rfl ?_
    refine VW.msk [true, true, true, true, true, true, false, false, false] rfl (lo' := [some (.ref b0), some (.ref (k.b + (0))), some (.ref (k.b + (189))), some (.ref (k.b + (197))), some (.ref (k.b + (198))), some (.int (x5 + 6)), none, none, none]) rfl ?_
    exact VW.widen (c := n + 1) (s := n' + 6) (by omega) (by omega) kk
set_option maxRecDepth 100000 in
set_option maxHeartbeats 4000000 in
theorem LT_14 {k : KT} {z : ZT} (X : XX k strs z RL cL_law 9 ret room_1) {b0 len : Nat} {xs : Nat → Int32} (hX : va_X b0 len xs (zS z) (zS z).heap) (hbl : b0 < (zS z).heap.size) (hbA : ¬ kA k b0) {T : TT} {R : RR} {ly : Fin 2 → LL} {rc : RC} {hn : HN} {rp : RP} {tp : TP} {ee : EE} {st : Fin 12 → SS} {w : Nat → Int64} {aside : Nat → Int64} {thought : Nat → Int64} {fresh : Nat → Int64} {mu : MU} {th : Int32} {mp : MP} {mf : MF} {mh : MH} {mg : MG} {ou : Nat → Int64} {od : Nat → UInt64} {n n' : Nat} (hnc : n + 1 ≤ 601024) (hns : n' + 6 ≤ 7293034) {x5 : Int32} (hlt : ¬ (Int32.ofNat len - 6 < x5)) (g0 : inb (x5) len = true) (g1 : inb (x5 + 1) len = true) (g2 : inb (x5 + 2) len = true) (g3 : inb (x5 + 3) len = true) (g4 : inb (x5 + 4) len = true) (g5 : inb (x5 + 5) len = true) (hc : xs (ix x5) &&& 63 = 14) {r1 : Int32 × (TP) × (Fin 12 → SS) × (Nat → Int64)} {r2 : Int32 × (Nat → Int64) × (Nat → Int64) × (MU) × (Int32)} (h1 : fL_setRule (ly (0 : Fin 2)) tp st ou (xs (ix (x5 + 1))) (xs (ix (x5 + 2))) = some r1) (h2 : f10_setRule w aside mu th (xs (ix (x5 + 1))) (xs (ix (x5 + 2))) = some r2) (h3 : r2.2.2.2.2 = r1.1) (h4 : r1.1 = 0 → r1.2.2.2 (ix 0) = r2.1.toInt64) (kk : VW k z (n + 1) (n' + 6) (wAll k T R ly rc hn rp r1.2.1 ee r1.2.2.1 r2.2.1 r2.2.2.1 thought fresh r2.2.2.2.1 r2.2.2.2.2 mp mf mh mg r1.2.2.2 od) 28 [some (.ref b0), some (.ref (k.b + (0))), some (.ref (k.b + (189))), some (.ref (k.b + (197))), some (.ref (k.b + (198))), some (.int (x5 + 6)), none, none, none] []) : VW k z n n' (wAll k T R ly rc hn rp tp ee st w aside thought fresh mu th mp mf mh mg ou od) 28 [some (.ref b0), some (.ref (k.b + (0))), some (.ref (k.b + (189))), some (.ref (k.b + (197))), some (.ref (k.b + (198))), some (.int x5), none, none, none] [] := by
  refine r_iload X (x := x5) dL_law_28 rfl ?_
  refine r_aload_n X (x := b0) dL_law_30 rfl ?_
  refine r_slen X hX hbl hbA dL_law_31 ?_
  refine r_bipush X (v := 6) dL_law_32 rfl ?_
  refine r_isub X dL_law_34 ?_
  refine r_icmp_gt X 3066 dL_law_35 rfl (fun c => absurd c hlt) (fun _ => ?_)
  refine r_aload_n X (x := b0) dL_law_38 rfl ?_
  refine r_iload X (x := x5) dL_law_39 rfl ?_
  refine r_sld X hX hbl hbA g0 dL_law_41 ?_
  refine r_bipush X (v := 63) dL_law_42 rfl ?_
  refine r_iand X dL_law_44 ?_
  refine r_tswIn X (off := 954) 999 dL_law_45 (by rw [hc]; decide) (by rw [hc]; decide) (by rw [hc]; rfl) rfl ?_
  refine r_aload_n X (x := k.b + (0)) dL_law_999 rfl ?_
  refine r_aload_n X (x := b0) dL_law_1000 rfl ?_
  refine r_iload X (x := x5) dL_law_1001 rfl ?_
  refine r_iconst X (v := 1) dL_law_1003 rfl ?_
  refine r_iadd X dL_law_1004 ?_
  refine r_sld X hX hbl hbA g1 dL_law_1005 ?_
  refine r_aload_n X (x := b0) dL_law_1006 rfl ?_
  refine r_iload X (x := x5) dL_law_1007 rfl ?_
  refine r_iconst X (v := 2) dL_law_1009 rfl ?_
  refine r_iadd X dL_law_1010 ?_
  refine r_sld X hX hbl hbA g2 dL_law_1011 ?_
  refine r_aload_n X (x := k.b + (197)) dL_law_1012 rfl ?_
  refine r_callSW X [.ref (k.b + (0)), .int (xs (ix (x5 + 1))), .int (xs (ix (x5 + 2))), .ref (k.b + (197))] [] (KL_setRule h1) lkL_setRule ⟨(Nat.le_of_ble_eq_true rfl), (Nat.le_of_ble_eq_true rfl)⟩ rfl rfl (by show n + 1 ≤ 601024; omega) (by show n' + 6 ≤ 7293034; omega) rfl rfl (Nat.le_of_ble_eq_true rfl) rfl rfl dL_law_1013 ?_
  refine r_istore X [some (.ref b0), some (.ref (k.b + (0))), some (.ref (k.b + (189))), some (.ref (k.b + (197))), some (.ref (k.b + (198))), some (.int x5), some (.int r1.1), none, none] dL_law_1016 (Nat.le_of_ble_eq_true rfl) rfl ?_
  refine r_aload_n X (x := k.b + (189)) dL_law_1018 rfl ?_
  refine r_aload_n X (x := b0) dL_law_1019 rfl ?_
  refine r_iload X (x := x5) dL_law_1020 rfl ?_
  refine r_iconst X (v := 1) dL_law_1022 rfl ?_
  refine r_iadd X dL_law_1023 ?_
  refine r_sld X hX hbl hbA g1 dL_law_1024 ?_
  refine r_aload_n X (x := b0) dL_law_1025 rfl ?_
  refine r_iload X (x := x5) dL_law_1026 rfl ?_
  refine r_iconst X (v := 2) dL_law_1028 rfl ?_
  refine r_iadd X dL_law_1029 ?_
  refine r_sld X hX hbl hbA g2 dL_law_1030 ?_
  refine r_callV X [.int (xs (ix (x5 + 1))), .int (xs (ix (x5 + 2)))] [] (K10_setRule h2) lkL_213 clsX10 rfl _ o_model ⟨(Nat.le_of_ble_eq_true rfl), (Nat.le_of_ble_eq_true rfl)⟩ rfl rfl (by show n + 1 + 0 ≤ 601024; omega) (by show n' + 6 + 0 ≤ 7293034; omega) rfl rfl (Nat.le_of_ble_eq_true rfl) rfl rfl dL_law_1031 ?_
  refine r_istore X [some (.ref b0), some (.ref (k.b + (0))), some (.ref (k.b + (189))), some (.ref (k.b + (197))), some (.ref (k.b + (198))), some (.int x5), some (.int r1.1), some (.int r2.1), none] dL_law_1034 (Nat.le_of_ble_eq_true rfl) rfl ?_
  refine r_aload_n X (x := k.b + (189)) dL_law_1036 rfl ?_
  refine r_callV X [] [] (K10_thrown (r := r2.2.2.2.2) rfl) lkL_164 clsX10 rfl _ o_model ⟨(Nat.le_of_ble_eq_true rfl), (Nat.le_of_ble_eq_true rfl)⟩ rfl rfl (by show n + 1 + 0 ≤ 601024; omega) (by show n' + 6 + 0 ≤ 7293034; omega) rfl rfl (Nat.le_of_ble_eq_true rfl) rfl rfl dL_law_1037 ?_
  refine r_iload X (x := r1.1) dL_law_1040 rfl ?_
  refine r_icmp_eq X 1047 dL_law_1042 rfl (fun c1042 => ?_) (fun c1042 => absurd h3 c1042)
  refine r_iload X (x := r1.1) dL_law_1047 rfl ?_
  refine r_if_ne X 1064 dL_law_1049 rfl (fun c6 => ?_) (fun c6 => ?_)
  · refine r_goto X 3060 dL_law_1064 rfl ?_
    refine r_iinc X (x := x5) (v := x5 + 6) [some (.ref b0), some (.ref (k.b + (0))), some (.ref (k.b + (189))), some (.ref (k.b + (197))), some (.ref (k.b + (198))), some (.int (x5 + 6)), some (.int r1.1), some (.int r2.1), none] dL_law_3060 rfl rfl rfl ?_
    refine r_goto X 28 dL_law_3063 rfl ?_
    refine VW.msk [true, true, true, true, true, true, false, false, false] rfl (lo' := [some (.ref b0), some (.ref (k.b + (0))), some (.ref (k.b + (189))), some (.ref (k.b + (197))), some (.ref (k.b + (198))), some (.int (x5 + 6)), none, none, none]) rfl ?_
    exact VW.widen (c := n + 1) (s := n' + 6) (by omega) (by omega) kk
  · refine r_aload_n X (x := k.b + (197)) dL_law_1052 rfl ?_
    refine r_iconst X (v := 0) dL_law_1053 rfl ?_
    refine r_laload X (f := r1.2.2.2) _ a_m_ou (by decide) dL_law_1054 ?_
    refine r_iload X (x := r2.1) dL_law_1055 rfl ?_
    refine r_i2l X dL_law_1057 ?_
    refine r_lcmp_eq X 1064 dL_law_1058 dL_law_1059 rfl (fun c1058 => ?_) (fun c1058 => absurd (h4 c6) c1058)
    refine r_goto X 3060 dL_law_1064 rfl ?_
    refine r_iinc X (x := x5) (v := x5 + 6) [some (.ref b0), some (.ref (k.b + (0))), some (.ref (k.b + (189))), some (.ref (k.b + (197))), some (.ref (k.b + (198))), some (.int (x5 + 6)), some (.int r1.1), some (.int r2.1), none] dL_law_3060 rfl rfl rfl ?_
    refine r_goto X 28 dL_law_3063 rfl ?_
    refine VW.msk [true, true, true, true, true, true, false, false, false] rfl (lo' := [some (.ref b0), some (.ref (k.b + (0))), some (.ref (k.b + (189))), some (.ref (k.b + (197))), some (.ref (k.b + (198))), some (.int (x5 + 6)), none, none, none]) rfl ?_
    exact VW.widen (c := n + 1) (s := n' + 6) (by omega) (by omega) kk
set_option maxRecDepth 100000 in
set_option maxHeartbeats 4000000 in
theorem LT_15 {k : KT} {z : ZT} (X : XX k strs z RL cL_law 9 ret room_1) {b0 len : Nat} {xs : Nat → Int32} (hX : va_X b0 len xs (zS z) (zS z).heap) (hbl : b0 < (zS z).heap.size) (hbA : ¬ kA k b0) {T : TT} {R : RR} {ly : Fin 2 → LL} {rc : RC} {hn : HN} {rp : RP} {tp : TP} {ee : EE} {st : Fin 12 → SS} {w : Nat → Int64} {aside : Nat → Int64} {thought : Nat → Int64} {fresh : Nat → Int64} {mu : MU} {th : Int32} {mp : MP} {mf : MF} {mh : MH} {mg : MG} {ou : Nat → Int64} {od : Nat → UInt64} {n n' : Nat} (hnc : n + 1 ≤ 601024) (hns : n' + 6 ≤ 7293034) {x5 : Int32} (hlt : ¬ (Int32.ofNat len - 6 < x5)) (g0 : inb (x5) len = true) (g1 : inb (x5 + 1) len = true) (g2 : inb (x5 + 2) len = true) (g3 : inb (x5 + 3) len = true) (g4 : inb (x5 + 4) len = true) (g5 : inb (x5 + 5) len = true) (hc : xs (ix x5) &&& 63 = 15) {r1 : Int32 × (TP) × (Fin 12 → SS) × (Nat → Int64)} {r2 : Int32 × (Nat → Int64) × (Nat → Int64) × (MU) × (Int32)} (h1 : fL_test (ly (0 : Fin 2)) tp st ou (xs (ix (x5 + 1))) (xs (ix (x5 + 2))) = some r1) (h2 : f10_test w aside mu th (xs (ix (x5 + 1))) (xs (ix (x5 + 2))) = some r2) (h3 : r2.2.2.2.2 = r1.1) (h4 : r1.1 = 0 → r1.2.2.2 (ix 0) = r2.1.toInt64) (kk : VW k z (n + 1) (n' + 6) (wAll k T R ly rc hn rp r1.2.1 ee r1.2.2.1 r2.2.1 r2.2.2.1 thought fresh r2.2.2.2.1 r2.2.2.2.2 mp mf mh mg r1.2.2.2 od) 28 [some (.ref b0), some (.ref (k.b + (0))), some (.ref (k.b + (189))), some (.ref (k.b + (197))), some (.ref (k.b + (198))), some (.int (x5 + 6)), none, none, none] []) : VW k z n n' (wAll k T R ly rc hn rp tp ee st w aside thought fresh mu th mp mf mh mg ou od) 28 [some (.ref b0), some (.ref (k.b + (0))), some (.ref (k.b + (189))), some (.ref (k.b + (197))), some (.ref (k.b + (198))), some (.int x5), none, none, none] [] := by
  refine r_iload X (x := x5) dL_law_28 rfl ?_
  refine r_aload_n X (x := b0) dL_law_30 rfl ?_
  refine r_slen X hX hbl hbA dL_law_31 ?_
  refine r_bipush X (v := 6) dL_law_32 rfl ?_
  refine r_isub X dL_law_34 ?_
  refine r_icmp_gt X 3066 dL_law_35 rfl (fun c => absurd c hlt) (fun _ => ?_)
  refine r_aload_n X (x := b0) dL_law_38 rfl ?_
  refine r_iload X (x := x5) dL_law_39 rfl ?_
  refine r_sld X hX hbl hbA g0 dL_law_41 ?_
  refine r_bipush X (v := 63) dL_law_42 rfl ?_
  refine r_iand X dL_law_44 ?_
  refine r_tswIn X (off := 1022) 1067 dL_law_45 (by rw [hc]; decide) (by rw [hc]; decide) (by rw [hc]; rfl) rfl ?_
  refine r_aload_n X (x := k.b + (0)) dL_law_1067 rfl ?_
  refine r_aload_n X (x := b0) dL_law_1068 rfl ?_
  refine r_iload X (x := x5) dL_law_1069 rfl ?_
  refine r_iconst X (v := 1) dL_law_1071 rfl ?_
  refine r_iadd X dL_law_1072 ?_
  refine r_sld X hX hbl hbA g1 dL_law_1073 ?_
  refine r_aload_n X (x := b0) dL_law_1074 rfl ?_
  refine r_iload X (x := x5) dL_law_1075 rfl ?_
  refine r_iconst X (v := 2) dL_law_1077 rfl ?_
  refine r_iadd X dL_law_1078 ?_
  refine r_sld X hX hbl hbA g2 dL_law_1079 ?_
  refine r_aload_n X (x := k.b + (197)) dL_law_1080 rfl ?_
  refine r_callSW X [.ref (k.b + (0)), .int (xs (ix (x5 + 1))), .int (xs (ix (x5 + 2))), .ref (k.b + (197))] [] (KL_test h1) lkL_test ⟨(Nat.le_of_ble_eq_true rfl), (Nat.le_of_ble_eq_true rfl)⟩ rfl rfl (by show n + 1 ≤ 601024; omega) (by show n' + 6 ≤ 7293034; omega) rfl rfl (Nat.le_of_ble_eq_true rfl) rfl rfl dL_law_1081 ?_
  refine r_istore X [some (.ref b0), some (.ref (k.b + (0))), some (.ref (k.b + (189))), some (.ref (k.b + (197))), some (.ref (k.b + (198))), some (.int x5), some (.int r1.1), none, none] dL_law_1084 (Nat.le_of_ble_eq_true rfl) rfl ?_
  refine r_aload_n X (x := k.b + (189)) dL_law_1086 rfl ?_
  refine r_aload_n X (x := b0) dL_law_1087 rfl ?_
  refine r_iload X (x := x5) dL_law_1088 rfl ?_
  refine r_iconst X (v := 1) dL_law_1090 rfl ?_
  refine r_iadd X dL_law_1091 ?_
  refine r_sld X hX hbl hbA g1 dL_law_1092 ?_
  refine r_aload_n X (x := b0) dL_law_1093 rfl ?_
  refine r_iload X (x := x5) dL_law_1094 rfl ?_
  refine r_iconst X (v := 2) dL_law_1096 rfl ?_
  refine r_iadd X dL_law_1097 ?_
  refine r_sld X hX hbl hbA g2 dL_law_1098 ?_
  refine r_callV X [.int (xs (ix (x5 + 1))), .int (xs (ix (x5 + 2)))] [] (K10_test h2) lkL_216 clsX10 rfl _ o_model ⟨(Nat.le_of_ble_eq_true rfl), (Nat.le_of_ble_eq_true rfl)⟩ rfl rfl (by show n + 1 + 0 ≤ 601024; omega) (by show n' + 6 + 0 ≤ 7293034; omega) rfl rfl (Nat.le_of_ble_eq_true rfl) rfl rfl dL_law_1099 ?_
  refine r_istore X [some (.ref b0), some (.ref (k.b + (0))), some (.ref (k.b + (189))), some (.ref (k.b + (197))), some (.ref (k.b + (198))), some (.int x5), some (.int r1.1), some (.int r2.1), none] dL_law_1102 (Nat.le_of_ble_eq_true rfl) rfl ?_
  refine r_aload_n X (x := k.b + (189)) dL_law_1104 rfl ?_
  refine r_callV X [] [] (K10_thrown (r := r2.2.2.2.2) rfl) lkL_164 clsX10 rfl _ o_model ⟨(Nat.le_of_ble_eq_true rfl), (Nat.le_of_ble_eq_true rfl)⟩ rfl rfl (by show n + 1 + 0 ≤ 601024; omega) (by show n' + 6 + 0 ≤ 7293034; omega) rfl rfl (Nat.le_of_ble_eq_true rfl) rfl rfl dL_law_1105 ?_
  refine r_iload X (x := r1.1) dL_law_1108 rfl ?_
  refine r_icmp_eq X 1115 dL_law_1110 rfl (fun c1110 => ?_) (fun c1110 => absurd h3 c1110)
  refine r_iload X (x := r1.1) dL_law_1115 rfl ?_
  refine r_if_ne X 1132 dL_law_1117 rfl (fun c6 => ?_) (fun c6 => ?_)
  · refine r_goto X 3060 dL_law_1132 rfl ?_
    refine r_iinc X (x := x5) (v := x5 + 6) [some (.ref b0), some (.ref (k.b + (0))), some (.ref (k.b + (189))), some (.ref (k.b + (197))), some (.ref (k.b + (198))), some (.int (x5 + 6)), some (.int r1.1), some (.int r2.1), none] dL_law_3060 rfl rfl rfl ?_
    refine r_goto X 28 dL_law_3063 rfl ?_
    refine VW.msk [true, true, true, true, true, true, false, false, false] rfl (lo' := [some (.ref b0), some (.ref (k.b + (0))), some (.ref (k.b + (189))), some (.ref (k.b + (197))), some (.ref (k.b + (198))), some (.int (x5 + 6)), none, none, none]) rfl ?_
    exact VW.widen (c := n + 1) (s := n' + 6) (by omega) (by omega) kk
  · refine r_aload_n X (x := k.b + (197)) dL_law_1120 rfl ?_
    refine r_iconst X (v := 0) dL_law_1121 rfl ?_
    refine r_laload X (f := r1.2.2.2) _ a_m_ou (by decide) dL_law_1122 ?_
    refine r_iload X (x := r2.1) dL_law_1123 rfl ?_
    refine r_i2l X dL_law_1125 ?_
    refine r_lcmp_eq X 1132 dL_law_1126 dL_law_1127 rfl (fun c1126 => ?_) (fun c1126 => absurd (h4 c6) c1126)
    refine r_goto X 3060 dL_law_1132 rfl ?_
    refine r_iinc X (x := x5) (v := x5 + 6) [some (.ref b0), some (.ref (k.b + (0))), some (.ref (k.b + (189))), some (.ref (k.b + (197))), some (.ref (k.b + (198))), some (.int (x5 + 6)), some (.int r1.1), some (.int r2.1), none] dL_law_3060 rfl rfl rfl ?_
    refine r_goto X 28 dL_law_3063 rfl ?_
    refine VW.msk [true, true, true, true, true, true, false, false, false] rfl (lo' := [some (.ref b0), some (.ref (k.b + (0))), some (.ref (k.b + (189))), some (.ref (k.b + (197))), some (.ref (k.b + (198))), some (.int (x5 + 6)), none, none, none]) rfl ?_
    exact VW.widen (c := n + 1) (s := n' + 6) (by omega) (by omega) kk
set_option maxRecDepth 100000 in
set_option maxHeartbeats 4000000 in
theorem LT_16 {k : KT} {z : ZT} (X : XX k strs z RL cL_law 9 ret room_1) {b0 len : Nat} {xs : Nat → Int32} (hX : va_X b0 len xs (zS z) (zS z).heap) (hbl : b0 < (zS z).heap.size) (hbA : ¬ kA k b0) {T : TT} {R : RR} {ly : Fin 2 → LL} {rc : RC} {hn : HN} {rp : RP} {tp : TP} {ee : EE} {st : Fin 12 → SS} {w : Nat → Int64} {aside : Nat → Int64} {thought : Nat → Int64} {fresh : Nat → Int64} {mu : MU} {th : Int32} {mp : MP} {mf : MF} {mh : MH} {mg : MG} {ou : Nat → Int64} {od : Nat → UInt64} {n n' : Nat} (hnc : n + 1 ≤ 601024) (hns : n' + 6 ≤ 7293034) {x5 : Int32} (hlt : ¬ (Int32.ofNat len - 6 < x5)) (g0 : inb (x5) len = true) (g1 : inb (x5 + 1) len = true) (g2 : inb (x5 + 2) len = true) (g3 : inb (x5 + 3) len = true) (g4 : inb (x5 + 4) len = true) (g5 : inb (x5 + 5) len = true) (hc : xs (ix x5) &&& 63 = 16) {r1 : Int32 × (TT) × (RR) × (RC) × (TP) × (Fin 12 → SS)} {r2 : Int32 × (Nat → Int64) × (Nat → Int64) × (MU) × (Int32) × (MP) × (MF)} (h1 : f9_runRecipe (ly (0 : Fin 2)) T R rc tp st = some r1) (h2 : f10_runRecipe w aside mu th mp mf = some r2) (h3 : r1.1 = r2.1) (kk : VW k z (n + 1) (n' + 6) (wAll k r1.2.1 r1.2.2.1 ly r1.2.2.2.1 hn rp r1.2.2.2.2.1 ee r1.2.2.2.2.2 r2.2.1 r2.2.2.1 thought fresh r2.2.2.2.1 r2.2.2.2.2.1 r2.2.2.2.2.2.1 r2.2.2.2.2.2.2 mh mg ou od) 28 [some (.ref b0), some (.ref (k.b + (0))), some (.ref (k.b + (189))), some (.ref (k.b + (197))), some (.ref (k.b + (198))), some (.int (x5 + 6)), none, none, none] []) : VW k z n n' (wAll k T R ly rc hn rp tp ee st w aside thought fresh mu th mp mf mh mg ou od) 28 [some (.ref b0), some (.ref (k.b + (0))), some (.ref (k.b + (189))), some (.ref (k.b + (197))), some (.ref (k.b + (198))), some (.int x5), none, none, none] [] := by
  refine r_iload X (x := x5) dL_law_28 rfl ?_
  refine r_aload_n X (x := b0) dL_law_30 rfl ?_
  refine r_slen X hX hbl hbA dL_law_31 ?_
  refine r_bipush X (v := 6) dL_law_32 rfl ?_
  refine r_isub X dL_law_34 ?_
  refine r_icmp_gt X 3066 dL_law_35 rfl (fun c => absurd c hlt) (fun _ => ?_)
  refine r_aload_n X (x := b0) dL_law_38 rfl ?_
  refine r_iload X (x := x5) dL_law_39 rfl ?_
  refine r_sld X hX hbl hbA g0 dL_law_41 ?_
  refine r_bipush X (v := 63) dL_law_42 rfl ?_
  refine r_iand X dL_law_44 ?_
  refine r_tswIn X (off := 1090) 1135 dL_law_45 (by rw [hc]; decide) (by rw [hc]; decide) (by rw [hc]; rfl) rfl ?_
  refine r_aload_n X (x := k.b + (0)) dL_law_1135 rfl ?_
  refine r_callV X [] [] (K9_runRecipe h1) lkL_217 clsX9 rfl _ o_main ⟨(Nat.le_of_ble_eq_true rfl), (Nat.le_of_ble_eq_true rfl)⟩ rfl rfl (by show n + 0 ≤ 601024; omega) (by show n' + 0 ≤ 7293034; omega) rfl rfl (Nat.le_of_ble_eq_true rfl) rfl rfl dL_law_1136 ?_
  refine r_aload_n X (x := k.b + (189)) dL_law_1139 rfl ?_
  refine r_callV X [] [.int r1.1] (K10_runRecipe h2) lkL_220 clsX10 rfl _ o_model ⟨(Nat.le_of_ble_eq_true rfl), (Nat.le_of_ble_eq_true rfl)⟩ rfl rfl (by show n + 0 ≤ 601024; omega) (by show n' + 0 ≤ 7293034; omega) rfl rfl (Nat.le_of_ble_eq_true rfl) rfl rfl dL_law_1140 ?_
  refine r_icmp_eq X 3060 dL_law_1143 rfl (fun c1143 => ?_) (fun c1143 => absurd h3 c1143)
  refine r_iinc X (x := x5) (v := x5 + 6) [some (.ref b0), some (.ref (k.b + (0))), some (.ref (k.b + (189))), some (.ref (k.b + (197))), some (.ref (k.b + (198))), some (.int (x5 + 6)), none, none, none] dL_law_3060 rfl rfl rfl ?_
  refine r_goto X 28 dL_law_3063 rfl ?_
  exact VW.widen (c := n + 1) (s := n' + 6) (by omega) (by omega) kk
set_option maxRecDepth 100000 in
set_option maxHeartbeats 4000000 in
theorem LT_17 {k : KT} {z : ZT} (X : XX k strs z RL cL_law 9 ret room_1) {b0 len : Nat} {xs : Nat → Int32} (hX : va_X b0 len xs (zS z) (zS z).heap) (hbl : b0 < (zS z).heap.size) (hbA : ¬ kA k b0) {T : TT} {R : RR} {ly : Fin 2 → LL} {rc : RC} {hn : HN} {rp : RP} {tp : TP} {ee : EE} {st : Fin 12 → SS} {w : Nat → Int64} {aside : Nat → Int64} {thought : Nat → Int64} {fresh : Nat → Int64} {mu : MU} {th : Int32} {mp : MP} {mf : MF} {mh : MH} {mg : MG} {ou : Nat → Int64} {od : Nat → UInt64} {n n' : Nat} (hnc : n + 1 ≤ 601024) (hns : n' + 6 ≤ 7293034) {x5 : Int32} (hlt : ¬ (Int32.ofNat len - 6 < x5)) (g0 : inb (x5) len = true) (g1 : inb (x5 + 1) len = true) (g2 : inb (x5 + 2) len = true) (g3 : inb (x5 + 3) len = true) (g4 : inb (x5 + 4) len = true) (g5 : inb (x5 + 5) len = true) (hc : xs (ix x5) &&& 63 = 17) {r1 : Int32 × (Nat → Int64)} {r2 : Int32 × (Int32)} (h1 : fL_count (ly (0 : Fin 2)) tp st ou (xs (ix (x5 + 1))) = some r1) (h2 : f10_count w th (xs (ix (x5 + 1))) = some r2) (h3 : r2.2 = r1.1) (h4 : r1.1 = 0 → r1.2 (ix 0) = r2.1.toInt64) (kk : VW k z (n + 1) (n' + 6) (wAll k T R ly rc hn rp tp ee st w aside thought fresh mu r2.2 mp mf mh mg r1.2 od) 28 [some (.ref b0), some (.ref (k.b + (0))), some (.ref (k.b + (189))), some (.ref (k.b + (197))), some (.ref (k.b + (198))), some (.int (x5 + 6)), none, none, none] []) : VW k z n n' (wAll k T R ly rc hn rp tp ee st w aside thought fresh mu th mp mf mh mg ou od) 28 [some (.ref b0), some (.ref (k.b + (0))), some (.ref (k.b + (189))), some (.ref (k.b + (197))), some (.ref (k.b + (198))), some (.int x5), none, none, none] [] := by
  refine r_iload X (x := x5) dL_law_28 rfl ?_
  refine r_aload_n X (x := b0) dL_law_30 rfl ?_
  refine r_slen X hX hbl hbA dL_law_31 ?_
  refine r_bipush X (v := 6) dL_law_32 rfl ?_
  refine r_isub X dL_law_34 ?_
  refine r_icmp_gt X 3066 dL_law_35 rfl (fun c => absurd c hlt) (fun _ => ?_)
  refine r_aload_n X (x := b0) dL_law_38 rfl ?_
  refine r_iload X (x := x5) dL_law_39 rfl ?_
  refine r_sld X hX hbl hbA g0 dL_law_41 ?_
  refine r_bipush X (v := 63) dL_law_42 rfl ?_
  refine r_iand X dL_law_44 ?_
  refine r_tswIn X (off := 1103) 1148 dL_law_45 (by rw [hc]; decide) (by rw [hc]; decide) (by rw [hc]; rfl) rfl ?_
  refine r_aload_n X (x := k.b + (0)) dL_law_1148 rfl ?_
  refine r_aload_n X (x := b0) dL_law_1149 rfl ?_
  refine r_iload X (x := x5) dL_law_1150 rfl ?_
  refine r_iconst X (v := 1) dL_law_1152 rfl ?_
  refine r_iadd X dL_law_1153 ?_
  refine r_sld X hX hbl hbA g1 dL_law_1154 ?_
  refine r_aload_n X (x := k.b + (197)) dL_law_1155 rfl ?_
  refine r_callSW X [.ref (k.b + (0)), .int (xs (ix (x5 + 1))), .ref (k.b + (197))] [] (KL_count h1) lkL_count ⟨(Nat.le_of_ble_eq_true rfl), (Nat.le_of_ble_eq_true rfl)⟩ rfl rfl (by show n + 1 ≤ 601024; omega) (by show n' + 6 ≤ 7293034; omega) rfl rfl (Nat.le_of_ble_eq_true rfl) rfl rfl dL_law_1156 ?_
  refine r_istore X [some (.ref b0), some (.ref (k.b + (0))), some (.ref (k.b + (189))), some (.ref (k.b + (197))), some (.ref (k.b + (198))), some (.int x5), some (.int r1.1), none, none] dL_law_1159 (Nat.le_of_ble_eq_true rfl) rfl ?_
  refine r_aload_n X (x := k.b + (189)) dL_law_1161 rfl ?_
  refine r_aload_n X (x := b0) dL_law_1162 rfl ?_
  refine r_iload X (x := x5) dL_law_1163 rfl ?_
  refine r_iconst X (v := 1) dL_law_1165 rfl ?_
  refine r_iadd X dL_law_1166 ?_
  refine r_sld X hX hbl hbA g1 dL_law_1167 ?_
  refine r_callV X [.int (xs (ix (x5 + 1)))] [] (K10_count h2) lkL_223 clsX10 rfl _ o_model ⟨(Nat.le_of_ble_eq_true rfl), (Nat.le_of_ble_eq_true rfl)⟩ rfl rfl (by show n + 1 + 0 ≤ 601024; omega) (by show n' + 6 + 0 ≤ 7293034; omega) rfl rfl (Nat.le_of_ble_eq_true rfl) rfl rfl dL_law_1168 ?_
  refine r_istore X [some (.ref b0), some (.ref (k.b + (0))), some (.ref (k.b + (189))), some (.ref (k.b + (197))), some (.ref (k.b + (198))), some (.int x5), some (.int r1.1), some (.int r2.1), none] dL_law_1171 (Nat.le_of_ble_eq_true rfl) rfl ?_
  refine r_aload_n X (x := k.b + (189)) dL_law_1173 rfl ?_
  refine r_callV X [] [] (K10_thrown (r := r2.2) rfl) lkL_164 clsX10 rfl _ o_model ⟨(Nat.le_of_ble_eq_true rfl), (Nat.le_of_ble_eq_true rfl)⟩ rfl rfl (by show n + 1 + 0 ≤ 601024; omega) (by show n' + 6 + 0 ≤ 7293034; omega) rfl rfl (Nat.le_of_ble_eq_true rfl) rfl rfl dL_law_1174 ?_
  refine r_iload X (x := r1.1) dL_law_1177 rfl ?_
  refine r_icmp_eq X 1184 dL_law_1179 rfl (fun c1179 => ?_) (fun c1179 => absurd h3 c1179)
  refine r_iload X (x := r1.1) dL_law_1184 rfl ?_
  refine r_if_ne X 1201 dL_law_1186 rfl (fun c6 => ?_) (fun c6 => ?_)
  · refine r_goto X 3060 dL_law_1201 rfl ?_
    refine r_iinc X (x := x5) (v := x5 + 6) [some (.ref b0), some (.ref (k.b + (0))), some (.ref (k.b + (189))), some (.ref (k.b + (197))), some (.ref (k.b + (198))), some (.int (x5 + 6)), some (.int r1.1), some (.int r2.1), none] dL_law_3060 rfl rfl rfl ?_
    refine r_goto X 28 dL_law_3063 rfl ?_
    refine VW.msk [true, true, true, true, true, true, false, false, false] rfl (lo' := [some (.ref b0), some (.ref (k.b + (0))), some (.ref (k.b + (189))), some (.ref (k.b + (197))), some (.ref (k.b + (198))), some (.int (x5 + 6)), none, none, none]) rfl ?_
    exact VW.widen (c := n + 1) (s := n' + 6) (by omega) (by omega) kk
  · refine r_aload_n X (x := k.b + (197)) dL_law_1189 rfl ?_
    refine r_iconst X (v := 0) dL_law_1190 rfl ?_
    refine r_laload X (f := r1.2) _ a_m_ou (by decide) dL_law_1191 ?_
    refine r_iload X (x := r2.1) dL_law_1192 rfl ?_
    refine r_i2l X dL_law_1194 ?_
    refine r_lcmp_eq X 1201 dL_law_1195 dL_law_1196 rfl (fun c1195 => ?_) (fun c1195 => absurd (h4 c6) c1195)
    refine r_goto X 3060 dL_law_1201 rfl ?_
    refine r_iinc X (x := x5) (v := x5 + 6) [some (.ref b0), some (.ref (k.b + (0))), some (.ref (k.b + (189))), some (.ref (k.b + (197))), some (.ref (k.b + (198))), some (.int (x5 + 6)), some (.int r1.1), some (.int r2.1), none] dL_law_3060 rfl rfl rfl ?_
    refine r_goto X 28 dL_law_3063 rfl ?_
    refine VW.msk [true, true, true, true, true, true, false, false, false] rfl (lo' := [some (.ref b0), some (.ref (k.b + (0))), some (.ref (k.b + (189))), some (.ref (k.b + (197))), some (.ref (k.b + (198))), some (.int (x5 + 6)), none, none, none]) rfl ?_
    exact VW.widen (c := n + 1) (s := n' + 6) (by omega) (by omega) kk
set_option maxRecDepth 100000 in
set_option maxHeartbeats 4000000 in
theorem LT_18 {k : KT} {z : ZT} (X : XX k strs z RL cL_law 9 ret room_1) {b0 len : Nat} {xs : Nat → Int32} (hX : va_X b0 len xs (zS z) (zS z).heap) (hbl : b0 < (zS z).heap.size) (hbA : ¬ kA k b0) {T : TT} {R : RR} {ly : Fin 2 → LL} {rc : RC} {hn : HN} {rp : RP} {tp : TP} {ee : EE} {st : Fin 12 → SS} {w : Nat → Int64} {aside : Nat → Int64} {thought : Nat → Int64} {fresh : Nat → Int64} {mu : MU} {th : Int32} {mp : MP} {mf : MF} {mh : MH} {mg : MG} {ou : Nat → Int64} {od : Nat → UInt64} {n n' : Nat} (hnc : n + 1 ≤ 601024) (hns : n' + 6 ≤ 7293034) {x5 : Int32} (hlt : ¬ (Int32.ofNat len - 6 < x5)) (g0 : inb (x5) len = true) (g1 : inb (x5 + 1) len = true) (g2 : inb (x5 + 2) len = true) (g3 : inb (x5 + 3) len = true) (g4 : inb (x5 + 4) len = true) (g5 : inb (x5 + 5) len = true) (hc : xs (ix x5) &&& 63 = 18) {r1 : Int32 × (Nat → Int64)} {r2 : Int32 × (Int32)} (h1 : fL_chamber (ly (0 : Fin 2)) tp st ou (xs (ix (x5 + 1))) (xs (ix (x5 + 2))) = some r1) (h2 : f10_chamber w th (xs (ix (x5 + 1))) (xs (ix (x5 + 2))) = some r2) (h3 : r2.2 = r1.1) (h4 : r1.1 = 0 → r1.2 (ix 0) = r2.1.toInt64) (kk : VW k z (n + 1) (n' + 6) (wAll k T R ly rc hn rp tp ee st w aside thought fresh mu r2.2 mp mf mh mg r1.2 od) 28 [some (.ref b0), some (.ref (k.b + (0))), some (.ref (k.b + (189))), some (.ref (k.b + (197))), some (.ref (k.b + (198))), some (.int (x5 + 6)), none, none, none] []) : VW k z n n' (wAll k T R ly rc hn rp tp ee st w aside thought fresh mu th mp mf mh mg ou od) 28 [some (.ref b0), some (.ref (k.b + (0))), some (.ref (k.b + (189))), some (.ref (k.b + (197))), some (.ref (k.b + (198))), some (.int x5), none, none, none] [] := by
  refine r_iload X (x := x5) dL_law_28 rfl ?_
  refine r_aload_n X (x := b0) dL_law_30 rfl ?_
  refine r_slen X hX hbl hbA dL_law_31 ?_
  refine r_bipush X (v := 6) dL_law_32 rfl ?_
  refine r_isub X dL_law_34 ?_
  refine r_icmp_gt X 3066 dL_law_35 rfl (fun c => absurd c hlt) (fun _ => ?_)
  refine r_aload_n X (x := b0) dL_law_38 rfl ?_
  refine r_iload X (x := x5) dL_law_39 rfl ?_
  refine r_sld X hX hbl hbA g0 dL_law_41 ?_
  refine r_bipush X (v := 63) dL_law_42 rfl ?_
  refine r_iand X dL_law_44 ?_
  refine r_tswIn X (off := 1159) 1204 dL_law_45 (by rw [hc]; decide) (by rw [hc]; decide) (by rw [hc]; rfl) rfl ?_
  refine r_aload_n X (x := k.b + (0)) dL_law_1204 rfl ?_
  refine r_aload_n X (x := b0) dL_law_1205 rfl ?_
  refine r_iload X (x := x5) dL_law_1206 rfl ?_
  refine r_iconst X (v := 1) dL_law_1208 rfl ?_
  refine r_iadd X dL_law_1209 ?_
  refine r_sld X hX hbl hbA g1 dL_law_1210 ?_
  refine r_aload_n X (x := b0) dL_law_1211 rfl ?_
  refine r_iload X (x := x5) dL_law_1212 rfl ?_
  refine r_iconst X (v := 2) dL_law_1214 rfl ?_
  refine r_iadd X dL_law_1215 ?_
  refine r_sld X hX hbl hbA g2 dL_law_1216 ?_
  refine r_aload_n X (x := k.b + (197)) dL_law_1217 rfl ?_
  refine r_callSW X [.ref (k.b + (0)), .int (xs (ix (x5 + 1))), .int (xs (ix (x5 + 2))), .ref (k.b + (197))] [] (KL_chamber h1) lkL_chamber ⟨(Nat.le_of_ble_eq_true rfl), (Nat.le_of_ble_eq_true rfl)⟩ rfl rfl (by show n + 1 ≤ 601024; omega) (by show n' + 6 ≤ 7293034; omega) rfl rfl (Nat.le_of_ble_eq_true rfl) rfl rfl dL_law_1218 ?_
  refine r_istore X [some (.ref b0), some (.ref (k.b + (0))), some (.ref (k.b + (189))), some (.ref (k.b + (197))), some (.ref (k.b + (198))), some (.int x5), some (.int r1.1), none, none] dL_law_1221 (Nat.le_of_ble_eq_true rfl) rfl ?_
  refine r_aload_n X (x := k.b + (189)) dL_law_1223 rfl ?_
  refine r_aload_n X (x := b0) dL_law_1224 rfl ?_
  refine r_iload X (x := x5) dL_law_1225 rfl ?_
  refine r_iconst X (v := 1) dL_law_1227 rfl ?_
  refine r_iadd X dL_law_1228 ?_
  refine r_sld X hX hbl hbA g1 dL_law_1229 ?_
  refine r_aload_n X (x := b0) dL_law_1230 rfl ?_
  refine r_iload X (x := x5) dL_law_1231 rfl ?_
  refine r_iconst X (v := 2) dL_law_1233 rfl ?_
  refine r_iadd X dL_law_1234 ?_
  refine r_sld X hX hbl hbA g2 dL_law_1235 ?_
  refine r_callV X [.int (xs (ix (x5 + 1))), .int (xs (ix (x5 + 2)))] [] (K10_chamber h2) lkL_226 clsX10 rfl _ o_model ⟨(Nat.le_of_ble_eq_true rfl), (Nat.le_of_ble_eq_true rfl)⟩ rfl rfl (by show n + 1 + 0 ≤ 601024; omega) (by show n' + 6 + 0 ≤ 7293034; omega) rfl rfl (Nat.le_of_ble_eq_true rfl) rfl rfl dL_law_1236 ?_
  refine r_istore X [some (.ref b0), some (.ref (k.b + (0))), some (.ref (k.b + (189))), some (.ref (k.b + (197))), some (.ref (k.b + (198))), some (.int x5), some (.int r1.1), some (.int r2.1), none] dL_law_1239 (Nat.le_of_ble_eq_true rfl) rfl ?_
  refine r_aload_n X (x := k.b + (189)) dL_law_1241 rfl ?_
  refine r_callV X [] [] (K10_thrown (r := r2.2) rfl) lkL_164 clsX10 rfl _ o_model ⟨(Nat.le_of_ble_eq_true rfl), (Nat.le_of_ble_eq_true rfl)⟩ rfl rfl (by show n + 1 + 0 ≤ 601024; omega) (by show n' + 6 + 0 ≤ 7293034; omega) rfl rfl (Nat.le_of_ble_eq_true rfl) rfl rfl dL_law_1242 ?_
  refine r_iload X (x := r1.1) dL_law_1245 rfl ?_
  refine r_icmp_eq X 1252 dL_law_1247 rfl (fun c1247 => ?_) (fun c1247 => absurd h3 c1247)
  refine r_iload X (x := r1.1) dL_law_1252 rfl ?_
  refine r_if_ne X 1269 dL_law_1254 rfl (fun c6 => ?_) (fun c6 => ?_)
  · refine r_goto X 3060 dL_law_1269 rfl ?_
    refine r_iinc X (x := x5) (v := x5 + 6) [some (.ref b0), some (.ref (k.b + (0))), some (.ref (k.b + (189))), some (.ref (k.b + (197))), some (.ref (k.b + (198))), some (.int (x5 + 6)), some (.int r1.1), some (.int r2.1), none] dL_law_3060 rfl rfl rfl ?_
    refine r_goto X 28 dL_law_3063 rfl ?_
    refine VW.msk [true, true, true, true, true, true, false, false, false] rfl (lo' := [some (.ref b0), some (.ref (k.b + (0))), some (.ref (k.b + (189))), some (.ref (k.b + (197))), some (.ref (k.b + (198))), some (.int (x5 + 6)), none, none, none]) rfl ?_
    exact VW.widen (c := n + 1) (s := n' + 6) (by omega) (by omega) kk
  · refine r_aload_n X (x := k.b + (197)) dL_law_1257 rfl ?_
    refine r_iconst X (v := 0) dL_law_1258 rfl ?_
    refine r_laload X (f := r1.2) _ a_m_ou (by decide) dL_law_1259 ?_
    refine r_iload X (x := r2.1) dL_law_1260 rfl ?_
    refine r_i2l X dL_law_1262 ?_
    refine r_lcmp_eq X 1269 dL_law_1263 dL_law_1264 rfl (fun c1263 => ?_) (fun c1263 => absurd (h4 c6) c1263)
    refine r_goto X 3060 dL_law_1269 rfl ?_
    refine r_iinc X (x := x5) (v := x5 + 6) [some (.ref b0), some (.ref (k.b + (0))), some (.ref (k.b + (189))), some (.ref (k.b + (197))), some (.ref (k.b + (198))), some (.int (x5 + 6)), some (.int r1.1), some (.int r2.1), none] dL_law_3060 rfl rfl rfl ?_
    refine r_goto X 28 dL_law_3063 rfl ?_
    refine VW.msk [true, true, true, true, true, true, false, false, false] rfl (lo' := [some (.ref b0), some (.ref (k.b + (0))), some (.ref (k.b + (189))), some (.ref (k.b + (197))), some (.ref (k.b + (198))), some (.int (x5 + 6)), none, none, none]) rfl ?_
    exact VW.widen (c := n + 1) (s := n' + 6) (by omega) (by omega) kk
set_option maxRecDepth 100000 in
set_option maxHeartbeats 4000000 in
theorem LT_19 {k : KT} {z : ZT} (X : XX k strs z RL cL_law 9 ret room_1) {b0 len : Nat} {xs : Nat → Int32} (hX : va_X b0 len xs (zS z) (zS z).heap) (hbl : b0 < (zS z).heap.size) (hbA : ¬ kA k b0) {T : TT} {R : RR} {ly : Fin 2 → LL} {rc : RC} {hn : HN} {rp : RP} {tp : TP} {ee : EE} {st : Fin 12 → SS} {w : Nat → Int64} {aside : Nat → Int64} {thought : Nat → Int64} {fresh : Nat → Int64} {mu : MU} {th : Int32} {mp : MP} {mf : MF} {mh : MH} {mg : MG} {ou : Nat → Int64} {od : Nat → UInt64} {n n' : Nat} (hnc : n + 1 ≤ 601024) (hns : n' + 6 ≤ 7293034) {x5 : Int32} (hlt : ¬ (Int32.ofNat len - 6 < x5)) (g0 : inb (x5) len = true) (g1 : inb (x5 + 1) len = true) (g2 : inb (x5 + 2) len = true) (g3 : inb (x5 + 3) len = true) (g4 : inb (x5 + 4) len = true) (g5 : inb (x5 + 5) len = true) (hc : xs (ix x5) &&& 63 = 19) {r1 : Int32 × (Nat → Int64)} {r2 : Int64 × (Int32)} (h1 : fL_gas (ly (0 : Fin 2)) tp st ou (xs (ix (x5 + 1))) = some r1) (h2 : f10_gas w th (xs (ix (x5 + 1))) = some r2) (h3 : r2.2 = r1.1) (h4 : r1.1 = 0 → r1.2 (ix 0) = r2.1) (kk : VW k z (n + 1) (n' + 6) (wAll k T R ly rc hn rp tp ee st w aside thought fresh mu r2.2 mp mf mh mg r1.2 od) 28 [some (.ref b0), some (.ref (k.b + (0))), some (.ref (k.b + (189))), some (.ref (k.b + (197))), some (.ref (k.b + (198))), some (.int (x5 + 6)), none, none, none] []) : VW k z n n' (wAll k T R ly rc hn rp tp ee st w aside thought fresh mu th mp mf mh mg ou od) 28 [some (.ref b0), some (.ref (k.b + (0))), some (.ref (k.b + (189))), some (.ref (k.b + (197))), some (.ref (k.b + (198))), some (.int x5), none, none, none] [] := by
  refine r_iload X (x := x5) dL_law_28 rfl ?_
  refine r_aload_n X (x := b0) dL_law_30 rfl ?_
  refine r_slen X hX hbl hbA dL_law_31 ?_
  refine r_bipush X (v := 6) dL_law_32 rfl ?_
  refine r_isub X dL_law_34 ?_
  refine r_icmp_gt X 3066 dL_law_35 rfl (fun c => absurd c hlt) (fun _ => ?_)
  refine r_aload_n X (x := b0) dL_law_38 rfl ?_
  refine r_iload X (x := x5) dL_law_39 rfl ?_
  refine r_sld X hX hbl hbA g0 dL_law_41 ?_
  refine r_bipush X (v := 63) dL_law_42 rfl ?_
  refine r_iand X dL_law_44 ?_
  refine r_tswIn X (off := 1227) 1272 dL_law_45 (by rw [hc]; decide) (by rw [hc]; decide) (by rw [hc]; rfl) rfl ?_
  refine r_aload_n X (x := k.b + (0)) dL_law_1272 rfl ?_
  refine r_aload_n X (x := b0) dL_law_1273 rfl ?_
  refine r_iload X (x := x5) dL_law_1274 rfl ?_
  refine r_iconst X (v := 1) dL_law_1276 rfl ?_
  refine r_iadd X dL_law_1277 ?_
  refine r_sld X hX hbl hbA g1 dL_law_1278 ?_
  refine r_aload_n X (x := k.b + (197)) dL_law_1279 rfl ?_
  refine r_callSW X [.ref (k.b + (0)), .int (xs (ix (x5 + 1))), .ref (k.b + (197))] [] (KL_gas h1) lkL_gas ⟨(Nat.le_of_ble_eq_true rfl), (Nat.le_of_ble_eq_true rfl)⟩ rfl rfl (by show n + 1 ≤ 601024; omega) (by show n' + 6 ≤ 7293034; omega) rfl rfl (Nat.le_of_ble_eq_true rfl) rfl rfl dL_law_1280 ?_
  refine r_istore X [some (.ref b0), some (.ref (k.b + (0))), some (.ref (k.b + (189))), some (.ref (k.b + (197))), some (.ref (k.b + (198))), some (.int x5), some (.int r1.1), none, none] dL_law_1283 (Nat.le_of_ble_eq_true rfl) rfl ?_
  refine r_aload_n X (x := k.b + (189)) dL_law_1285 rfl ?_
  refine r_aload_n X (x := b0) dL_law_1286 rfl ?_
  refine r_iload X (x := x5) dL_law_1287 rfl ?_
  refine r_iconst X (v := 1) dL_law_1289 rfl ?_
  refine r_iadd X dL_law_1290 ?_
  refine r_sld X hX hbl hbA g1 dL_law_1291 ?_
  refine r_callV X [.int (xs (ix (x5 + 1)))] [] (K10_gas h2) lkL_229 clsX10 rfl _ o_model ⟨(Nat.le_of_ble_eq_true rfl), (Nat.le_of_ble_eq_true rfl)⟩ rfl rfl (by show n + 1 + 0 ≤ 601024; omega) (by show n' + 6 + 0 ≤ 7293034; omega) rfl rfl (Nat.le_of_ble_eq_true rfl) rfl rfl dL_law_1292 ?_
  refine r_lstore X [some (.ref b0), some (.ref (k.b + (0))), some (.ref (k.b + (189))), some (.ref (k.b + (197))), some (.ref (k.b + (198))), some (.int x5), some (.int r1.1), some (.long r2.1), none] dL_law_1295 (Nat.le_of_ble_eq_true rfl) rfl ?_
  refine r_aload_n X (x := k.b + (189)) dL_law_1297 rfl ?_
  refine r_callV X [] [] (K10_thrown (r := r2.2) rfl) lkL_164 clsX10 rfl _ o_model ⟨(Nat.le_of_ble_eq_true rfl), (Nat.le_of_ble_eq_true rfl)⟩ rfl rfl (by show n + 1 + 0 ≤ 601024; omega) (by show n' + 6 + 0 ≤ 7293034; omega) rfl rfl (Nat.le_of_ble_eq_true rfl) rfl rfl dL_law_1298 ?_
  refine r_iload X (x := r1.1) dL_law_1301 rfl ?_
  refine r_icmp_eq X 1308 dL_law_1303 rfl (fun c1303 => ?_) (fun c1303 => absurd h3 c1303)
  refine r_iload X (x := r1.1) dL_law_1308 rfl ?_
  refine r_if_ne X 1324 dL_law_1310 rfl (fun c6 => ?_) (fun c6 => ?_)
  · refine r_goto X 3060 dL_law_1324 rfl ?_
    refine r_iinc X (x := x5) (v := x5 + 6) [some (.ref b0), some (.ref (k.b + (0))), some (.ref (k.b + (189))), some (.ref (k.b + (197))), some (.ref (k.b + (198))), some (.int (x5 + 6)), some (.int r1.1), some (.long r2.1), none] dL_law_3060 rfl rfl rfl ?_
    refine r_goto X 28 dL_law_3063 rfl ?_
    refine VW.msk [true, true, true, true, true, true, false, false, false] rfl (lo' := [some (.ref b0), some (.ref (k.b + (0))), some (.ref (k.b + (189))), some (.ref (k.b + (197))), some (.ref (k.b + (198))), some (.int (x5 + 6)), none, none, none]) rfl ?_
    exact VW.widen (c := n + 1) (s := n' + 6) (by omega) (by omega) kk
  · refine r_aload_n X (x := k.b + (197)) dL_law_1313 rfl ?_
    refine r_iconst X (v := 0) dL_law_1314 rfl ?_
    refine r_laload X (f := r1.2) _ a_m_ou (by decide) dL_law_1315 ?_
    refine r_lload X (x := r2.1) dL_law_1316 rfl ?_
    refine r_lcmp_eq X 1324 dL_law_1318 dL_law_1319 rfl (fun c1318 => ?_) (fun c1318 => absurd (h4 c6) c1318)
    refine r_goto X 3060 dL_law_1324 rfl ?_
    refine r_iinc X (x := x5) (v := x5 + 6) [some (.ref b0), some (.ref (k.b + (0))), some (.ref (k.b + (189))), some (.ref (k.b + (197))), some (.ref (k.b + (198))), some (.int (x5 + 6)), some (.int r1.1), some (.long r2.1), none] dL_law_3060 rfl rfl rfl ?_
    refine r_goto X 28 dL_law_3063 rfl ?_
    refine VW.msk [true, true, true, true, true, true, false, false, false] rfl (lo' := [some (.ref b0), some (.ref (k.b + (0))), some (.ref (k.b + (189))), some (.ref (k.b + (197))), some (.ref (k.b + (198))), some (.int (x5 + 6)), none, none, none]) rfl ?_
    exact VW.widen (c := n + 1) (s := n' + 6) (by omega) (by omega) kk
set_option maxRecDepth 100000 in
set_option maxHeartbeats 4000000 in
theorem LT_20 {k : KT} {z : ZT} (X : XX k strs z RL cL_law 9 ret room_1) {b0 len : Nat} {xs : Nat → Int32} (hX : va_X b0 len xs (zS z) (zS z).heap) (hbl : b0 < (zS z).heap.size) (hbA : ¬ kA k b0) {T : TT} {R : RR} {ly : Fin 2 → LL} {rc : RC} {hn : HN} {rp : RP} {tp : TP} {ee : EE} {st : Fin 12 → SS} {w : Nat → Int64} {aside : Nat → Int64} {thought : Nat → Int64} {fresh : Nat → Int64} {mu : MU} {th : Int32} {mp : MP} {mf : MF} {mh : MH} {mg : MG} {ou : Nat → Int64} {od : Nat → UInt64} {n n' : Nat} (hnc : n + 1 ≤ 601024) (hns : n' + 6 ≤ 7293034) {x5 : Int32} (hlt : ¬ (Int32.ofNat len - 6 < x5)) (g0 : inb (x5) len = true) (g1 : inb (x5 + 1) len = true) (g2 : inb (x5 + 2) len = true) (g3 : inb (x5 + 3) len = true) (g4 : inb (x5 + 4) len = true) (g5 : inb (x5 + 5) len = true) (hc : xs (ix x5) &&& 63 = 20) {r1 : Int32 × (Nat → Int64)} {r2 : Int32 × (Int32)} (h1 : fL_pump (ly (0 : Fin 2)) tp st ou (xs (ix (x5 + 1))) (xs (ix (x5 + 2))) = some r1) (h2 : f10_pump w th (xs (ix (x5 + 1))) (xs (ix (x5 + 2))) = some r2) (h3 : r2.2 = r1.1) (h4 : r1.1 = 0 → r1.2 (ix 0) = r2.1.toInt64) (kk : VW k z (n + 1) (n' + 6) (wAll k T R ly rc hn rp tp ee st w aside thought fresh mu r2.2 mp mf mh mg r1.2 od) 28 [some (.ref b0), some (.ref (k.b + (0))), some (.ref (k.b + (189))), some (.ref (k.b + (197))), some (.ref (k.b + (198))), some (.int (x5 + 6)), none, none, none] []) : VW k z n n' (wAll k T R ly rc hn rp tp ee st w aside thought fresh mu th mp mf mh mg ou od) 28 [some (.ref b0), some (.ref (k.b + (0))), some (.ref (k.b + (189))), some (.ref (k.b + (197))), some (.ref (k.b + (198))), some (.int x5), none, none, none] [] := by
  refine r_iload X (x := x5) dL_law_28 rfl ?_
  refine r_aload_n X (x := b0) dL_law_30 rfl ?_
  refine r_slen X hX hbl hbA dL_law_31 ?_
  refine r_bipush X (v := 6) dL_law_32 rfl ?_
  refine r_isub X dL_law_34 ?_
  refine r_icmp_gt X 3066 dL_law_35 rfl (fun c => absurd c hlt) (fun _ => ?_)
  refine r_aload_n X (x := b0) dL_law_38 rfl ?_
  refine r_iload X (x := x5) dL_law_39 rfl ?_
  refine r_sld X hX hbl hbA g0 dL_law_41 ?_
  refine r_bipush X (v := 63) dL_law_42 rfl ?_
  refine r_iand X dL_law_44 ?_
  refine r_tswIn X (off := 1282) 1327 dL_law_45 (by rw [hc]; decide) (by rw [hc]; decide) (by rw [hc]; rfl) rfl ?_
  refine r_aload_n X (x := k.b + (0)) dL_law_1327 rfl ?_
  refine r_aload_n X (x := b0) dL_law_1328 rfl ?_
  refine r_iload X (x := x5) dL_law_1329 rfl ?_
  refine r_iconst X (v := 1) dL_law_1331 rfl ?_
  refine r_iadd X dL_law_1332 ?_
  refine r_sld X hX hbl hbA g1 dL_law_1333 ?_
  refine r_aload_n X (x := b0) dL_law_1334 rfl ?_
  refine r_iload X (x := x5) dL_law_1335 rfl ?_
  refine r_iconst X (v := 2) dL_law_1337 rfl ?_
  refine r_iadd X dL_law_1338 ?_
  refine r_sld X hX hbl hbA g2 dL_law_1339 ?_
  refine r_aload_n X (x := k.b + (197)) dL_law_1340 rfl ?_
  refine r_callSW X [.ref (k.b + (0)), .int (xs (ix (x5 + 1))), .int (xs (ix (x5 + 2))), .ref (k.b + (197))] [] (KL_pump h1) lkL_pump ⟨(Nat.le_of_ble_eq_true rfl), (Nat.le_of_ble_eq_true rfl)⟩ rfl rfl (by show n + 1 ≤ 601024; omega) (by show n' + 6 ≤ 7293034; omega) rfl rfl (Nat.le_of_ble_eq_true rfl) rfl rfl dL_law_1341 ?_
  refine r_istore X [some (.ref b0), some (.ref (k.b + (0))), some (.ref (k.b + (189))), some (.ref (k.b + (197))), some (.ref (k.b + (198))), some (.int x5), some (.int r1.1), none, none] dL_law_1344 (Nat.le_of_ble_eq_true rfl) rfl ?_
  refine r_aload_n X (x := k.b + (189)) dL_law_1346 rfl ?_
  refine r_aload_n X (x := b0) dL_law_1347 rfl ?_
  refine r_iload X (x := x5) dL_law_1348 rfl ?_
  refine r_iconst X (v := 1) dL_law_1350 rfl ?_
  refine r_iadd X dL_law_1351 ?_
  refine r_sld X hX hbl hbA g1 dL_law_1352 ?_
  refine r_aload_n X (x := b0) dL_law_1353 rfl ?_
  refine r_iload X (x := x5) dL_law_1354 rfl ?_
  refine r_iconst X (v := 2) dL_law_1356 rfl ?_
  refine r_iadd X dL_law_1357 ?_
  refine r_sld X hX hbl hbA g2 dL_law_1358 ?_
  refine r_callV X [.int (xs (ix (x5 + 1))), .int (xs (ix (x5 + 2)))] [] (K10_pump h2) lkL_232 clsX10 rfl _ o_model ⟨(Nat.le_of_ble_eq_true rfl), (Nat.le_of_ble_eq_true rfl)⟩ rfl rfl (by show n + 1 + 0 ≤ 601024; omega) (by show n' + 6 + 0 ≤ 7293034; omega) rfl rfl (Nat.le_of_ble_eq_true rfl) rfl rfl dL_law_1359 ?_
  refine r_istore X [some (.ref b0), some (.ref (k.b + (0))), some (.ref (k.b + (189))), some (.ref (k.b + (197))), some (.ref (k.b + (198))), some (.int x5), some (.int r1.1), some (.int r2.1), none] dL_law_1362 (Nat.le_of_ble_eq_true rfl) rfl ?_
  refine r_aload_n X (x := k.b + (189)) dL_law_1364 rfl ?_
  refine r_callV X [] [] (K10_thrown (r := r2.2) rfl) lkL_164 clsX10 rfl _ o_model ⟨(Nat.le_of_ble_eq_true rfl), (Nat.le_of_ble_eq_true rfl)⟩ rfl rfl (by show n + 1 + 0 ≤ 601024; omega) (by show n' + 6 + 0 ≤ 7293034; omega) rfl rfl (Nat.le_of_ble_eq_true rfl) rfl rfl dL_law_1365 ?_
  refine r_iload X (x := r1.1) dL_law_1368 rfl ?_
  refine r_icmp_eq X 1375 dL_law_1370 rfl (fun c1370 => ?_) (fun c1370 => absurd h3 c1370)
  refine r_iload X (x := r1.1) dL_law_1375 rfl ?_
  refine r_if_ne X 1392 dL_law_1377 rfl (fun c6 => ?_) (fun c6 => ?_)
  · refine r_goto X 3060 dL_law_1392 rfl ?_
    refine r_iinc X (x := x5) (v := x5 + 6) [some (.ref b0), some (.ref (k.b + (0))), some (.ref (k.b + (189))), some (.ref (k.b + (197))), some (.ref (k.b + (198))), some (.int (x5 + 6)), some (.int r1.1), some (.int r2.1), none] dL_law_3060 rfl rfl rfl ?_
    refine r_goto X 28 dL_law_3063 rfl ?_
    refine VW.msk [true, true, true, true, true, true, false, false, false] rfl (lo' := [some (.ref b0), some (.ref (k.b + (0))), some (.ref (k.b + (189))), some (.ref (k.b + (197))), some (.ref (k.b + (198))), some (.int (x5 + 6)), none, none, none]) rfl ?_
    exact VW.widen (c := n + 1) (s := n' + 6) (by omega) (by omega) kk
  · refine r_aload_n X (x := k.b + (197)) dL_law_1380 rfl ?_
    refine r_iconst X (v := 0) dL_law_1381 rfl ?_
    refine r_laload X (f := r1.2) _ a_m_ou (by decide) dL_law_1382 ?_
    refine r_iload X (x := r2.1) dL_law_1383 rfl ?_
    refine r_i2l X dL_law_1385 ?_
    refine r_lcmp_eq X 1392 dL_law_1386 dL_law_1387 rfl (fun c1386 => ?_) (fun c1386 => absurd (h4 c6) c1386)
    refine r_goto X 3060 dL_law_1392 rfl ?_
    refine r_iinc X (x := x5) (v := x5 + 6) [some (.ref b0), some (.ref (k.b + (0))), some (.ref (k.b + (189))), some (.ref (k.b + (197))), some (.ref (k.b + (198))), some (.int (x5 + 6)), some (.int r1.1), some (.int r2.1), none] dL_law_3060 rfl rfl rfl ?_
    refine r_goto X 28 dL_law_3063 rfl ?_
    refine VW.msk [true, true, true, true, true, true, false, false, false] rfl (lo' := [some (.ref b0), some (.ref (k.b + (0))), some (.ref (k.b + (189))), some (.ref (k.b + (197))), some (.ref (k.b + (198))), some (.int (x5 + 6)), none, none, none]) rfl ?_
    exact VW.widen (c := n + 1) (s := n' + 6) (by omega) (by omega) kk
set_option maxRecDepth 100000 in
set_option maxHeartbeats 4000000 in
theorem LT_21 {k : KT} {z : ZT} (X : XX k strs z RL cL_law 9 ret room_1) {b0 len : Nat} {xs : Nat → Int32} (hX : va_X b0 len xs (zS z) (zS z).heap) (hbl : b0 < (zS z).heap.size) (hbA : ¬ kA k b0) {T : TT} {R : RR} {ly : Fin 2 → LL} {rc : RC} {hn : HN} {rp : RP} {tp : TP} {ee : EE} {st : Fin 12 → SS} {w : Nat → Int64} {aside : Nat → Int64} {thought : Nat → Int64} {fresh : Nat → Int64} {mu : MU} {th : Int32} {mp : MP} {mf : MF} {mh : MH} {mg : MG} {ou : Nat → Int64} {od : Nat → UInt64} {n n' : Nat} (hnc : n + 1 ≤ 601024) (hns : n' + 6 ≤ 7293034) {x5 : Int32} (hlt : ¬ (Int32.ofNat len - 6 < x5)) (g0 : inb (x5) len = true) (g1 : inb (x5 + 1) len = true) (g2 : inb (x5 + 2) len = true) (g3 : inb (x5 + 3) len = true) (g4 : inb (x5 + 4) len = true) (g5 : inb (x5 + 5) len = true) (hc : xs (ix x5) &&& 63 = 21) {r1 : Int32 × (Nat → Int64)} {r2 : Int32 × (Int32)} (h1 : fL_valve (ly (0 : Fin 2)) tp st ou (xs (ix (x5 + 1))) (xs (ix (x5 + 2))) = some r1) (h2 : f10_valve w th (xs (ix (x5 + 1))) (xs (ix (x5 + 2))) = some r2) (h3 : r2.2 = r1.1) (h4 : r1.1 = 0 → r1.2 (ix 0) = r2.1.toInt64) (kk : VW k z (n + 1) (n' + 6) (wAll k T R ly rc hn rp tp ee st w aside thought fresh mu r2.2 mp mf mh mg r1.2 od) 28 [some (.ref b0), some (.ref (k.b + (0))), some (.ref (k.b + (189))), some (.ref (k.b + (197))), some (.ref (k.b + (198))), some (.int (x5 + 6)), none, none, none] []) : VW k z n n' (wAll k T R ly rc hn rp tp ee st w aside thought fresh mu th mp mf mh mg ou od) 28 [some (.ref b0), some (.ref (k.b + (0))), some (.ref (k.b + (189))), some (.ref (k.b + (197))), some (.ref (k.b + (198))), some (.int x5), none, none, none] [] := by
  refine r_iload X (x := x5) dL_law_28 rfl ?_
  refine r_aload_n X (x := b0) dL_law_30 rfl ?_
  refine r_slen X hX hbl hbA dL_law_31 ?_
  refine r_bipush X (v := 6) dL_law_32 rfl ?_
  refine r_isub X dL_law_34 ?_
  refine r_icmp_gt X 3066 dL_law_35 rfl (fun c => absurd c hlt) (fun _ => ?_)
  refine r_aload_n X (x := b0) dL_law_38 rfl ?_
  refine r_iload X (x := x5) dL_law_39 rfl ?_
  refine r_sld X hX hbl hbA g0 dL_law_41 ?_
  refine r_bipush X (v := 63) dL_law_42 rfl ?_
  refine r_iand X dL_law_44 ?_
  refine r_tswIn X (off := 1350) 1395 dL_law_45 (by rw [hc]; decide) (by rw [hc]; decide) (by rw [hc]; rfl) rfl ?_
  refine r_aload_n X (x := k.b + (0)) dL_law_1395 rfl ?_
  refine r_aload_n X (x := b0) dL_law_1396 rfl ?_
  refine r_iload X (x := x5) dL_law_1397 rfl ?_
  refine r_iconst X (v := 1) dL_law_1399 rfl ?_
  refine r_iadd X dL_law_1400 ?_
  refine r_sld X hX hbl hbA g1 dL_law_1401 ?_
  refine r_aload_n X (x := b0) dL_law_1402 rfl ?_
  refine r_iload X (x := x5) dL_law_1403 rfl ?_
  refine r_iconst X (v := 2) dL_law_1405 rfl ?_
  refine r_iadd X dL_law_1406 ?_
  refine r_sld X hX hbl hbA g2 dL_law_1407 ?_
  refine r_aload_n X (x := k.b + (197)) dL_law_1408 rfl ?_
  refine r_callSW X [.ref (k.b + (0)), .int (xs (ix (x5 + 1))), .int (xs (ix (x5 + 2))), .ref (k.b + (197))] [] (KL_valve h1) lkL_valve ⟨(Nat.le_of_ble_eq_true rfl), (Nat.le_of_ble_eq_true rfl)⟩ rfl rfl (by show n + 1 ≤ 601024; omega) (by show n' + 6 ≤ 7293034; omega) rfl rfl (Nat.le_of_ble_eq_true rfl) rfl rfl dL_law_1409 ?_
  refine r_istore X [some (.ref b0), some (.ref (k.b + (0))), some (.ref (k.b + (189))), some (.ref (k.b + (197))), some (.ref (k.b + (198))), some (.int x5), some (.int r1.1), none, none] dL_law_1412 (Nat.le_of_ble_eq_true rfl) rfl ?_
  refine r_aload_n X (x := k.b + (189)) dL_law_1414 rfl ?_
  refine r_aload_n X (x := b0) dL_law_1415 rfl ?_
  refine r_iload X (x := x5) dL_law_1416 rfl ?_
  refine r_iconst X (v := 1) dL_law_1418 rfl ?_
  refine r_iadd X dL_law_1419 ?_
  refine r_sld X hX hbl hbA g1 dL_law_1420 ?_
  refine r_aload_n X (x := b0) dL_law_1421 rfl ?_
  refine r_iload X (x := x5) dL_law_1422 rfl ?_
  refine r_iconst X (v := 2) dL_law_1424 rfl ?_
  refine r_iadd X dL_law_1425 ?_
  refine r_sld X hX hbl hbA g2 dL_law_1426 ?_
  refine r_callV X [.int (xs (ix (x5 + 1))), .int (xs (ix (x5 + 2)))] [] (K10_valve h2) lkL_235 clsX10 rfl _ o_model ⟨(Nat.le_of_ble_eq_true rfl), (Nat.le_of_ble_eq_true rfl)⟩ rfl rfl (by show n + 1 + 0 ≤ 601024; omega) (by show n' + 6 + 0 ≤ 7293034; omega) rfl rfl (Nat.le_of_ble_eq_true rfl) rfl rfl dL_law_1427 ?_
  refine r_istore X [some (.ref b0), some (.ref (k.b + (0))), some (.ref (k.b + (189))), some (.ref (k.b + (197))), some (.ref (k.b + (198))), some (.int x5), some (.int r1.1), some (.int r2.1), none] dL_law_1430 (Nat.le_of_ble_eq_true rfl) rfl ?_
  refine r_aload_n X (x := k.b + (189)) dL_law_1432 rfl ?_
  refine r_callV X [] [] (K10_thrown (r := r2.2) rfl) lkL_164 clsX10 rfl _ o_model ⟨(Nat.le_of_ble_eq_true rfl), (Nat.le_of_ble_eq_true rfl)⟩ rfl rfl (by show n + 1 + 0 ≤ 601024; omega) (by show n' + 6 + 0 ≤ 7293034; omega) rfl rfl (Nat.le_of_ble_eq_true rfl) rfl rfl dL_law_1433 ?_
  refine r_iload X (x := r1.1) dL_law_1436 rfl ?_
  refine r_icmp_eq X 1443 dL_law_1438 rfl (fun c1438 => ?_) (fun c1438 => absurd h3 c1438)
  refine r_iload X (x := r1.1) dL_law_1443 rfl ?_
  refine r_if_ne X 1460 dL_law_1445 rfl (fun c6 => ?_) (fun c6 => ?_)
  · refine r_goto X 3060 dL_law_1460 rfl ?_
    refine r_iinc X (x := x5) (v := x5 + 6) [some (.ref b0), some (.ref (k.b + (0))), some (.ref (k.b + (189))), some (.ref (k.b + (197))), some (.ref (k.b + (198))), some (.int (x5 + 6)), some (.int r1.1), some (.int r2.1), none] dL_law_3060 rfl rfl rfl ?_
    refine r_goto X 28 dL_law_3063 rfl ?_
    refine VW.msk [true, true, true, true, true, true, false, false, false] rfl (lo' := [some (.ref b0), some (.ref (k.b + (0))), some (.ref (k.b + (189))), some (.ref (k.b + (197))), some (.ref (k.b + (198))), some (.int (x5 + 6)), none, none, none]) rfl ?_
    exact VW.widen (c := n + 1) (s := n' + 6) (by omega) (by omega) kk
  · refine r_aload_n X (x := k.b + (197)) dL_law_1448 rfl ?_
    refine r_iconst X (v := 0) dL_law_1449 rfl ?_
    refine r_laload X (f := r1.2) _ a_m_ou (by decide) dL_law_1450 ?_
    refine r_iload X (x := r2.1) dL_law_1451 rfl ?_
    refine r_i2l X dL_law_1453 ?_
    refine r_lcmp_eq X 1460 dL_law_1454 dL_law_1455 rfl (fun c1454 => ?_) (fun c1454 => absurd (h4 c6) c1454)
    refine r_goto X 3060 dL_law_1460 rfl ?_
    refine r_iinc X (x := x5) (v := x5 + 6) [some (.ref b0), some (.ref (k.b + (0))), some (.ref (k.b + (189))), some (.ref (k.b + (197))), some (.ref (k.b + (198))), some (.int (x5 + 6)), some (.int r1.1), some (.int r2.1), none] dL_law_3060 rfl rfl rfl ?_
    refine r_goto X 28 dL_law_3063 rfl ?_
    refine VW.msk [true, true, true, true, true, true, false, false, false] rfl (lo' := [some (.ref b0), some (.ref (k.b + (0))), some (.ref (k.b + (189))), some (.ref (k.b + (197))), some (.ref (k.b + (198))), some (.int (x5 + 6)), none, none, none]) rfl ?_
    exact VW.widen (c := n + 1) (s := n' + 6) (by omega) (by omega) kk
set_option maxRecDepth 100000 in
set_option maxHeartbeats 4000000 in
theorem LT_22 {k : KT} {z : ZT} (X : XX k strs z RL cL_law 9 ret room_1) {b0 len : Nat} {xs : Nat → Int32} (hX : va_X b0 len xs (zS z) (zS z).heap) (hbl : b0 < (zS z).heap.size) (hbA : ¬ kA k b0) {T : TT} {R : RR} {ly : Fin 2 → LL} {rc : RC} {hn : HN} {rp : RP} {tp : TP} {ee : EE} {st : Fin 12 → SS} {w : Nat → Int64} {aside : Nat → Int64} {thought : Nat → Int64} {fresh : Nat → Int64} {mu : MU} {th : Int32} {mp : MP} {mf : MF} {mh : MH} {mg : MG} {ou : Nat → Int64} {od : Nat → UInt64} {n n' : Nat} (hnc : n + 1 ≤ 601024) (hns : n' + 6 ≤ 7293034) {x5 : Int32} (hlt : ¬ (Int32.ofNat len - 6 < x5)) (g0 : inb (x5) len = true) (g1 : inb (x5 + 1) len = true) (g2 : inb (x5 + 2) len = true) (g3 : inb (x5 + 3) len = true) (g4 : inb (x5 + 4) len = true) (g5 : inb (x5 + 5) len = true) (hc : xs (ix x5) &&& 63 = 22) {r1 : Int32 × (Nat → Int64)} {r2 : Int32 × (Int32)} (h1 : fL_flange (ly (0 : Fin 2)) tp st ou (xs (ix (x5 + 1))) (xs (ix (x5 + 2))) = some r1) (h2 : f10_flange w th (xs (ix (x5 + 1))) (xs (ix (x5 + 2))) = some r2) (h3 : r2.2 = r1.1) (h4 : r1.1 = 0 → r1.2 (ix 0) = r2.1.toInt64) (kk : VW k z (n + 1) (n' + 6) (wAll k T R ly rc hn rp tp ee st w aside thought fresh mu r2.2 mp mf mh mg r1.2 od) 28 [some (.ref b0), some (.ref (k.b + (0))), some (.ref (k.b + (189))), some (.ref (k.b + (197))), some (.ref (k.b + (198))), some (.int (x5 + 6)), none, none, none] []) : VW k z n n' (wAll k T R ly rc hn rp tp ee st w aside thought fresh mu th mp mf mh mg ou od) 28 [some (.ref b0), some (.ref (k.b + (0))), some (.ref (k.b + (189))), some (.ref (k.b + (197))), some (.ref (k.b + (198))), some (.int x5), none, none, none] [] := by
  refine r_iload X (x := x5) dL_law_28 rfl ?_
  refine r_aload_n X (x := b0) dL_law_30 rfl ?_
  refine r_slen X hX hbl hbA dL_law_31 ?_
  refine r_bipush X (v := 6) dL_law_32 rfl ?_
  refine r_isub X dL_law_34 ?_
  refine r_icmp_gt X 3066 dL_law_35 rfl (fun c => absurd c hlt) (fun _ => ?_)
  refine r_aload_n X (x := b0) dL_law_38 rfl ?_
  refine r_iload X (x := x5) dL_law_39 rfl ?_
  refine r_sld X hX hbl hbA g0 dL_law_41 ?_
  refine r_bipush X (v := 63) dL_law_42 rfl ?_
  refine r_iand X dL_law_44 ?_
  refine r_tswIn X (off := 1418) 1463 dL_law_45 (by rw [hc]; decide) (by rw [hc]; decide) (by rw [hc]; rfl) rfl ?_
  refine r_aload_n X (x := k.b + (0)) dL_law_1463 rfl ?_
  refine r_aload_n X (x := b0) dL_law_1464 rfl ?_
  refine r_iload X (x := x5) dL_law_1465 rfl ?_
  refine r_iconst X (v := 1) dL_law_1467 rfl ?_
  refine r_iadd X dL_law_1468 ?_
  refine r_sld X hX hbl hbA g1 dL_law_1469 ?_
  refine r_aload_n X (x := b0) dL_law_1470 rfl ?_
  refine r_iload X (x := x5) dL_law_1471 rfl ?_
  refine r_iconst X (v := 2) dL_law_1473 rfl ?_
  refine r_iadd X dL_law_1474 ?_
  refine r_sld X hX hbl hbA g2 dL_law_1475 ?_
  refine r_aload_n X (x := k.b + (197)) dL_law_1476 rfl ?_
  refine r_callSW X [.ref (k.b + (0)), .int (xs (ix (x5 + 1))), .int (xs (ix (x5 + 2))), .ref (k.b + (197))] [] (KL_flange h1) lkL_flange ⟨(Nat.le_of_ble_eq_true rfl), (Nat.le_of_ble_eq_true rfl)⟩ rfl rfl (by show n + 1 ≤ 601024; omega) (by show n' + 6 ≤ 7293034; omega) rfl rfl (Nat.le_of_ble_eq_true rfl) rfl rfl dL_law_1477 ?_
  refine r_istore X [some (.ref b0), some (.ref (k.b + (0))), some (.ref (k.b + (189))), some (.ref (k.b + (197))), some (.ref (k.b + (198))), some (.int x5), some (.int r1.1), none, none] dL_law_1480 (Nat.le_of_ble_eq_true rfl) rfl ?_
  refine r_aload_n X (x := k.b + (189)) dL_law_1482 rfl ?_
  refine r_aload_n X (x := b0) dL_law_1483 rfl ?_
  refine r_iload X (x := x5) dL_law_1484 rfl ?_
  refine r_iconst X (v := 1) dL_law_1486 rfl ?_
  refine r_iadd X dL_law_1487 ?_
  refine r_sld X hX hbl hbA g1 dL_law_1488 ?_
  refine r_aload_n X (x := b0) dL_law_1489 rfl ?_
  refine r_iload X (x := x5) dL_law_1490 rfl ?_
  refine r_iconst X (v := 2) dL_law_1492 rfl ?_
  refine r_iadd X dL_law_1493 ?_
  refine r_sld X hX hbl hbA g2 dL_law_1494 ?_
  refine r_callV X [.int (xs (ix (x5 + 1))), .int (xs (ix (x5 + 2)))] [] (K10_flange h2) lkL_238 clsX10 rfl _ o_model ⟨(Nat.le_of_ble_eq_true rfl), (Nat.le_of_ble_eq_true rfl)⟩ rfl rfl (by show n + 1 + 0 ≤ 601024; omega) (by show n' + 6 + 0 ≤ 7293034; omega) rfl rfl (Nat.le_of_ble_eq_true rfl) rfl rfl dL_law_1495 ?_
  refine r_istore X [some (.ref b0), some (.ref (k.b + (0))), some (.ref (k.b + (189))), some (.ref (k.b + (197))), some (.ref (k.b + (198))), some (.int x5), some (.int r1.1), some (.int r2.1), none] dL_law_1498 (Nat.le_of_ble_eq_true rfl) rfl ?_
  refine r_aload_n X (x := k.b + (189)) dL_law_1500 rfl ?_
  refine r_callV X [] [] (K10_thrown (r := r2.2) rfl) lkL_164 clsX10 rfl _ o_model ⟨(Nat.le_of_ble_eq_true rfl), (Nat.le_of_ble_eq_true rfl)⟩ rfl rfl (by show n + 1 + 0 ≤ 601024; omega) (by show n' + 6 + 0 ≤ 7293034; omega) rfl rfl (Nat.le_of_ble_eq_true rfl) rfl rfl dL_law_1501 ?_
  refine r_iload X (x := r1.1) dL_law_1504 rfl ?_
  refine r_icmp_eq X 1511 dL_law_1506 rfl (fun c1506 => ?_) (fun c1506 => absurd h3 c1506)
  refine r_iload X (x := r1.1) dL_law_1511 rfl ?_
  refine r_if_ne X 1528 dL_law_1513 rfl (fun c6 => ?_) (fun c6 => ?_)
  · refine r_goto X 3060 dL_law_1528 rfl ?_
    refine r_iinc X (x := x5) (v := x5 + 6) [some (.ref b0), some (.ref (k.b + (0))), some (.ref (k.b + (189))), some (.ref (k.b + (197))), some (.ref (k.b + (198))), some (.int (x5 + 6)), some (.int r1.1), some (.int r2.1), none] dL_law_3060 rfl rfl rfl ?_
    refine r_goto X 28 dL_law_3063 rfl ?_
    refine VW.msk [true, true, true, true, true, true, false, false, false] rfl (lo' := [some (.ref b0), some (.ref (k.b + (0))), some (.ref (k.b + (189))), some (.ref (k.b + (197))), some (.ref (k.b + (198))), some (.int (x5 + 6)), none, none, none]) rfl ?_
    exact VW.widen (c := n + 1) (s := n' + 6) (by omega) (by omega) kk
  · refine r_aload_n X (x := k.b + (197)) dL_law_1516 rfl ?_
    refine r_iconst X (v := 0) dL_law_1517 rfl ?_
    refine r_laload X (f := r1.2) _ a_m_ou (by decide) dL_law_1518 ?_
    refine r_iload X (x := r2.1) dL_law_1519 rfl ?_
    refine r_i2l X dL_law_1521 ?_
    refine r_lcmp_eq X 1528 dL_law_1522 dL_law_1523 rfl (fun c1522 => ?_) (fun c1522 => absurd (h4 c6) c1522)
    refine r_goto X 3060 dL_law_1528 rfl ?_
    refine r_iinc X (x := x5) (v := x5 + 6) [some (.ref b0), some (.ref (k.b + (0))), some (.ref (k.b + (189))), some (.ref (k.b + (197))), some (.ref (k.b + (198))), some (.int (x5 + 6)), some (.int r1.1), some (.int r2.1), none] dL_law_3060 rfl rfl rfl ?_
    refine r_goto X 28 dL_law_3063 rfl ?_
    refine VW.msk [true, true, true, true, true, true, false, false, false] rfl (lo' := [some (.ref b0), some (.ref (k.b + (0))), some (.ref (k.b + (189))), some (.ref (k.b + (197))), some (.ref (k.b + (198))), some (.int (x5 + 6)), none, none, none]) rfl ?_
    exact VW.widen (c := n + 1) (s := n' + 6) (by omega) (by omega) kk
set_option maxRecDepth 100000 in
set_option maxHeartbeats 4000000 in
theorem LT_23 {k : KT} {z : ZT} (X : XX k strs z RL cL_law 9 ret room_1) {b0 len : Nat} {xs : Nat → Int32} (hX : va_X b0 len xs (zS z) (zS z).heap) (hbl : b0 < (zS z).heap.size) (hbA : ¬ kA k b0) {T : TT} {R : RR} {ly : Fin 2 → LL} {rc : RC} {hn : HN} {rp : RP} {tp : TP} {ee : EE} {st : Fin 12 → SS} {w : Nat → Int64} {aside : Nat → Int64} {thought : Nat → Int64} {fresh : Nat → Int64} {mu : MU} {th : Int32} {mp : MP} {mf : MF} {mh : MH} {mg : MG} {ou : Nat → Int64} {od : Nat → UInt64} {n n' : Nat} (hnc : n + 1 ≤ 601024) (hns : n' + 6 ≤ 7293034) {x5 : Int32} (hlt : ¬ (Int32.ofNat len - 6 < x5)) (g0 : inb (x5) len = true) (g1 : inb (x5 + 1) len = true) (g2 : inb (x5 + 2) len = true) (g3 : inb (x5 + 3) len = true) (g4 : inb (x5 + 4) len = true) (g5 : inb (x5 + 5) len = true) (hc : xs (ix x5) &&& 63 = 23) {r1 : Int32 × (Nat → Int64)} {r2 : Int32 × (Int32)} (h1 : fL_rise tp st ou (xs (ix (x5 + 1))) (xs (ix (x5 + 2))) = some r1) (h2 : f10_rise w th (xs (ix (x5 + 1))) (xs (ix (x5 + 2))) = some r2) (h3 : r2.2 = r1.1) (h4 : r1.1 = 0 → r1.2 (ix 0) = r2.1.toInt64) (kk : VW k z (n + 1) (n' + 6) (wAll k T R ly rc hn rp tp ee st w aside thought fresh mu r2.2 mp mf mh mg r1.2 od) 28 [some (.ref b0), some (.ref (k.b + (0))), some (.ref (k.b + (189))), some (.ref (k.b + (197))), some (.ref (k.b + (198))), some (.int (x5 + 6)), none, none, none] []) : VW k z n n' (wAll k T R ly rc hn rp tp ee st w aside thought fresh mu th mp mf mh mg ou od) 28 [some (.ref b0), some (.ref (k.b + (0))), some (.ref (k.b + (189))), some (.ref (k.b + (197))), some (.ref (k.b + (198))), some (.int x5), none, none, none] [] := by
  refine r_iload X (x := x5) dL_law_28 rfl ?_
  refine r_aload_n X (x := b0) dL_law_30 rfl ?_
  refine r_slen X hX hbl hbA dL_law_31 ?_
  refine r_bipush X (v := 6) dL_law_32 rfl ?_
  refine r_isub X dL_law_34 ?_
  refine r_icmp_gt X 3066 dL_law_35 rfl (fun c => absurd c hlt) (fun _ => ?_)
  refine r_aload_n X (x := b0) dL_law_38 rfl ?_
  refine r_iload X (x := x5) dL_law_39 rfl ?_
  refine r_sld X hX hbl hbA g0 dL_law_41 ?_
  refine r_bipush X (v := 63) dL_law_42 rfl ?_
  refine r_iand X dL_law_44 ?_
  refine r_tswIn X (off := 1486) 1531 dL_law_45 (by rw [hc]; decide) (by rw [hc]; decide) (by rw [hc]; rfl) rfl ?_
  refine r_aload_n X (x := k.b + (0)) dL_law_1531 rfl ?_
  refine r_aload_n X (x := b0) dL_law_1532 rfl ?_
  refine r_iload X (x := x5) dL_law_1533 rfl ?_
  refine r_iconst X (v := 1) dL_law_1535 rfl ?_
  refine r_iadd X dL_law_1536 ?_
  refine r_sld X hX hbl hbA g1 dL_law_1537 ?_
  refine r_aload_n X (x := b0) dL_law_1538 rfl ?_
  refine r_iload X (x := x5) dL_law_1539 rfl ?_
  refine r_iconst X (v := 2) dL_law_1541 rfl ?_
  refine r_iadd X dL_law_1542 ?_
  refine r_sld X hX hbl hbA g2 dL_law_1543 ?_
  refine r_aload_n X (x := k.b + (197)) dL_law_1544 rfl ?_
  refine r_callSW X [.ref (k.b + (0)), .int (xs (ix (x5 + 1))), .int (xs (ix (x5 + 2))), .ref (k.b + (197))] [] (KL_rise h1) lkL_rise ⟨(Nat.le_of_ble_eq_true rfl), (Nat.le_of_ble_eq_true rfl)⟩ rfl rfl (by show n + 1 ≤ 601024; omega) (by show n' + 6 ≤ 7293034; omega) rfl rfl (Nat.le_of_ble_eq_true rfl) rfl rfl dL_law_1545 ?_
  refine r_istore X [some (.ref b0), some (.ref (k.b + (0))), some (.ref (k.b + (189))), some (.ref (k.b + (197))), some (.ref (k.b + (198))), some (.int x5), some (.int r1.1), none, none] dL_law_1548 (Nat.le_of_ble_eq_true rfl) rfl ?_
  refine r_aload_n X (x := k.b + (189)) dL_law_1550 rfl ?_
  refine r_aload_n X (x := b0) dL_law_1551 rfl ?_
  refine r_iload X (x := x5) dL_law_1552 rfl ?_
  refine r_iconst X (v := 1) dL_law_1554 rfl ?_
  refine r_iadd X dL_law_1555 ?_
  refine r_sld X hX hbl hbA g1 dL_law_1556 ?_
  refine r_aload_n X (x := b0) dL_law_1557 rfl ?_
  refine r_iload X (x := x5) dL_law_1558 rfl ?_
  refine r_iconst X (v := 2) dL_law_1560 rfl ?_
  refine r_iadd X dL_law_1561 ?_
  refine r_sld X hX hbl hbA g2 dL_law_1562 ?_
  refine r_callV X [.int (xs (ix (x5 + 1))), .int (xs (ix (x5 + 2)))] [] (K10_rise h2) lkL_241 clsX10 rfl _ o_model ⟨(Nat.le_of_ble_eq_true rfl), (Nat.le_of_ble_eq_true rfl)⟩ rfl rfl (by show n + 1 + 0 ≤ 601024; omega) (by show n' + 6 + 0 ≤ 7293034; omega) rfl rfl (Nat.le_of_ble_eq_true rfl) rfl rfl dL_law_1563 ?_
  refine r_istore X [some (.ref b0), some (.ref (k.b + (0))), some (.ref (k.b + (189))), some (.ref (k.b + (197))), some (.ref (k.b + (198))), some (.int x5), some (.int r1.1), some (.int r2.1), none] dL_law_1566 (Nat.le_of_ble_eq_true rfl) rfl ?_
  refine r_aload_n X (x := k.b + (189)) dL_law_1568 rfl ?_
  refine r_callV X [] [] (K10_thrown (r := r2.2) rfl) lkL_164 clsX10 rfl _ o_model ⟨(Nat.le_of_ble_eq_true rfl), (Nat.le_of_ble_eq_true rfl)⟩ rfl rfl (by show n + 1 + 0 ≤ 601024; omega) (by show n' + 6 + 0 ≤ 7293034; omega) rfl rfl (Nat.le_of_ble_eq_true rfl) rfl rfl dL_law_1569 ?_
  refine r_iload X (x := r1.1) dL_law_1572 rfl ?_
  refine r_icmp_eq X 1579 dL_law_1574 rfl (fun c1574 => ?_) (fun c1574 => absurd h3 c1574)
  refine r_iload X (x := r1.1) dL_law_1579 rfl ?_
  refine r_if_ne X 1596 dL_law_1581 rfl (fun c6 => ?_) (fun c6 => ?_)
  · refine r_goto X 3060 dL_law_1596 rfl ?_
    refine r_iinc X (x := x5) (v := x5 + 6) [some (.ref b0), some (.ref (k.b + (0))), some (.ref (k.b + (189))), some (.ref (k.b + (197))), some (.ref (k.b + (198))), some (.int (x5 + 6)), some (.int r1.1), some (.int r2.1), none] dL_law_3060 rfl rfl rfl ?_
    refine r_goto X 28 dL_law_3063 rfl ?_
    refine VW.msk [true, true, true, true, true, true, false, false, false] rfl (lo' := [some (.ref b0), some (.ref (k.b + (0))), some (.ref (k.b + (189))), some (.ref (k.b + (197))), some (.ref (k.b + (198))), some (.int (x5 + 6)), none, none, none]) rfl ?_
    exact VW.widen (c := n + 1) (s := n' + 6) (by omega) (by omega) kk
  · refine r_aload_n X (x := k.b + (197)) dL_law_1584 rfl ?_
    refine r_iconst X (v := 0) dL_law_1585 rfl ?_
    refine r_laload X (f := r1.2) _ a_m_ou (by decide) dL_law_1586 ?_
    refine r_iload X (x := r2.1) dL_law_1587 rfl ?_
    refine r_i2l X dL_law_1589 ?_
    refine r_lcmp_eq X 1596 dL_law_1590 dL_law_1591 rfl (fun c1590 => ?_) (fun c1590 => absurd (h4 c6) c1590)
    refine r_goto X 3060 dL_law_1596 rfl ?_
    refine r_iinc X (x := x5) (v := x5 + 6) [some (.ref b0), some (.ref (k.b + (0))), some (.ref (k.b + (189))), some (.ref (k.b + (197))), some (.ref (k.b + (198))), some (.int (x5 + 6)), some (.int r1.1), some (.int r2.1), none] dL_law_3060 rfl rfl rfl ?_
    refine r_goto X 28 dL_law_3063 rfl ?_
    refine VW.msk [true, true, true, true, true, true, false, false, false] rfl (lo' := [some (.ref b0), some (.ref (k.b + (0))), some (.ref (k.b + (189))), some (.ref (k.b + (197))), some (.ref (k.b + (198))), some (.int (x5 + 6)), none, none, none]) rfl ?_
    exact VW.widen (c := n + 1) (s := n' + 6) (by omega) (by omega) kk
set_option maxRecDepth 100000 in
set_option maxHeartbeats 4000000 in
theorem LT_24 {k : KT} {z : ZT} (X : XX k strs z RL cL_law 9 ret room_1) {b0 len : Nat} {xs : Nat → Int32} (hX : va_X b0 len xs (zS z) (zS z).heap) (hbl : b0 < (zS z).heap.size) (hbA : ¬ kA k b0) {T : TT} {R : RR} {ly : Fin 2 → LL} {rc : RC} {hn : HN} {rp : RP} {tp : TP} {ee : EE} {st : Fin 12 → SS} {w : Nat → Int64} {aside : Nat → Int64} {thought : Nat → Int64} {fresh : Nat → Int64} {mu : MU} {th : Int32} {mp : MP} {mf : MF} {mh : MH} {mg : MG} {ou : Nat → Int64} {od : Nat → UInt64} {n n' : Nat} (hnc : n + 1 ≤ 601024) (hns : n' + 6 ≤ 7293034) {x5 : Int32} (hlt : ¬ (Int32.ofNat len - 6 < x5)) (g0 : inb (x5) len = true) (g1 : inb (x5 + 1) len = true) (g2 : inb (x5 + 2) len = true) (g3 : inb (x5 + 3) len = true) (g4 : inb (x5 + 4) len = true) (g5 : inb (x5 + 5) len = true) (hc : xs (ix x5) &&& 63 = 24) {r1 : Int32 × (Nat → Int64)} {r2 : Int64 × (Int32)} (h1 : fL_riseGas tp st ou (xs (ix (x5 + 1))) (if (xs (ix (x5 + 2))) = 0 then (0 : Int32) else (1 : Int32)) = some r1) (h2 : f10_riseGas w th (xs (ix (x5 + 1))) (if (xs (ix (x5 + 2))) = 0 then (0 : Int32) else (1 : Int32)) = some r2) (h3 : r2.2 = r1.1) (h4 : r1.1 = 0 → r1.2 (ix 0) = r2.1) (kk : VW k z (n + 1) (n' + 6) (wAll k T R ly rc hn rp tp ee st w aside thought fresh mu r2.2 mp mf mh mg r1.2 od) 28 [some (.ref b0), some (.ref (k.b + (0))), some (.ref (k.b + (189))), some (.ref (k.b + (197))), some (.ref (k.b + (198))), some (.int (x5 + 6)), none, none, none] []) : VW k z n n' (wAll k T R ly rc hn rp tp ee st w aside thought fresh mu th mp mf mh mg ou od) 28 [some (.ref b0), some (.ref (k.b + (0))), some (.ref (k.b + (189))), some (.ref (k.b + (197))), some (.ref (k.b + (198))), some (.int x5), none, none, none] [] := by
  refine r_iload X (x := x5) dL_law_28 rfl ?_
  refine r_aload_n X (x := b0) dL_law_30 rfl ?_
  refine r_slen X hX hbl hbA dL_law_31 ?_
  refine r_bipush X (v := 6) dL_law_32 rfl ?_
  refine r_isub X dL_law_34 ?_
  refine r_icmp_gt X 3066 dL_law_35 rfl (fun c => absurd c hlt) (fun _ => ?_)
  refine r_aload_n X (x := b0) dL_law_38 rfl ?_
  refine r_iload X (x := x5) dL_law_39 rfl ?_
  refine r_sld X hX hbl hbA g0 dL_law_41 ?_
  refine r_bipush X (v := 63) dL_law_42 rfl ?_
  refine r_iand X dL_law_44 ?_
  refine r_tswIn X (off := 1554) 1599 dL_law_45 (by rw [hc]; decide) (by rw [hc]; decide) (by rw [hc]; rfl) rfl ?_
  refine r_aload_n X (x := k.b + (0)) dL_law_1599 rfl ?_
  refine r_aload_n X (x := b0) dL_law_1600 rfl ?_
  refine r_iload X (x := x5) dL_law_1601 rfl ?_
  refine r_iconst X (v := 1) dL_law_1603 rfl ?_
  refine r_iadd X dL_law_1604 ?_
  refine r_sld X hX hbl hbA g1 dL_law_1605 ?_
  refine r_aload_n X (x := b0) dL_law_1606 rfl ?_
  refine r_iload X (x := x5) dL_law_1607 rfl ?_
  refine r_iconst X (v := 2) dL_law_1609 rfl ?_
  refine r_iadd X dL_law_1610 ?_
  refine r_sld X hX hbl hbA g2 dL_law_1611 ?_
  suffices K1612 : VW k z (n) (n') (wAll k T R ly rc hn rp tp ee st w aside thought fresh mu th mp mf mh mg ou od) 1620 [some (.ref b0), some (.ref (k.b + (0))), some (.ref (k.b + (189))), some (.ref (k.b + (197))), some (.ref (k.b + (198))), some (.int x5), none, none, none] [.int (if (xs (ix (x5 + 2))) = 0 then (0 : Int32) else (1 : Int32)), .int (xs (ix (x5 + 1))), .ref (k.b + (0))] by
    refine r_if_eq X 1619 dL_law_1612 rfl (fun c1612 => ?_) (fun c1612 => ?_)
    · refine r_iconst X (v := 0) dL_law_1619 rfl ?_
      rw [if_pos c1612] at K1612
      exact K1612
    · refine r_iconst X (v := 1) dL_law_1615 rfl ?_
      refine r_goto X 1620 dL_law_1616 rfl ?_
      rw [if_neg c1612] at K1612
      exact K1612
  refine r_aload_n X (x := k.b + (197)) dL_law_1620 rfl ?_
  refine r_callSW X [.ref (k.b + (0)), .int (xs (ix (x5 + 1))), .int (if (xs (ix (x5 + 2))) = 0 then (0 : Int32) else (1 : Int32)), .ref (k.b + (197))] [] (KL_riseGas h1) lkL_riseGas ⟨(Nat.le_of_ble_eq_true rfl), (Nat.le_of_ble_eq_true rfl)⟩ rfl rfl (by show n + 1 ≤ 601024; omega) (by show n' + 6 ≤ 7293034; omega) rfl rfl (Nat.le_of_ble_eq_true rfl) rfl rfl dL_law_1621 ?_
  refine r_istore X [some (.ref b0), some (.ref (k.b + (0))), some (.ref (k.b + (189))), some (.ref (k.b + (197))), some (.ref (k.b + (198))), some (.int x5), some (.int r1.1), none, none] dL_law_1624 (Nat.le_of_ble_eq_true rfl) rfl ?_
  refine r_aload_n X (x := k.b + (189)) dL_law_1626 rfl ?_
  refine r_aload_n X (x := b0) dL_law_1627 rfl ?_
  refine r_iload X (x := x5) dL_law_1628 rfl ?_
  refine r_iconst X (v := 1) dL_law_1630 rfl ?_
  refine r_iadd X dL_law_1631 ?_
  refine r_sld X hX hbl hbA g1 dL_law_1632 ?_
  refine r_aload_n X (x := b0) dL_law_1633 rfl ?_
  refine r_iload X (x := x5) dL_law_1634 rfl ?_
  refine r_iconst X (v := 2) dL_law_1636 rfl ?_
  refine r_iadd X dL_law_1637 ?_
  refine r_sld X hX hbl hbA g2 dL_law_1638 ?_
  suffices K1639 : VW k z (n + 1) (n' + 6) (wAll k T R ly rc hn rp tp ee st w aside thought fresh mu th mp mf mh mg r1.2 od) 1647 [some (.ref b0), some (.ref (k.b + (0))), some (.ref (k.b + (189))), some (.ref (k.b + (197))), some (.ref (k.b + (198))), some (.int x5), some (.int r1.1), none, none] [.int (if (xs (ix (x5 + 2))) = 0 then (0 : Int32) else (1 : Int32)), .int (xs (ix (x5 + 1))), .ref (k.b + (189))] by
    refine r_if_eq X 1646 dL_law_1639 rfl (fun c1639 => ?_) (fun c1639 => ?_)
    · refine r_iconst X (v := 0) dL_law_1646 rfl ?_
      rw [if_pos c1639] at K1639
      exact K1639
    · refine r_iconst X (v := 1) dL_law_1642 rfl ?_
      refine r_goto X 1647 dL_law_1643 rfl ?_
      rw [if_neg c1639] at K1639
      exact K1639
  refine r_callV X [.int (xs (ix (x5 + 1))), .int (if (xs (ix (x5 + 2))) = 0 then (0 : Int32) else (1 : Int32))] [] (K10_riseGas h2) lkL_245 clsX10 rfl _ o_model ⟨(Nat.le_of_ble_eq_true rfl), (Nat.le_of_ble_eq_true rfl)⟩ rfl rfl (by show n + 1 + 0 ≤ 601024; omega) (by show n' + 6 + 0 ≤ 7293034; omega) rfl rfl (Nat.le_of_ble_eq_true rfl) rfl rfl dL_law_1647 ?_
  refine r_lstore X [some (.ref b0), some (.ref (k.b + (0))), some (.ref (k.b + (189))), some (.ref (k.b + (197))), some (.ref (k.b + (198))), some (.int x5), some (.int r1.1), some (.long r2.1), none] dL_law_1650 (Nat.le_of_ble_eq_true rfl) rfl ?_
  refine r_aload_n X (x := k.b + (189)) dL_law_1652 rfl ?_
  refine r_callV X [] [] (K10_thrown (r := r2.2) rfl) lkL_164 clsX10 rfl _ o_model ⟨(Nat.le_of_ble_eq_true rfl), (Nat.le_of_ble_eq_true rfl)⟩ rfl rfl (by show n + 1 + 0 ≤ 601024; omega) (by show n' + 6 + 0 ≤ 7293034; omega) rfl rfl (Nat.le_of_ble_eq_true rfl) rfl rfl dL_law_1653 ?_
  refine r_iload X (x := r1.1) dL_law_1656 rfl ?_
  refine r_icmp_eq X 1663 dL_law_1658 rfl (fun c1658 => ?_) (fun c1658 => absurd h3 c1658)
  refine r_iload X (x := r1.1) dL_law_1663 rfl ?_
  refine r_if_ne X 1679 dL_law_1665 rfl (fun c6 => ?_) (fun c6 => ?_)
  · refine r_goto X 3060 dL_law_1679 rfl ?_
    refine r_iinc X (x := x5) (v := x5 + 6) [some (.ref b0), some (.ref (k.b + (0))), some (.ref (k.b + (189))), some (.ref (k.b + (197))), some (.ref (k.b + (198))), some (.int (x5 + 6)), some (.int r1.1), some (.long r2.1), none] dL_law_3060 rfl rfl rfl ?_
    refine r_goto X 28 dL_law_3063 rfl ?_
    refine VW.msk [true, true, true, true, true, true, false, false, false] rfl (lo' := [some (.ref b0), some (.ref (k.b + (0))), some (.ref (k.b + (189))), some (.ref (k.b + (197))), some (.ref (k.b + (198))), some (.int (x5 + 6)), none, none, none]) rfl ?_
    exact VW.widen (c := n + 1) (s := n' + 6) (by omega) (by omega) kk
  · refine r_aload_n X (x := k.b + (197)) dL_law_1668 rfl ?_
    refine r_iconst X (v := 0) dL_law_1669 rfl ?_
    refine r_laload X (f := r1.2) _ a_m_ou (by decide) dL_law_1670 ?_
    refine r_lload X (x := r2.1) dL_law_1671 rfl ?_
    refine r_lcmp_eq X 1679 dL_law_1673 dL_law_1674 rfl (fun c1673 => ?_) (fun c1673 => absurd (h4 c6) c1673)
    refine r_goto X 3060 dL_law_1679 rfl ?_
    refine r_iinc X (x := x5) (v := x5 + 6) [some (.ref b0), some (.ref (k.b + (0))), some (.ref (k.b + (189))), some (.ref (k.b + (197))), some (.ref (k.b + (198))), some (.int (x5 + 6)), some (.int r1.1), some (.long r2.1), none] dL_law_3060 rfl rfl rfl ?_
    refine r_goto X 28 dL_law_3063 rfl ?_
    refine VW.msk [true, true, true, true, true, true, false, false, false] rfl (lo' := [some (.ref b0), some (.ref (k.b + (0))), some (.ref (k.b + (189))), some (.ref (k.b + (197))), some (.ref (k.b + (198))), some (.int (x5 + 6)), none, none, none]) rfl ?_
    exact VW.widen (c := n + 1) (s := n' + 6) (by omega) (by omega) kk
set_option maxRecDepth 100000 in
set_option maxHeartbeats 4000000 in
theorem LT_25 {k : KT} {z : ZT} (X : XX k strs z RL cL_law 9 ret room_1) {b0 len : Nat} {xs : Nat → Int32} (hX : va_X b0 len xs (zS z) (zS z).heap) (hbl : b0 < (zS z).heap.size) (hbA : ¬ kA k b0) {T : TT} {R : RR} {ly : Fin 2 → LL} {rc : RC} {hn : HN} {rp : RP} {tp : TP} {ee : EE} {st : Fin 12 → SS} {w : Nat → Int64} {aside : Nat → Int64} {thought : Nat → Int64} {fresh : Nat → Int64} {mu : MU} {th : Int32} {mp : MP} {mf : MF} {mh : MH} {mg : MG} {ou : Nat → Int64} {od : Nat → UInt64} {n n' : Nat} (hnc : n + 1 ≤ 601024) (hns : n' + 6 ≤ 7293034) {x5 : Int32} (hlt : ¬ (Int32.ofNat len - 6 < x5)) (g0 : inb (x5) len = true) (g1 : inb (x5 + 1) len = true) (g2 : inb (x5 + 2) len = true) (g3 : inb (x5 + 3) len = true) (g4 : inb (x5 + 4) len = true) (g5 : inb (x5 + 5) len = true) (hc : xs (ix x5) &&& 63 = 25) {r1 : Int32 × (Nat → Int64)} {r2 : Int32 × (Int32)} (h1 : fL_mayOpen (ly (0 : Fin 2)) tp st ou (xs (ix (x5 + 1))) = some r1) (h2 : f10_mayOpen w th (xs (ix (x5 + 1))) = some r2) (h3 : r2.2 = r1.1) (h4 : r1.1 = 0 → r1.2 (ix 0) = r2.1.toInt64) (kk : VW k z (n + 1) (n' + 6) (wAll k T R ly rc hn rp tp ee st w aside thought fresh mu r2.2 mp mf mh mg r1.2 od) 28 [some (.ref b0), some (.ref (k.b + (0))), some (.ref (k.b + (189))), some (.ref (k.b + (197))), some (.ref (k.b + (198))), some (.int (x5 + 6)), none, none, none] []) : VW k z n n' (wAll k T R ly rc hn rp tp ee st w aside thought fresh mu th mp mf mh mg ou od) 28 [some (.ref b0), some (.ref (k.b + (0))), some (.ref (k.b + (189))), some (.ref (k.b + (197))), some (.ref (k.b + (198))), some (.int x5), none, none, none] [] := by
  refine r_iload X (x := x5) dL_law_28 rfl ?_
  refine r_aload_n X (x := b0) dL_law_30 rfl ?_
  refine r_slen X hX hbl hbA dL_law_31 ?_
  refine r_bipush X (v := 6) dL_law_32 rfl ?_
  refine r_isub X dL_law_34 ?_
  refine r_icmp_gt X 3066 dL_law_35 rfl (fun c => absurd c hlt) (fun _ => ?_)
  refine r_aload_n X (x := b0) dL_law_38 rfl ?_
  refine r_iload X (x := x5) dL_law_39 rfl ?_
  refine r_sld X hX hbl hbA g0 dL_law_41 ?_
  refine r_bipush X (v := 63) dL_law_42 rfl ?_
  refine r_iand X dL_law_44 ?_
  refine r_tswIn X (off := 1637) 1682 dL_law_45 (by rw [hc]; decide) (by rw [hc]; decide) (by rw [hc]; rfl) rfl ?_
  refine r_aload_n X (x := k.b + (0)) dL_law_1682 rfl ?_
  refine r_aload_n X (x := b0) dL_law_1683 rfl ?_
  refine r_iload X (x := x5) dL_law_1684 rfl ?_
  refine r_iconst X (v := 1) dL_law_1686 rfl ?_
  refine r_iadd X dL_law_1687 ?_
  refine r_sld X hX hbl hbA g1 dL_law_1688 ?_
  refine r_aload_n X (x := k.b + (197)) dL_law_1689 rfl ?_
  refine r_callSW X [.ref (k.b + (0)), .int (xs (ix (x5 + 1))), .ref (k.b + (197))] [] (KL_mayOpen h1) lkL_mayOpen ⟨(Nat.le_of_ble_eq_true rfl), (Nat.le_of_ble_eq_true rfl)⟩ rfl rfl (by show n + 1 ≤ 601024; omega) (by show n' + 6 ≤ 7293034; omega) rfl rfl (Nat.le_of_ble_eq_true rfl) rfl rfl dL_law_1690 ?_
  refine r_istore X [some (.ref b0), some (.ref (k.b + (0))), some (.ref (k.b + (189))), some (.ref (k.b + (197))), some (.ref (k.b + (198))), some (.int x5), some (.int r1.1), none, none] dL_law_1693 (Nat.le_of_ble_eq_true rfl) rfl ?_
  refine r_aload_n X (x := k.b + (189)) dL_law_1695 rfl ?_
  refine r_aload_n X (x := b0) dL_law_1696 rfl ?_
  refine r_iload X (x := x5) dL_law_1697 rfl ?_
  refine r_iconst X (v := 1) dL_law_1699 rfl ?_
  refine r_iadd X dL_law_1700 ?_
  refine r_sld X hX hbl hbA g1 dL_law_1701 ?_
  refine r_callV X [.int (xs (ix (x5 + 1)))] [] (K10_mayOpen h2) lkL_248 clsX10 rfl _ o_model ⟨(Nat.le_of_ble_eq_true rfl), (Nat.le_of_ble_eq_true rfl)⟩ rfl rfl (by show n + 1 + 0 ≤ 601024; omega) (by show n' + 6 + 0 ≤ 7293034; omega) rfl rfl (Nat.le_of_ble_eq_true rfl) rfl rfl dL_law_1702 ?_
  refine r_istore X [some (.ref b0), some (.ref (k.b + (0))), some (.ref (k.b + (189))), some (.ref (k.b + (197))), some (.ref (k.b + (198))), some (.int x5), some (.int r1.1), some (.int r2.1), none] dL_law_1705 (Nat.le_of_ble_eq_true rfl) rfl ?_
  refine r_aload_n X (x := k.b + (189)) dL_law_1707 rfl ?_
  refine r_callV X [] [] (K10_thrown (r := r2.2) rfl) lkL_164 clsX10 rfl _ o_model ⟨(Nat.le_of_ble_eq_true rfl), (Nat.le_of_ble_eq_true rfl)⟩ rfl rfl (by show n + 1 + 0 ≤ 601024; omega) (by show n' + 6 + 0 ≤ 7293034; omega) rfl rfl (Nat.le_of_ble_eq_true rfl) rfl rfl dL_law_1708 ?_
  refine r_iload X (x := r1.1) dL_law_1711 rfl ?_
  refine r_icmp_eq X 1718 dL_law_1713 rfl (fun c1713 => ?_) (fun c1713 => absurd h3 c1713)
  refine r_iload X (x := r1.1) dL_law_1718 rfl ?_
  refine r_if_ne X 1735 dL_law_1720 rfl (fun c6 => ?_) (fun c6 => ?_)
  · refine r_goto X 3060 dL_law_1735 rfl ?_
    refine r_iinc X (x := x5) (v := x5 + 6) [some (.ref b0), some (.ref (k.b + (0))), some (.ref (k.b + (189))), some (.ref (k.b + (197))), some (.ref (k.b + (198))), some (.int (x5 + 6)), some (.int r1.1), some (.int r2.1), none] dL_law_3060 rfl rfl rfl ?_
    refine r_goto X 28 dL_law_3063 rfl ?_
    refine VW.msk [true, true, true, true, true, true, false, false, false] rfl (lo' := [some (.ref b0), some (.ref (k.b + (0))), some (.ref (k.b + (189))), some (.ref (k.b + (197))), some (.ref (k.b + (198))), some (.int (x5 + 6)), none, none, none]) rfl ?_
    exact VW.widen (c := n + 1) (s := n' + 6) (by omega) (by omega) kk
  · refine r_aload_n X (x := k.b + (197)) dL_law_1723 rfl ?_
    refine r_iconst X (v := 0) dL_law_1724 rfl ?_
    refine r_laload X (f := r1.2) _ a_m_ou (by decide) dL_law_1725 ?_
    refine r_iload X (x := r2.1) dL_law_1726 rfl ?_
    refine r_i2l X dL_law_1728 ?_
    refine r_lcmp_eq X 1735 dL_law_1729 dL_law_1730 rfl (fun c1729 => ?_) (fun c1729 => absurd (h4 c6) c1729)
    refine r_goto X 3060 dL_law_1735 rfl ?_
    refine r_iinc X (x := x5) (v := x5 + 6) [some (.ref b0), some (.ref (k.b + (0))), some (.ref (k.b + (189))), some (.ref (k.b + (197))), some (.ref (k.b + (198))), some (.int (x5 + 6)), some (.int r1.1), some (.int r2.1), none] dL_law_3060 rfl rfl rfl ?_
    refine r_goto X 28 dL_law_3063 rfl ?_
    refine VW.msk [true, true, true, true, true, true, false, false, false] rfl (lo' := [some (.ref b0), some (.ref (k.b + (0))), some (.ref (k.b + (189))), some (.ref (k.b + (197))), some (.ref (k.b + (198))), some (.int (x5 + 6)), none, none, none]) rfl ?_
    exact VW.widen (c := n + 1) (s := n' + 6) (by omega) (by omega) kk
set_option maxRecDepth 100000 in
set_option maxHeartbeats 4000000 in
theorem LT_26 {k : KT} {z : ZT} (X : XX k strs z RL cL_law 9 ret room_1) {b0 len : Nat} {xs : Nat → Int32} (hX : va_X b0 len xs (zS z) (zS z).heap) (hbl : b0 < (zS z).heap.size) (hbA : ¬ kA k b0) {T : TT} {R : RR} {ly : Fin 2 → LL} {rc : RC} {hn : HN} {rp : RP} {tp : TP} {ee : EE} {st : Fin 12 → SS} {w : Nat → Int64} {aside : Nat → Int64} {thought : Nat → Int64} {fresh : Nat → Int64} {mu : MU} {th : Int32} {mp : MP} {mf : MF} {mh : MH} {mg : MG} {ou : Nat → Int64} {od : Nat → UInt64} {n n' : Nat} (hnc : n + 1 ≤ 601024) (hns : n' + 6 ≤ 7293034) {x5 : Int32} (hlt : ¬ (Int32.ofNat len - 6 < x5)) (g0 : inb (x5) len = true) (g1 : inb (x5 + 1) len = true) (g2 : inb (x5 + 2) len = true) (g3 : inb (x5 + 3) len = true) (g4 : inb (x5 + 4) len = true) (g5 : inb (x5 + 5) len = true) (hc : xs (ix x5) &&& 63 = 26) {r1 : Int32 × (Nat → Int64)} {r2 : Int32 × (Int32)} (h1 : fL_mayStart (ly (0 : Fin 2)) tp st ou (xs (ix (x5 + 1))) = some r1) (h2 : f10_mayStart w th (xs (ix (x5 + 1))) = some r2) (h3 : r2.2 = r1.1) (h4 : r1.1 = 0 → r1.2 (ix 0) = r2.1.toInt64) (kk : VW k z (n + 1) (n' + 6) (wAll k T R ly rc hn rp tp ee st w aside thought fresh mu r2.2 mp mf mh mg r1.2 od) 28 [some (.ref b0), some (.ref (k.b + (0))), some (.ref (k.b + (189))), some (.ref (k.b + (197))), some (.ref (k.b + (198))), some (.int (x5 + 6)), none, none, none] []) : VW k z n n' (wAll k T R ly rc hn rp tp ee st w aside thought fresh mu th mp mf mh mg ou od) 28 [some (.ref b0), some (.ref (k.b + (0))), some (.ref (k.b + (189))), some (.ref (k.b + (197))), some (.ref (k.b + (198))), some (.int x5), none, none, none] [] := by
  refine r_iload X (x := x5) dL_law_28 rfl ?_
  refine r_aload_n X (x := b0) dL_law_30 rfl ?_
  refine r_slen X hX hbl hbA dL_law_31 ?_
  refine r_bipush X (v := 6) dL_law_32 rfl ?_
  refine r_isub X dL_law_34 ?_
  refine r_icmp_gt X 3066 dL_law_35 rfl (fun c => absurd c hlt) (fun _ => ?_)
  refine r_aload_n X (x := b0) dL_law_38 rfl ?_
  refine r_iload X (x := x5) dL_law_39 rfl ?_
  refine r_sld X hX hbl hbA g0 dL_law_41 ?_
  refine r_bipush X (v := 63) dL_law_42 rfl ?_
  refine r_iand X dL_law_44 ?_
  refine r_tswIn X (off := 1693) 1738 dL_law_45 (by rw [hc]; decide) (by rw [hc]; decide) (by rw [hc]; rfl) rfl ?_
  refine r_aload_n X (x := k.b + (0)) dL_law_1738 rfl ?_
  refine r_aload_n X (x := b0) dL_law_1739 rfl ?_
  refine r_iload X (x := x5) dL_law_1740 rfl ?_
  refine r_iconst X (v := 1) dL_law_1742 rfl ?_
  refine r_iadd X dL_law_1743 ?_
  refine r_sld X hX hbl hbA g1 dL_law_1744 ?_
  refine r_aload_n X (x := k.b + (197)) dL_law_1745 rfl ?_
  refine r_callSW X [.ref (k.b + (0)), .int (xs (ix (x5 + 1))), .ref (k.b + (197))] [] (KL_mayStart h1) lkL_mayStart ⟨(Nat.le_of_ble_eq_true rfl), (Nat.le_of_ble_eq_true rfl)⟩ rfl rfl (by show n + 1 ≤ 601024; omega) (by show n' + 6 ≤ 7293034; omega) rfl rfl (Nat.le_of_ble_eq_true rfl) rfl rfl dL_law_1746 ?_
  refine r_istore X [some (.ref b0), some (.ref (k.b + (0))), some (.ref (k.b + (189))), some (.ref (k.b + (197))), some (.ref (k.b + (198))), some (.int x5), some (.int r1.1), none, none] dL_law_1749 (Nat.le_of_ble_eq_true rfl) rfl ?_
  refine r_aload_n X (x := k.b + (189)) dL_law_1751 rfl ?_
  refine r_aload_n X (x := b0) dL_law_1752 rfl ?_
  refine r_iload X (x := x5) dL_law_1753 rfl ?_
  refine r_iconst X (v := 1) dL_law_1755 rfl ?_
  refine r_iadd X dL_law_1756 ?_
  refine r_sld X hX hbl hbA g1 dL_law_1757 ?_
  refine r_callV X [.int (xs (ix (x5 + 1)))] [] (K10_mayStart h2) lkL_251 clsX10 rfl _ o_model ⟨(Nat.le_of_ble_eq_true rfl), (Nat.le_of_ble_eq_true rfl)⟩ rfl rfl (by show n + 1 + 0 ≤ 601024; omega) (by show n' + 6 + 0 ≤ 7293034; omega) rfl rfl (Nat.le_of_ble_eq_true rfl) rfl rfl dL_law_1758 ?_
  refine r_istore X [some (.ref b0), some (.ref (k.b + (0))), some (.ref (k.b + (189))), some (.ref (k.b + (197))), some (.ref (k.b + (198))), some (.int x5), some (.int r1.1), some (.int r2.1), none] dL_law_1761 (Nat.le_of_ble_eq_true rfl) rfl ?_
  refine r_aload_n X (x := k.b + (189)) dL_law_1763 rfl ?_
  refine r_callV X [] [] (K10_thrown (r := r2.2) rfl) lkL_164 clsX10 rfl _ o_model ⟨(Nat.le_of_ble_eq_true rfl), (Nat.le_of_ble_eq_true rfl)⟩ rfl rfl (by show n + 1 + 0 ≤ 601024; omega) (by show n' + 6 + 0 ≤ 7293034; omega) rfl rfl (Nat.le_of_ble_eq_true rfl) rfl rfl dL_law_1764 ?_
  refine r_iload X (x := r1.1) dL_law_1767 rfl ?_
  refine r_icmp_eq X 1774 dL_law_1769 rfl (fun c1769 => ?_) (fun c1769 => absurd h3 c1769)
  refine r_iload X (x := r1.1) dL_law_1774 rfl ?_
  refine r_if_ne X 1791 dL_law_1776 rfl (fun c6 => ?_) (fun c6 => ?_)
  · refine r_goto X 3060 dL_law_1791 rfl ?_
    refine r_iinc X (x := x5) (v := x5 + 6) [some (.ref b0), some (.ref (k.b + (0))), some (.ref (k.b + (189))), some (.ref (k.b + (197))), some (.ref (k.b + (198))), some (.int (x5 + 6)), some (.int r1.1), some (.int r2.1), none] dL_law_3060 rfl rfl rfl ?_
    refine r_goto X 28 dL_law_3063 rfl ?_
    refine VW.msk [true, true, true, true, true, true, false, false, false] rfl (lo' := [some (.ref b0), some (.ref (k.b + (0))), some (.ref (k.b + (189))), some (.ref (k.b + (197))), some (.ref (k.b + (198))), some (.int (x5 + 6)), none, none, none]) rfl ?_
    exact VW.widen (c := n + 1) (s := n' + 6) (by omega) (by omega) kk
  · refine r_aload_n X (x := k.b + (197)) dL_law_1779 rfl ?_
    refine r_iconst X (v := 0) dL_law_1780 rfl ?_
    refine r_laload X (f := r1.2) _ a_m_ou (by decide) dL_law_1781 ?_
    refine r_iload X (x := r2.1) dL_law_1782 rfl ?_
    refine r_i2l X dL_law_1784 ?_
    refine r_lcmp_eq X 1791 dL_law_1785 dL_law_1786 rfl (fun c1785 => ?_) (fun c1785 => absurd (h4 c6) c1785)
    refine r_goto X 3060 dL_law_1791 rfl ?_
    refine r_iinc X (x := x5) (v := x5 + 6) [some (.ref b0), some (.ref (k.b + (0))), some (.ref (k.b + (189))), some (.ref (k.b + (197))), some (.ref (k.b + (198))), some (.int (x5 + 6)), some (.int r1.1), some (.int r2.1), none] dL_law_3060 rfl rfl rfl ?_
    refine r_goto X 28 dL_law_3063 rfl ?_
    refine VW.msk [true, true, true, true, true, true, false, false, false] rfl (lo' := [some (.ref b0), some (.ref (k.b + (0))), some (.ref (k.b + (189))), some (.ref (k.b + (197))), some (.ref (k.b + (198))), some (.int (x5 + 6)), none, none, none]) rfl ?_
    exact VW.widen (c := n + 1) (s := n' + 6) (by omega) (by omega) kk
set_option maxRecDepth 100000 in
set_option maxHeartbeats 4000000 in
theorem LT_27 {k : KT} {z : ZT} (X : XX k strs z RL cL_law 9 ret room_1) {b0 len : Nat} {xs : Nat → Int32} (hX : va_X b0 len xs (zS z) (zS z).heap) (hbl : b0 < (zS z).heap.size) (hbA : ¬ kA k b0) {T : TT} {R : RR} {ly : Fin 2 → LL} {rc : RC} {hn : HN} {rp : RP} {tp : TP} {ee : EE} {st : Fin 12 → SS} {w : Nat → Int64} {aside : Nat → Int64} {thought : Nat → Int64} {fresh : Nat → Int64} {mu : MU} {th : Int32} {mp : MP} {mf : MF} {mh : MH} {mg : MG} {ou : Nat → Int64} {od : Nat → UInt64} {n n' : Nat} (hnc : n + 1 ≤ 601024) (hns : n' + 6 ≤ 7293034) {x5 : Int32} (hlt : ¬ (Int32.ofNat len - 6 < x5)) (g0 : inb (x5) len = true) (g1 : inb (x5 + 1) len = true) (g2 : inb (x5 + 2) len = true) (g3 : inb (x5 + 3) len = true) (g4 : inb (x5 + 4) len = true) (g5 : inb (x5 + 5) len = true) (hc : xs (ix x5) &&& 63 = 27) {r1 : Int32 × (Nat → Int64)} {r2 : Int32 × (Int32)} (h1 : fL_joined (ly (0 : Fin 2)) tp st ou (xs (ix (x5 + 1))) = some r1) (h2 : f10_joined w th (xs (ix (x5 + 1))) = some r2) (h3 : r2.2 = r1.1) (h4 : r1.1 = 0 → r1.2 (ix 0) = r2.1.toInt64) (kk : VW k z (n + 1) (n' + 6) (wAll k T R ly rc hn rp tp ee st w aside thought fresh mu r2.2 mp mf mh mg r1.2 od) 28 [some (.ref b0), some (.ref (k.b + (0))), some (.ref (k.b + (189))), some (.ref (k.b + (197))), some (.ref (k.b + (198))), some (.int (x5 + 6)), none, none, none] []) : VW k z n n' (wAll k T R ly rc hn rp tp ee st w aside thought fresh mu th mp mf mh mg ou od) 28 [some (.ref b0), some (.ref (k.b + (0))), some (.ref (k.b + (189))), some (.ref (k.b + (197))), some (.ref (k.b + (198))), some (.int x5), none, none, none] [] := by
  refine r_iload X (x := x5) dL_law_28 rfl ?_
  refine r_aload_n X (x := b0) dL_law_30 rfl ?_
  refine r_slen X hX hbl hbA dL_law_31 ?_
  refine r_bipush X (v := 6) dL_law_32 rfl ?_
  refine r_isub X dL_law_34 ?_
  refine r_icmp_gt X 3066 dL_law_35 rfl (fun c => absurd c hlt) (fun _ => ?_)
  refine r_aload_n X (x := b0) dL_law_38 rfl ?_
  refine r_iload X (x := x5) dL_law_39 rfl ?_
  refine r_sld X hX hbl hbA g0 dL_law_41 ?_
  refine r_bipush X (v := 63) dL_law_42 rfl ?_
  refine r_iand X dL_law_44 ?_
  refine r_tswIn X (off := 1749) 1794 dL_law_45 (by rw [hc]; decide) (by rw [hc]; decide) (by rw [hc]; rfl) rfl ?_
  refine r_aload_n X (x := k.b + (0)) dL_law_1794 rfl ?_
  refine r_aload_n X (x := b0) dL_law_1795 rfl ?_
  refine r_iload X (x := x5) dL_law_1796 rfl ?_
  refine r_iconst X (v := 1) dL_law_1798 rfl ?_
  refine r_iadd X dL_law_1799 ?_
  refine r_sld X hX hbl hbA g1 dL_law_1800 ?_
  refine r_aload_n X (x := k.b + (197)) dL_law_1801 rfl ?_
  refine r_callSW X [.ref (k.b + (0)), .int (xs (ix (x5 + 1))), .ref (k.b + (197))] [] (KL_joined h1) lkL_joined ⟨(Nat.le_of_ble_eq_true rfl), (Nat.le_of_ble_eq_true rfl)⟩ rfl rfl (by show n + 1 ≤ 601024; omega) (by show n' + 6 ≤ 7293034; omega) rfl rfl (Nat.le_of_ble_eq_true rfl) rfl rfl dL_law_1802 ?_
  refine r_istore X [some (.ref b0), some (.ref (k.b + (0))), some (.ref (k.b + (189))), some (.ref (k.b + (197))), some (.ref (k.b + (198))), some (.int x5), some (.int r1.1), none, none] dL_law_1805 (Nat.le_of_ble_eq_true rfl) rfl ?_
  refine r_aload_n X (x := k.b + (189)) dL_law_1807 rfl ?_
  refine r_aload_n X (x := b0) dL_law_1808 rfl ?_
  refine r_iload X (x := x5) dL_law_1809 rfl ?_
  refine r_iconst X (v := 1) dL_law_1811 rfl ?_
  refine r_iadd X dL_law_1812 ?_
  refine r_sld X hX hbl hbA g1 dL_law_1813 ?_
  refine r_callV X [.int (xs (ix (x5 + 1)))] [] (K10_joined h2) lkL_254 clsX10 rfl _ o_model ⟨(Nat.le_of_ble_eq_true rfl), (Nat.le_of_ble_eq_true rfl)⟩ rfl rfl (by show n + 1 + 0 ≤ 601024; omega) (by show n' + 6 + 0 ≤ 7293034; omega) rfl rfl (Nat.le_of_ble_eq_true rfl) rfl rfl dL_law_1814 ?_
  refine r_istore X [some (.ref b0), some (.ref (k.b + (0))), some (.ref (k.b + (189))), some (.ref (k.b + (197))), some (.ref (k.b + (198))), some (.int x5), some (.int r1.1), some (.int r2.1), none] dL_law_1817 (Nat.le_of_ble_eq_true rfl) rfl ?_
  refine r_aload_n X (x := k.b + (189)) dL_law_1819 rfl ?_
  refine r_callV X [] [] (K10_thrown (r := r2.2) rfl) lkL_164 clsX10 rfl _ o_model ⟨(Nat.le_of_ble_eq_true rfl), (Nat.le_of_ble_eq_true rfl)⟩ rfl rfl (by show n + 1 + 0 ≤ 601024; omega) (by show n' + 6 + 0 ≤ 7293034; omega) rfl rfl (Nat.le_of_ble_eq_true rfl) rfl rfl dL_law_1820 ?_
  refine r_iload X (x := r1.1) dL_law_1823 rfl ?_
  refine r_icmp_eq X 1830 dL_law_1825 rfl (fun c1825 => ?_) (fun c1825 => absurd h3 c1825)
  refine r_iload X (x := r1.1) dL_law_1830 rfl ?_
  refine r_if_ne X 1847 dL_law_1832 rfl (fun c6 => ?_) (fun c6 => ?_)
  · refine r_goto X 3060 dL_law_1847 rfl ?_
    refine r_iinc X (x := x5) (v := x5 + 6) [some (.ref b0), some (.ref (k.b + (0))), some (.ref (k.b + (189))), some (.ref (k.b + (197))), some (.ref (k.b + (198))), some (.int (x5 + 6)), some (.int r1.1), some (.int r2.1), none] dL_law_3060 rfl rfl rfl ?_
    refine r_goto X 28 dL_law_3063 rfl ?_
    refine VW.msk [true, true, true, true, true, true, false, false, false] rfl (lo' := [some (.ref b0), some (.ref (k.b + (0))), some (.ref (k.b + (189))), some (.ref (k.b + (197))), some (.ref (k.b + (198))), some (.int (x5 + 6)), none, none, none]) rfl ?_
    exact VW.widen (c := n + 1) (s := n' + 6) (by omega) (by omega) kk
  · refine r_aload_n X (x := k.b + (197)) dL_law_1835 rfl ?_
    refine r_iconst X (v := 0) dL_law_1836 rfl ?_
    refine r_laload X (f := r1.2) _ a_m_ou (by decide) dL_law_1837 ?_
    refine r_iload X (x := r2.1) dL_law_1838 rfl ?_
    refine r_i2l X dL_law_1840 ?_
    refine r_lcmp_eq X 1847 dL_law_1841 dL_law_1842 rfl (fun c1841 => ?_) (fun c1841 => absurd (h4 c6) c1841)
    refine r_goto X 3060 dL_law_1847 rfl ?_
    refine r_iinc X (x := x5) (v := x5 + 6) [some (.ref b0), some (.ref (k.b + (0))), some (.ref (k.b + (189))), some (.ref (k.b + (197))), some (.ref (k.b + (198))), some (.int (x5 + 6)), some (.int r1.1), some (.int r2.1), none] dL_law_3060 rfl rfl rfl ?_
    refine r_goto X 28 dL_law_3063 rfl ?_
    refine VW.msk [true, true, true, true, true, true, false, false, false] rfl (lo' := [some (.ref b0), some (.ref (k.b + (0))), some (.ref (k.b + (189))), some (.ref (k.b + (197))), some (.ref (k.b + (198))), some (.int (x5 + 6)), none, none, none]) rfl ?_
    exact VW.widen (c := n + 1) (s := n' + 6) (by omega) (by omega) kk
set_option maxRecDepth 100000 in
set_option maxHeartbeats 4000000 in
theorem LT_28 {k : KT} {z : ZT} (X : XX k strs z RL cL_law 9 ret room_1) {b0 len : Nat} {xs : Nat → Int32} (hX : va_X b0 len xs (zS z) (zS z).heap) (hbl : b0 < (zS z).heap.size) (hbA : ¬ kA k b0) {T : TT} {R : RR} {ly : Fin 2 → LL} {rc : RC} {hn : HN} {rp : RP} {tp : TP} {ee : EE} {st : Fin 12 → SS} {w : Nat → Int64} {aside : Nat → Int64} {thought : Nat → Int64} {fresh : Nat → Int64} {mu : MU} {th : Int32} {mp : MP} {mf : MF} {mh : MH} {mg : MG} {ou : Nat → Int64} {od : Nat → UInt64} {n n' : Nat} (hnc : n + 1 ≤ 601024) (hns : n' + 6 ≤ 7293034) {x5 : Int32} (hlt : ¬ (Int32.ofNat len - 6 < x5)) (g0 : inb (x5) len = true) (g1 : inb (x5 + 1) len = true) (g2 : inb (x5 + 2) len = true) (g3 : inb (x5 + 3) len = true) (g4 : inb (x5 + 4) len = true) (g5 : inb (x5 + 5) len = true) (hc : xs (ix x5) &&& 63 = 28) {r1 : Int32 × (Nat → Int64)} {r2 : Int32 × (Int32)} (h1 : fL_isVented (ly (0 : Fin 2)) tp st ou (xs (ix (x5 + 1))) = some r1) (h2 : f10_isVented w th (xs (ix (x5 + 1))) = some r2) (h3 : r2.2 = r1.1) (h4 : r1.1 = 0 → r1.2 (ix 0) = (if r2.1 = 0 then (0 : Int64) else (1 : Int64))) (kk : VW k z (n + 1) (n' + 6) (wAll k T R ly rc hn rp tp ee st w aside thought fresh mu r2.2 mp mf mh mg r1.2 od) 28 [some (.ref b0), some (.ref (k.b + (0))), some (.ref (k.b + (189))), some (.ref (k.b + (197))), some (.ref (k.b + (198))), some (.int (x5 + 6)), none, none, none] []) : VW k z n n' (wAll k T R ly rc hn rp tp ee st w aside thought fresh mu th mp mf mh mg ou od) 28 [some (.ref b0), some (.ref (k.b + (0))), some (.ref (k.b + (189))), some (.ref (k.b + (197))), some (.ref (k.b + (198))), some (.int x5), none, none, none] [] := by
  refine r_iload X (x := x5) dL_law_28 rfl ?_
  refine r_aload_n X (x := b0) dL_law_30 rfl ?_
  refine r_slen X hX hbl hbA dL_law_31 ?_
  refine r_bipush X (v := 6) dL_law_32 rfl ?_
  refine r_isub X dL_law_34 ?_
  refine r_icmp_gt X 3066 dL_law_35 rfl (fun c => absurd c hlt) (fun _ => ?_)
  refine r_aload_n X (x := b0) dL_law_38 rfl ?_
  refine r_iload X (x := x5) dL_law_39 rfl ?_
  refine r_sld X hX hbl hbA g0 dL_law_41 ?_
  refine r_bipush X (v := 63) dL_law_42 rfl ?_
  refine r_iand X dL_law_44 ?_
  refine r_tswIn X (off := 1805) 1850 dL_law_45 (by rw [hc]; decide) (by rw [hc]; decide) (by rw [hc]; rfl) rfl ?_
  refine r_aload_n X (x := k.b + (0)) dL_law_1850 rfl ?_
  refine r_aload_n X (x := b0) dL_law_1851 rfl ?_
  refine r_iload X (x := x5) dL_law_1852 rfl ?_
  refine r_iconst X (v := 1) dL_law_1854 rfl ?_
  refine r_iadd X dL_law_1855 ?_
  refine r_sld X hX hbl hbA g1 dL_law_1856 ?_
  refine r_aload_n X (x := k.b + (197)) dL_law_1857 rfl ?_
  refine r_callSW X [.ref (k.b + (0)), .int (xs (ix (x5 + 1))), .ref (k.b + (197))] [] (KL_isVented h1) lkL_isVented ⟨(Nat.le_of_ble_eq_true rfl), (Nat.le_of_ble_eq_true rfl)⟩ rfl rfl (by show n + 1 ≤ 601024; omega) (by show n' + 6 ≤ 7293034; omega) rfl rfl (Nat.le_of_ble_eq_true rfl) rfl rfl dL_law_1858 ?_
  refine r_istore X [some (.ref b0), some (.ref (k.b + (0))), some (.ref (k.b + (189))), some (.ref (k.b + (197))), some (.ref (k.b + (198))), some (.int x5), some (.int r1.1), none, none] dL_law_1861 (Nat.le_of_ble_eq_true rfl) rfl ?_
  refine r_aload_n X (x := k.b + (189)) dL_law_1863 rfl ?_
  refine r_aload_n X (x := b0) dL_law_1864 rfl ?_
  refine r_iload X (x := x5) dL_law_1865 rfl ?_
  refine r_iconst X (v := 1) dL_law_1867 rfl ?_
  refine r_iadd X dL_law_1868 ?_
  refine r_sld X hX hbl hbA g1 dL_law_1869 ?_
  refine r_callV X [.int (xs (ix (x5 + 1)))] [] (K10_isVented h2) lkL_257 clsX10 rfl _ o_model ⟨(Nat.le_of_ble_eq_true rfl), (Nat.le_of_ble_eq_true rfl)⟩ rfl rfl (by show n + 1 + 0 ≤ 601024; omega) (by show n' + 6 + 0 ≤ 7293034; omega) rfl rfl (Nat.le_of_ble_eq_true rfl) rfl rfl dL_law_1870 ?_
  refine r_istore X [some (.ref b0), some (.ref (k.b + (0))), some (.ref (k.b + (189))), some (.ref (k.b + (197))), some (.ref (k.b + (198))), some (.int x5), some (.int r1.1), some (.int r2.1), none] dL_law_1873 (Nat.le_of_ble_eq_true rfl) rfl ?_
  refine r_aload_n X (x := k.b + (189)) dL_law_1875 rfl ?_
  refine r_callV X [] [] (K10_thrown (r := r2.2) rfl) lkL_164 clsX10 rfl _ o_model ⟨(Nat.le_of_ble_eq_true rfl), (Nat.le_of_ble_eq_true rfl)⟩ rfl rfl (by show n + 1 + 0 ≤ 601024; omega) (by show n' + 6 + 0 ≤ 7293034; omega) rfl rfl (Nat.le_of_ble_eq_true rfl) rfl rfl dL_law_1876 ?_
  refine r_iload X (x := r1.1) dL_law_1879 rfl ?_
  refine r_icmp_eq X 1886 dL_law_1881 rfl (fun c1881 => ?_) (fun c1881 => absurd h3 c1881)
  refine r_iload X (x := r1.1) dL_law_1886 rfl ?_
  refine r_if_ne X 1910 dL_law_1888 rfl (fun c6 => ?_) (fun c6 => ?_)
  · refine r_goto X 3060 dL_law_1910 rfl ?_
    refine r_iinc X (x := x5) (v := x5 + 6) [some (.ref b0), some (.ref (k.b + (0))), some (.ref (k.b + (189))), some (.ref (k.b + (197))), some (.ref (k.b + (198))), some (.int (x5 + 6)), some (.int r1.1), some (.int r2.1), none] dL_law_3060 rfl rfl rfl ?_
    refine r_goto X 28 dL_law_3063 rfl ?_
    refine VW.msk [true, true, true, true, true, true, false, false, false] rfl (lo' := [some (.ref b0), some (.ref (k.b + (0))), some (.ref (k.b + (189))), some (.ref (k.b + (197))), some (.ref (k.b + (198))), some (.int (x5 + 6)), none, none, none]) rfl ?_
    exact VW.widen (c := n + 1) (s := n' + 6) (by omega) (by omega) kk
  · refine r_aload_n X (x := k.b + (197)) dL_law_1891 rfl ?_
    refine r_iconst X (v := 0) dL_law_1892 rfl ?_
    refine r_laload X (f := r1.2) _ a_m_ou (by decide) dL_law_1893 ?_
    refine r_iload X (x := r2.1) dL_law_1894 rfl ?_
    refine r_if_eq X 1903 dL_law_1896 rfl (fun c1896 => ?_) (fun c1896 => ?_)
    · refine r_lconst X (v := 0) dL_law_1903 rfl ?_
      refine r_lcmp_eq X 1910 dL_law_1904 dL_law_1905 rfl (fun c1904 => ?_) (fun c1904 => absurd ((h4 c6).trans (if_pos c1896)) c1904)
      refine r_goto X 3060 dL_law_1910 rfl ?_
      refine r_iinc X (x := x5) (v := x5 + 6) [some (.ref b0), some (.ref (k.b + (0))), some (.ref (k.b + (189))), some (.ref (k.b + (197))), some (.ref (k.b + (198))), some (.int (x5 + 6)), some (.int r1.1), some (.int r2.1), none] dL_law_3060 rfl rfl rfl ?_
      refine r_goto X 28 dL_law_3063 rfl ?_
      refine VW.msk [true, true, true, true, true, true, false, false, false] rfl (lo' := [some (.ref b0), some (.ref (k.b + (0))), some (.ref (k.b + (189))), some (.ref (k.b + (197))), some (.ref (k.b + (198))), some (.int (x5 + 6)), none, none, none]) rfl ?_
      exact VW.widen (c := n + 1) (s := n' + 6) (by omega) (by omega) kk
    · refine r_lconst X (v := 1) dL_law_1899 rfl ?_
      refine r_goto X 1904 dL_law_1900 rfl ?_
      refine r_lcmp_eq X 1910 dL_law_1904 dL_law_1905 rfl (fun c1904 => ?_) (fun c1904 => absurd ((h4 c6).trans (if_neg c1896)) c1904)
      refine r_goto X 3060 dL_law_1910 rfl ?_
      refine r_iinc X (x := x5) (v := x5 + 6) [some (.ref b0), some (.ref (k.b + (0))), some (.ref (k.b + (189))), some (.ref (k.b + (197))), some (.ref (k.b + (198))), some (.int (x5 + 6)), some (.int r1.1), some (.int r2.1), none] dL_law_3060 rfl rfl rfl ?_
      refine r_goto X 28 dL_law_3063 rfl ?_
      refine VW.msk [true, true, true, true, true, true, false, false, false] rfl (lo' := [some (.ref b0), some (.ref (k.b + (0))), some (.ref (k.b + (189))), some (.ref (k.b + (197))), some (.ref (k.b + (198))), some (.int (x5 + 6)), none, none, none]) rfl ?_
      exact VW.widen (c := n + 1) (s := n' + 6) (by omega) (by omega) kk
set_option maxRecDepth 100000 in
set_option maxHeartbeats 4000000 in
theorem LT_29 {k : KT} {z : ZT} (X : XX k strs z RL cL_law 9 ret room_1) {b0 len : Nat} {xs : Nat → Int32} (hX : va_X b0 len xs (zS z) (zS z).heap) (hbl : b0 < (zS z).heap.size) (hbA : ¬ kA k b0) {T : TT} {R : RR} {ly : Fin 2 → LL} {rc : RC} {hn : HN} {rp : RP} {tp : TP} {ee : EE} {st : Fin 12 → SS} {w : Nat → Int64} {aside : Nat → Int64} {thought : Nat → Int64} {fresh : Nat → Int64} {mu : MU} {th : Int32} {mp : MP} {mf : MF} {mh : MH} {mg : MG} {ou : Nat → Int64} {od : Nat → UInt64} {n n' : Nat} (hnc : n + 1 ≤ 601024) (hns : n' + 6 ≤ 7293034) {x5 : Int32} (hlt : ¬ (Int32.ofNat len - 6 < x5)) (g0 : inb (x5) len = true) (g1 : inb (x5 + 1) len = true) (g2 : inb (x5 + 2) len = true) (g3 : inb (x5 + 3) len = true) (g4 : inb (x5 + 4) len = true) (g5 : inb (x5 + 5) len = true) (hc : xs (ix x5) &&& 63 = 29) {r1 : Int32 × (Nat → Int64)} {r2 : Int32 × (Int32)} (h1 : fL_spread (ly (0 : Fin 2)) tp st ou (xs (ix (x5 + 1))) = some r1) (h2 : f10_spread w th (xs (ix (x5 + 1))) = some r2) (h3 : r2.2 = r1.1) (h4 : r1.1 = 0 → r1.2 (ix 0) = r2.1.toInt64) (kk : VW k z (n + 1) (n' + 6) (wAll k T R ly rc hn rp tp ee st w aside thought fresh mu r2.2 mp mf mh mg r1.2 od) 28 [some (.ref b0), some (.ref (k.b + (0))), some (.ref (k.b + (189))), some (.ref (k.b + (197))), some (.ref (k.b + (198))), some (.int (x5 + 6)), none, none, none] []) : VW k z n n' (wAll k T R ly rc hn rp tp ee st w aside thought fresh mu th mp mf mh mg ou od) 28 [some (.ref b0), some (.ref (k.b + (0))), some (.ref (k.b + (189))), some (.ref (k.b + (197))), some (.ref (k.b + (198))), some (.int x5), none, none, none] [] := by
  refine r_iload X (x := x5) dL_law_28 rfl ?_
  refine r_aload_n X (x := b0) dL_law_30 rfl ?_
  refine r_slen X hX hbl hbA dL_law_31 ?_
  refine r_bipush X (v := 6) dL_law_32 rfl ?_
  refine r_isub X dL_law_34 ?_
  refine r_icmp_gt X 3066 dL_law_35 rfl (fun c => absurd c hlt) (fun _ => ?_)
  refine r_aload_n X (x := b0) dL_law_38 rfl ?_
  refine r_iload X (x := x5) dL_law_39 rfl ?_
  refine r_sld X hX hbl hbA g0 dL_law_41 ?_
  refine r_bipush X (v := 63) dL_law_42 rfl ?_
  refine r_iand X dL_law_44 ?_
  refine r_tswIn X (off := 1868) 1913 dL_law_45 (by rw [hc]; decide) (by rw [hc]; decide) (by rw [hc]; rfl) rfl ?_
  refine r_aload_n X (x := k.b + (0)) dL_law_1913 rfl ?_
  refine r_aload_n X (x := b0) dL_law_1914 rfl ?_
  refine r_iload X (x := x5) dL_law_1915 rfl ?_
  refine r_iconst X (v := 1) dL_law_1917 rfl ?_
  refine r_iadd X dL_law_1918 ?_
  refine r_sld X hX hbl hbA g1 dL_law_1919 ?_
  refine r_aload_n X (x := k.b + (197)) dL_law_1920 rfl ?_
  refine r_callSW X [.ref (k.b + (0)), .int (xs (ix (x5 + 1))), .ref (k.b + (197))] [] (KL_spread h1) lkL_spread ⟨(Nat.le_of_ble_eq_true rfl), (Nat.le_of_ble_eq_true rfl)⟩ rfl rfl (by show n + 1 ≤ 601024; omega) (by show n' + 6 ≤ 7293034; omega) rfl rfl (Nat.le_of_ble_eq_true rfl) rfl rfl dL_law_1921 ?_
  refine r_istore X [some (.ref b0), some (.ref (k.b + (0))), some (.ref (k.b + (189))), some (.ref (k.b + (197))), some (.ref (k.b + (198))), some (.int x5), some (.int r1.1), none, none] dL_law_1924 (Nat.le_of_ble_eq_true rfl) rfl ?_
  refine r_aload_n X (x := k.b + (189)) dL_law_1926 rfl ?_
  refine r_aload_n X (x := b0) dL_law_1927 rfl ?_
  refine r_iload X (x := x5) dL_law_1928 rfl ?_
  refine r_iconst X (v := 1) dL_law_1930 rfl ?_
  refine r_iadd X dL_law_1931 ?_
  refine r_sld X hX hbl hbA g1 dL_law_1932 ?_
  refine r_callV X [.int (xs (ix (x5 + 1)))] [] (K10_spread h2) lkL_260 clsX10 rfl _ o_model ⟨(Nat.le_of_ble_eq_true rfl), (Nat.le_of_ble_eq_true rfl)⟩ rfl rfl (by show n + 1 + 0 ≤ 601024; omega) (by show n' + 6 + 0 ≤ 7293034; omega) rfl rfl (Nat.le_of_ble_eq_true rfl) rfl rfl dL_law_1933 ?_
  refine r_istore X [some (.ref b0), some (.ref (k.b + (0))), some (.ref (k.b + (189))), some (.ref (k.b + (197))), some (.ref (k.b + (198))), some (.int x5), some (.int r1.1), some (.int r2.1), none] dL_law_1936 (Nat.le_of_ble_eq_true rfl) rfl ?_
  refine r_aload_n X (x := k.b + (189)) dL_law_1938 rfl ?_
  refine r_callV X [] [] (K10_thrown (r := r2.2) rfl) lkL_164 clsX10 rfl _ o_model ⟨(Nat.le_of_ble_eq_true rfl), (Nat.le_of_ble_eq_true rfl)⟩ rfl rfl (by show n + 1 + 0 ≤ 601024; omega) (by show n' + 6 + 0 ≤ 7293034; omega) rfl rfl (Nat.le_of_ble_eq_true rfl) rfl rfl dL_law_1939 ?_
  refine r_iload X (x := r1.1) dL_law_1942 rfl ?_
  refine r_icmp_eq X 1949 dL_law_1944 rfl (fun c1944 => ?_) (fun c1944 => absurd h3 c1944)
  refine r_iload X (x := r1.1) dL_law_1949 rfl ?_
  refine r_if_ne X 1966 dL_law_1951 rfl (fun c6 => ?_) (fun c6 => ?_)
  · refine r_goto X 3060 dL_law_1966 rfl ?_
    refine r_iinc X (x := x5) (v := x5 + 6) [some (.ref b0), some (.ref (k.b + (0))), some (.ref (k.b + (189))), some (.ref (k.b + (197))), some (.ref (k.b + (198))), some (.int (x5 + 6)), some (.int r1.1), some (.int r2.1), none] dL_law_3060 rfl rfl rfl ?_
    refine r_goto X 28 dL_law_3063 rfl ?_
    refine VW.msk [true, true, true, true, true, true, false, false, false] rfl (lo' := [some (.ref b0), some (.ref (k.b + (0))), some (.ref (k.b + (189))), some (.ref (k.b + (197))), some (.ref (k.b + (198))), some (.int (x5 + 6)), none, none, none]) rfl ?_
    exact VW.widen (c := n + 1) (s := n' + 6) (by omega) (by omega) kk
  · refine r_aload_n X (x := k.b + (197)) dL_law_1954 rfl ?_
    refine r_iconst X (v := 0) dL_law_1955 rfl ?_
    refine r_laload X (f := r1.2) _ a_m_ou (by decide) dL_law_1956 ?_
    refine r_iload X (x := r2.1) dL_law_1957 rfl ?_
    refine r_i2l X dL_law_1959 ?_
    refine r_lcmp_eq X 1966 dL_law_1960 dL_law_1961 rfl (fun c1960 => ?_) (fun c1960 => absurd (h4 c6) c1960)
    refine r_goto X 3060 dL_law_1966 rfl ?_
    refine r_iinc X (x := x5) (v := x5 + 6) [some (.ref b0), some (.ref (k.b + (0))), some (.ref (k.b + (189))), some (.ref (k.b + (197))), some (.ref (k.b + (198))), some (.int (x5 + 6)), some (.int r1.1), some (.int r2.1), none] dL_law_3060 rfl rfl rfl ?_
    refine r_goto X 28 dL_law_3063 rfl ?_
    refine VW.msk [true, true, true, true, true, true, false, false, false] rfl (lo' := [some (.ref b0), some (.ref (k.b + (0))), some (.ref (k.b + (189))), some (.ref (k.b + (197))), some (.ref (k.b + (198))), some (.int (x5 + 6)), none, none, none]) rfl ?_
    exact VW.widen (c := n + 1) (s := n' + 6) (by omega) (by omega) kk
set_option maxRecDepth 100000 in
set_option maxHeartbeats 4000000 in
theorem LT_30 {k : KT} {z : ZT} (X : XX k strs z RL cL_law 9 ret room_1) {b0 len : Nat} {xs : Nat → Int32} (hX : va_X b0 len xs (zS z) (zS z).heap) (hbl : b0 < (zS z).heap.size) (hbA : ¬ kA k b0) {T : TT} {R : RR} {ly : Fin 2 → LL} {rc : RC} {hn : HN} {rp : RP} {tp : TP} {ee : EE} {st : Fin 12 → SS} {w : Nat → Int64} {aside : Nat → Int64} {thought : Nat → Int64} {fresh : Nat → Int64} {mu : MU} {th : Int32} {mp : MP} {mf : MF} {mh : MH} {mg : MG} {ou : Nat → Int64} {od : Nat → UInt64} {n n' : Nat} (hnc : n + 1 ≤ 601024) (hns : n' + 6 ≤ 7293034) {x5 : Int32} (hlt : ¬ (Int32.ofNat len - 6 < x5)) (g0 : inb (x5) len = true) (g1 : inb (x5 + 1) len = true) (g2 : inb (x5 + 2) len = true) (g3 : inb (x5 + 3) len = true) (g4 : inb (x5 + 4) len = true) (g5 : inb (x5 + 5) len = true) (hc : xs (ix x5) &&& 63 = 30) {r1 : Int32 × (Nat → Int64)} {r2 : Int32 × (Int32)} (h1 : fL_isIsolated (ly (0 : Fin 2)) tp st ou (xs (ix (x5 + 1))) = some r1) (h2 : f10_isIsolated w th (xs (ix (x5 + 1))) = some r2) (h3 : r2.2 = r1.1) (h4 : r1.1 = 0 → r1.2 (ix 0) = (if r2.1 = 0 then (0 : Int64) else (1 : Int64))) (kk : VW k z (n + 1) (n' + 6) (wAll k T R ly rc hn rp tp ee st w aside thought fresh mu r2.2 mp mf mh mg r1.2 od) 28 [some (.ref b0), some (.ref (k.b + (0))), some (.ref (k.b + (189))), some (.ref (k.b + (197))), some (.ref (k.b + (198))), some (.int (x5 + 6)), none, none, none] []) : VW k z n n' (wAll k T R ly rc hn rp tp ee st w aside thought fresh mu th mp mf mh mg ou od) 28 [some (.ref b0), some (.ref (k.b + (0))), some (.ref (k.b + (189))), some (.ref (k.b + (197))), some (.ref (k.b + (198))), some (.int x5), none, none, none] [] := by
  refine r_iload X (x := x5) dL_law_28 rfl ?_
  refine r_aload_n X (x := b0) dL_law_30 rfl ?_
  refine r_slen X hX hbl hbA dL_law_31 ?_
  refine r_bipush X (v := 6) dL_law_32 rfl ?_
  refine r_isub X dL_law_34 ?_
  refine r_icmp_gt X 3066 dL_law_35 rfl (fun c => absurd c hlt) (fun _ => ?_)
  refine r_aload_n X (x := b0) dL_law_38 rfl ?_
  refine r_iload X (x := x5) dL_law_39 rfl ?_
  refine r_sld X hX hbl hbA g0 dL_law_41 ?_
  refine r_bipush X (v := 63) dL_law_42 rfl ?_
  refine r_iand X dL_law_44 ?_
  refine r_tswIn X (off := 1924) 1969 dL_law_45 (by rw [hc]; decide) (by rw [hc]; decide) (by rw [hc]; rfl) rfl ?_
  refine r_aload_n X (x := k.b + (0)) dL_law_1969 rfl ?_
  refine r_aload_n X (x := b0) dL_law_1970 rfl ?_
  refine r_iload X (x := x5) dL_law_1971 rfl ?_
  refine r_iconst X (v := 1) dL_law_1973 rfl ?_
  refine r_iadd X dL_law_1974 ?_
  refine r_sld X hX hbl hbA g1 dL_law_1975 ?_
  refine r_aload_n X (x := k.b + (197)) dL_law_1976 rfl ?_
  refine r_callSW X [.ref (k.b + (0)), .int (xs (ix (x5 + 1))), .ref (k.b + (197))] [] (KL_isIsolated h1) lkL_isIsolated ⟨(Nat.le_of_ble_eq_true rfl), (Nat.le_of_ble_eq_true rfl)⟩ rfl rfl (by show n + 1 ≤ 601024; omega) (by show n' + 6 ≤ 7293034; omega) rfl rfl (Nat.le_of_ble_eq_true rfl) rfl rfl dL_law_1977 ?_
  refine r_istore X [some (.ref b0), some (.ref (k.b + (0))), some (.ref (k.b + (189))), some (.ref (k.b + (197))), some (.ref (k.b + (198))), some (.int x5), some (.int r1.1), none, none] dL_law_1980 (Nat.le_of_ble_eq_true rfl) rfl ?_
  refine r_aload_n X (x := k.b + (189)) dL_law_1982 rfl ?_
  refine r_aload_n X (x := b0) dL_law_1983 rfl ?_
  refine r_iload X (x := x5) dL_law_1984 rfl ?_
  refine r_iconst X (v := 1) dL_law_1986 rfl ?_
  refine r_iadd X dL_law_1987 ?_
  refine r_sld X hX hbl hbA g1 dL_law_1988 ?_
  refine r_callV X [.int (xs (ix (x5 + 1)))] [] (K10_isIsolated h2) lkL_263 clsX10 rfl _ o_model ⟨(Nat.le_of_ble_eq_true rfl), (Nat.le_of_ble_eq_true rfl)⟩ rfl rfl (by show n + 1 + 0 ≤ 601024; omega) (by show n' + 6 + 0 ≤ 7293034; omega) rfl rfl (Nat.le_of_ble_eq_true rfl) rfl rfl dL_law_1989 ?_
  refine r_istore X [some (.ref b0), some (.ref (k.b + (0))), some (.ref (k.b + (189))), some (.ref (k.b + (197))), some (.ref (k.b + (198))), some (.int x5), some (.int r1.1), some (.int r2.1), none] dL_law_1992 (Nat.le_of_ble_eq_true rfl) rfl ?_
  refine r_aload_n X (x := k.b + (189)) dL_law_1994 rfl ?_
  refine r_callV X [] [] (K10_thrown (r := r2.2) rfl) lkL_164 clsX10 rfl _ o_model ⟨(Nat.le_of_ble_eq_true rfl), (Nat.le_of_ble_eq_true rfl)⟩ rfl rfl (by show n + 1 + 0 ≤ 601024; omega) (by show n' + 6 + 0 ≤ 7293034; omega) rfl rfl (Nat.le_of_ble_eq_true rfl) rfl rfl dL_law_1995 ?_
  refine r_iload X (x := r1.1) dL_law_1998 rfl ?_
  refine r_icmp_eq X 2005 dL_law_2000 rfl (fun c2000 => ?_) (fun c2000 => absurd h3 c2000)
  refine r_iload X (x := r1.1) dL_law_2005 rfl ?_
  refine r_if_ne X 2029 dL_law_2007 rfl (fun c6 => ?_) (fun c6 => ?_)
  · refine r_goto X 3060 dL_law_2029 rfl ?_
    refine r_iinc X (x := x5) (v := x5 + 6) [some (.ref b0), some (.ref (k.b + (0))), some (.ref (k.b + (189))), some (.ref (k.b + (197))), some (.ref (k.b + (198))), some (.int (x5 + 6)), some (.int r1.1), some (.int r2.1), none] dL_law_3060 rfl rfl rfl ?_
    refine r_goto X 28 dL_law_3063 rfl ?_
    refine VW.msk [true, true, true, true, true, true, false, false, false] rfl (lo' := [some (.ref b0), some (.ref (k.b + (0))), some (.ref (k.b + (189))), some (.ref (k.b + (197))), some (.ref (k.b + (198))), some (.int (x5 + 6)), none, none, none]) rfl ?_
    exact VW.widen (c := n + 1) (s := n' + 6) (by omega) (by omega) kk
  · refine r_aload_n X (x := k.b + (197)) dL_law_2010 rfl ?_
    refine r_iconst X (v := 0) dL_law_2011 rfl ?_
    refine r_laload X (f := r1.2) _ a_m_ou (by decide) dL_law_2012 ?_
    refine r_iload X (x := r2.1) dL_law_2013 rfl ?_
    refine r_if_eq X 2022 dL_law_2015 rfl (fun c2015 => ?_) (fun c2015 => ?_)
    · refine r_lconst X (v := 0) dL_law_2022 rfl ?_
      refine r_lcmp_eq X 2029 dL_law_2023 dL_law_2024 rfl (fun c2023 => ?_) (fun c2023 => absurd ((h4 c6).trans (if_pos c2015)) c2023)
      refine r_goto X 3060 dL_law_2029 rfl ?_
      refine r_iinc X (x := x5) (v := x5 + 6) [some (.ref b0), some (.ref (k.b + (0))), some (.ref (k.b + (189))), some (.ref (k.b + (197))), some (.ref (k.b + (198))), some (.int (x5 + 6)), some (.int r1.1), some (.int r2.1), none] dL_law_3060 rfl rfl rfl ?_
      refine r_goto X 28 dL_law_3063 rfl ?_
      refine VW.msk [true, true, true, true, true, true, false, false, false] rfl (lo' := [some (.ref b0), some (.ref (k.b + (0))), some (.ref (k.b + (189))), some (.ref (k.b + (197))), some (.ref (k.b + (198))), some (.int (x5 + 6)), none, none, none]) rfl ?_
      exact VW.widen (c := n + 1) (s := n' + 6) (by omega) (by omega) kk
    · refine r_lconst X (v := 1) dL_law_2018 rfl ?_
      refine r_goto X 2023 dL_law_2019 rfl ?_
      refine r_lcmp_eq X 2029 dL_law_2023 dL_law_2024 rfl (fun c2023 => ?_) (fun c2023 => absurd ((h4 c6).trans (if_neg c2015)) c2023)
      refine r_goto X 3060 dL_law_2029 rfl ?_
      refine r_iinc X (x := x5) (v := x5 + 6) [some (.ref b0), some (.ref (k.b + (0))), some (.ref (k.b + (189))), some (.ref (k.b + (197))), some (.ref (k.b + (198))), some (.int (x5 + 6)), some (.int r1.1), some (.int r2.1), none] dL_law_3060 rfl rfl rfl ?_
      refine r_goto X 28 dL_law_3063 rfl ?_
      refine VW.msk [true, true, true, true, true, true, false, false, false] rfl (lo' := [some (.ref b0), some (.ref (k.b + (0))), some (.ref (k.b + (189))), some (.ref (k.b + (197))), some (.ref (k.b + (198))), some (.int (x5 + 6)), none, none, none]) rfl ?_
      exact VW.widen (c := n + 1) (s := n' + 6) (by omega) (by omega) kk
set_option maxRecDepth 100000 in
set_option maxHeartbeats 4000000 in
theorem LT_31 {k : KT} {z : ZT} (X : XX k strs z RL cL_law 9 ret room_1) {b0 len : Nat} {xs : Nat → Int32} (hX : va_X b0 len xs (zS z) (zS z).heap) (hbl : b0 < (zS z).heap.size) (hbA : ¬ kA k b0) {T : TT} {R : RR} {ly : Fin 2 → LL} {rc : RC} {hn : HN} {rp : RP} {tp : TP} {ee : EE} {st : Fin 12 → SS} {w : Nat → Int64} {aside : Nat → Int64} {thought : Nat → Int64} {fresh : Nat → Int64} {mu : MU} {th : Int32} {mp : MP} {mf : MF} {mh : MH} {mg : MG} {ou : Nat → Int64} {od : Nat → UInt64} {n n' : Nat} (hnc : n + 1 ≤ 601024) (hns : n' + 6 ≤ 7293034) {x5 : Int32} (hlt : ¬ (Int32.ofNat len - 6 < x5)) (g0 : inb (x5) len = true) (g1 : inb (x5 + 1) len = true) (g2 : inb (x5 + 2) len = true) (g3 : inb (x5 + 3) len = true) (g4 : inb (x5 + 4) len = true) (g5 : inb (x5 + 5) len = true) (hc : xs (ix x5) &&& 63 = 31) {r1 : Int32 × (Nat → Int64)} {r2 : Int32 × (Int32)} (h1 : fL_fewestValves (ly (0 : Fin 2)) ou (xs (ix (x5 + 1))) (xs (ix (x5 + 2))) = some r1) (h2 : f10_fewestValves w th (xs (ix (x5 + 1))) (xs (ix (x5 + 2))) = some r2) (h3 : r2.2 = r1.1) (h4 : r1.1 = 0 → r1.2 (ix 0) = r2.1.toInt64) (kk : VW k z (n + 1) (n' + 6) (wAll k T R ly rc hn rp tp ee st w aside thought fresh mu r2.2 mp mf mh mg r1.2 od) 28 [some (.ref b0), some (.ref (k.b + (0))), some (.ref (k.b + (189))), some (.ref (k.b + (197))), some (.ref (k.b + (198))), some (.int (x5 + 6)), none, none, none] []) : VW k z n n' (wAll k T R ly rc hn rp tp ee st w aside thought fresh mu th mp mf mh mg ou od) 28 [some (.ref b0), some (.ref (k.b + (0))), some (.ref (k.b + (189))), some (.ref (k.b + (197))), some (.ref (k.b + (198))), some (.int x5), none, none, none] [] := by
  refine r_iload X (x := x5) dL_law_28 rfl ?_
  refine r_aload_n X (x := b0) dL_law_30 rfl ?_
  refine r_slen X hX hbl hbA dL_law_31 ?_
  refine r_bipush X (v := 6) dL_law_32 rfl ?_
  refine r_isub X dL_law_34 ?_
  refine r_icmp_gt X 3066 dL_law_35 rfl (fun c => absurd c hlt) (fun _ => ?_)
  refine r_aload_n X (x := b0) dL_law_38 rfl ?_
  refine r_iload X (x := x5) dL_law_39 rfl ?_
  refine r_sld X hX hbl hbA g0 dL_law_41 ?_
  refine r_bipush X (v := 63) dL_law_42 rfl ?_
  refine r_iand X dL_law_44 ?_
  refine r_tswIn X (off := 1987) 2032 dL_law_45 (by rw [hc]; decide) (by rw [hc]; decide) (by rw [hc]; rfl) rfl ?_
  refine r_aload_n X (x := k.b + (0)) dL_law_2032 rfl ?_
  refine r_aload_n X (x := b0) dL_law_2033 rfl ?_
  refine r_iload X (x := x5) dL_law_2034 rfl ?_
  refine r_iconst X (v := 1) dL_law_2036 rfl ?_
  refine r_iadd X dL_law_2037 ?_
  refine r_sld X hX hbl hbA g1 dL_law_2038 ?_
  refine r_aload_n X (x := b0) dL_law_2039 rfl ?_
  refine r_iload X (x := x5) dL_law_2040 rfl ?_
  refine r_iconst X (v := 2) dL_law_2042 rfl ?_
  refine r_iadd X dL_law_2043 ?_
  refine r_sld X hX hbl hbA g2 dL_law_2044 ?_
  refine r_aload_n X (x := k.b + (197)) dL_law_2045 rfl ?_
  refine r_callSW X [.ref (k.b + (0)), .int (xs (ix (x5 + 1))), .int (xs (ix (x5 + 2))), .ref (k.b + (197))] [] (KL_fewestValves h1) lkL_fewestValves ⟨(Nat.le_of_ble_eq_true rfl), (Nat.le_of_ble_eq_true rfl)⟩ rfl rfl (by show n + 1 ≤ 601024; omega) (by show n' + 6 ≤ 7293034; omega) rfl rfl (Nat.le_of_ble_eq_true rfl) rfl rfl dL_law_2046 ?_
  refine r_istore X [some (.ref b0), some (.ref (k.b + (0))), some (.ref (k.b + (189))), some (.ref (k.b + (197))), some (.ref (k.b + (198))), some (.int x5), some (.int r1.1), none, none] dL_law_2049 (Nat.le_of_ble_eq_true rfl) rfl ?_
  refine r_aload_n X (x := k.b + (189)) dL_law_2051 rfl ?_
  refine r_aload_n X (x := b0) dL_law_2052 rfl ?_
  refine r_iload X (x := x5) dL_law_2053 rfl ?_
  refine r_iconst X (v := 1) dL_law_2055 rfl ?_
  refine r_iadd X dL_law_2056 ?_
  refine r_sld X hX hbl hbA g1 dL_law_2057 ?_
  refine r_aload_n X (x := b0) dL_law_2058 rfl ?_
  refine r_iload X (x := x5) dL_law_2059 rfl ?_
  refine r_iconst X (v := 2) dL_law_2061 rfl ?_
  refine r_iadd X dL_law_2062 ?_
  refine r_sld X hX hbl hbA g2 dL_law_2063 ?_
  refine r_callV X [.int (xs (ix (x5 + 1))), .int (xs (ix (x5 + 2)))] [] (K10_fewestValves h2) lkL_266 clsX10 rfl _ o_model ⟨(Nat.le_of_ble_eq_true rfl), (Nat.le_of_ble_eq_true rfl)⟩ rfl rfl (by show n + 1 + 0 ≤ 601024; omega) (by show n' + 6 + 0 ≤ 7293034; omega) rfl rfl (Nat.le_of_ble_eq_true rfl) rfl rfl dL_law_2064 ?_
  refine r_istore X [some (.ref b0), some (.ref (k.b + (0))), some (.ref (k.b + (189))), some (.ref (k.b + (197))), some (.ref (k.b + (198))), some (.int x5), some (.int r1.1), some (.int r2.1), none] dL_law_2067 (Nat.le_of_ble_eq_true rfl) rfl ?_
  refine r_aload_n X (x := k.b + (189)) dL_law_2069 rfl ?_
  refine r_callV X [] [] (K10_thrown (r := r2.2) rfl) lkL_164 clsX10 rfl _ o_model ⟨(Nat.le_of_ble_eq_true rfl), (Nat.le_of_ble_eq_true rfl)⟩ rfl rfl (by show n + 1 + 0 ≤ 601024; omega) (by show n' + 6 + 0 ≤ 7293034; omega) rfl rfl (Nat.le_of_ble_eq_true rfl) rfl rfl dL_law_2070 ?_
  refine r_iload X (x := r1.1) dL_law_2073 rfl ?_
  refine r_icmp_eq X 2080 dL_law_2075 rfl (fun c2075 => ?_) (fun c2075 => absurd h3 c2075)
  refine r_iload X (x := r1.1) dL_law_2080 rfl ?_
  refine r_if_ne X 2097 dL_law_2082 rfl (fun c6 => ?_) (fun c6 => ?_)
  · refine r_goto X 3060 dL_law_2097 rfl ?_
    refine r_iinc X (x := x5) (v := x5 + 6) [some (.ref b0), some (.ref (k.b + (0))), some (.ref (k.b + (189))), some (.ref (k.b + (197))), some (.ref (k.b + (198))), some (.int (x5 + 6)), some (.int r1.1), some (.int r2.1), none] dL_law_3060 rfl rfl rfl ?_
    refine r_goto X 28 dL_law_3063 rfl ?_
    refine VW.msk [true, true, true, true, true, true, false, false, false] rfl (lo' := [some (.ref b0), some (.ref (k.b + (0))), some (.ref (k.b + (189))), some (.ref (k.b + (197))), some (.ref (k.b + (198))), some (.int (x5 + 6)), none, none, none]) rfl ?_
    exact VW.widen (c := n + 1) (s := n' + 6) (by omega) (by omega) kk
  · refine r_aload_n X (x := k.b + (197)) dL_law_2085 rfl ?_
    refine r_iconst X (v := 0) dL_law_2086 rfl ?_
    refine r_laload X (f := r1.2) _ a_m_ou (by decide) dL_law_2087 ?_
    refine r_iload X (x := r2.1) dL_law_2088 rfl ?_
    refine r_i2l X dL_law_2090 ?_
    refine r_lcmp_eq X 2097 dL_law_2091 dL_law_2092 rfl (fun c2091 => ?_) (fun c2091 => absurd (h4 c6) c2091)
    refine r_goto X 3060 dL_law_2097 rfl ?_
    refine r_iinc X (x := x5) (v := x5 + 6) [some (.ref b0), some (.ref (k.b + (0))), some (.ref (k.b + (189))), some (.ref (k.b + (197))), some (.ref (k.b + (198))), some (.int (x5 + 6)), some (.int r1.1), some (.int r2.1), none] dL_law_3060 rfl rfl rfl ?_
    refine r_goto X 28 dL_law_3063 rfl ?_
    refine VW.msk [true, true, true, true, true, true, false, false, false] rfl (lo' := [some (.ref b0), some (.ref (k.b + (0))), some (.ref (k.b + (189))), some (.ref (k.b + (197))), some (.ref (k.b + (198))), some (.int (x5 + 6)), none, none, none]) rfl ?_
    exact VW.widen (c := n + 1) (s := n' + 6) (by omega) (by omega) kk
set_option maxRecDepth 100000 in
set_option maxHeartbeats 4000000 in
theorem LT_32 {k : KT} {z : ZT} (X : XX k strs z RL cL_law 9 ret room_1) {b0 len : Nat} {xs : Nat → Int32} (hX : va_X b0 len xs (zS z) (zS z).heap) (hbl : b0 < (zS z).heap.size) (hbA : ¬ kA k b0) {T : TT} {R : RR} {ly : Fin 2 → LL} {rc : RC} {hn : HN} {rp : RP} {tp : TP} {ee : EE} {st : Fin 12 → SS} {w : Nat → Int64} {aside : Nat → Int64} {thought : Nat → Int64} {fresh : Nat → Int64} {mu : MU} {th : Int32} {mp : MP} {mf : MF} {mh : MH} {mg : MG} {ou : Nat → Int64} {od : Nat → UInt64} {n n' : Nat} (hnc : n + 1 ≤ 601024) (hns : n' + 6 ≤ 7293034) {x5 : Int32} (hlt : ¬ (Int32.ofNat len - 6 < x5)) (g0 : inb (x5) len = true) (g1 : inb (x5 + 1) len = true) (g2 : inb (x5 + 2) len = true) (g3 : inb (x5 + 3) len = true) (g4 : inb (x5 + 4) len = true) (g5 : inb (x5 + 5) len = true) (hc : xs (ix x5) &&& 63 = 32) {r1 : Int32 × (Nat → Int64)} {r2 : Int32 × (Int32)} (h1 : fL_settled (ly (0 : Fin 2)) tp st ou (xs (ix (x5 + 1))) = some r1) (h2 : f10_settled w th (xs (ix (x5 + 1))) = some r2) (h3 : r2.2 = r1.1) (h4 : r1.1 = 0 → r1.2 (ix 0) = r2.1.toInt64) (kk : VW k z (n + 1) (n' + 6) (wAll k T R ly rc hn rp tp ee st w aside thought fresh mu r2.2 mp mf mh mg r1.2 od) 28 [some (.ref b0), some (.ref (k.b + (0))), some (.ref (k.b + (189))), some (.ref (k.b + (197))), some (.ref (k.b + (198))), some (.int (x5 + 6)), none, none, none] []) : VW k z n n' (wAll k T R ly rc hn rp tp ee st w aside thought fresh mu th mp mf mh mg ou od) 28 [some (.ref b0), some (.ref (k.b + (0))), some (.ref (k.b + (189))), some (.ref (k.b + (197))), some (.ref (k.b + (198))), some (.int x5), none, none, none] [] := by
  refine r_iload X (x := x5) dL_law_28 rfl ?_
  refine r_aload_n X (x := b0) dL_law_30 rfl ?_
  refine r_slen X hX hbl hbA dL_law_31 ?_
  refine r_bipush X (v := 6) dL_law_32 rfl ?_
  refine r_isub X dL_law_34 ?_
  refine r_icmp_gt X 3066 dL_law_35 rfl (fun c => absurd c hlt) (fun _ => ?_)
  refine r_aload_n X (x := b0) dL_law_38 rfl ?_
  refine r_iload X (x := x5) dL_law_39 rfl ?_
  refine r_sld X hX hbl hbA g0 dL_law_41 ?_
  refine r_bipush X (v := 63) dL_law_42 rfl ?_
  refine r_iand X dL_law_44 ?_
  refine r_tswIn X (off := 2055) 2100 dL_law_45 (by rw [hc]; decide) (by rw [hc]; decide) (by rw [hc]; rfl) rfl ?_
  refine r_aload_n X (x := k.b + (0)) dL_law_2100 rfl ?_
  refine r_aload_n X (x := b0) dL_law_2101 rfl ?_
  refine r_iload X (x := x5) dL_law_2102 rfl ?_
  refine r_iconst X (v := 1) dL_law_2104 rfl ?_
  refine r_iadd X dL_law_2105 ?_
  refine r_sld X hX hbl hbA g1 dL_law_2106 ?_
  refine r_aload_n X (x := k.b + (197)) dL_law_2107 rfl ?_
  refine r_callSW X [.ref (k.b + (0)), .int (xs (ix (x5 + 1))), .ref (k.b + (197))] [] (KL_settled h1) lkL_settled ⟨(Nat.le_of_ble_eq_true rfl), (Nat.le_of_ble_eq_true rfl)⟩ rfl rfl (by show n + 1 ≤ 601024; omega) (by show n' + 6 ≤ 7293034; omega) rfl rfl (Nat.le_of_ble_eq_true rfl) rfl rfl dL_law_2108 ?_
  refine r_istore X [some (.ref b0), some (.ref (k.b + (0))), some (.ref (k.b + (189))), some (.ref (k.b + (197))), some (.ref (k.b + (198))), some (.int x5), some (.int r1.1), none, none] dL_law_2111 (Nat.le_of_ble_eq_true rfl) rfl ?_
  refine r_aload_n X (x := k.b + (189)) dL_law_2113 rfl ?_
  refine r_aload_n X (x := b0) dL_law_2114 rfl ?_
  refine r_iload X (x := x5) dL_law_2115 rfl ?_
  refine r_iconst X (v := 1) dL_law_2117 rfl ?_
  refine r_iadd X dL_law_2118 ?_
  refine r_sld X hX hbl hbA g1 dL_law_2119 ?_
  refine r_callV X [.int (xs (ix (x5 + 1)))] [] (K10_settled h2) lkL_269 clsX10 rfl _ o_model ⟨(Nat.le_of_ble_eq_true rfl), (Nat.le_of_ble_eq_true rfl)⟩ rfl rfl (by show n + 1 + 0 ≤ 601024; omega) (by show n' + 6 + 0 ≤ 7293034; omega) rfl rfl (Nat.le_of_ble_eq_true rfl) rfl rfl dL_law_2120 ?_
  refine r_istore X [some (.ref b0), some (.ref (k.b + (0))), some (.ref (k.b + (189))), some (.ref (k.b + (197))), some (.ref (k.b + (198))), some (.int x5), some (.int r1.1), some (.int r2.1), none] dL_law_2123 (Nat.le_of_ble_eq_true rfl) rfl ?_
  refine r_aload_n X (x := k.b + (189)) dL_law_2125 rfl ?_
  refine r_callV X [] [] (K10_thrown (r := r2.2) rfl) lkL_164 clsX10 rfl _ o_model ⟨(Nat.le_of_ble_eq_true rfl), (Nat.le_of_ble_eq_true rfl)⟩ rfl rfl (by show n + 1 + 0 ≤ 601024; omega) (by show n' + 6 + 0 ≤ 7293034; omega) rfl rfl (Nat.le_of_ble_eq_true rfl) rfl rfl dL_law_2126 ?_
  refine r_iload X (x := r1.1) dL_law_2129 rfl ?_
  refine r_icmp_eq X 2136 dL_law_2131 rfl (fun c2131 => ?_) (fun c2131 => absurd h3 c2131)
  refine r_iload X (x := r1.1) dL_law_2136 rfl ?_
  refine r_if_ne X 2153 dL_law_2138 rfl (fun c6 => ?_) (fun c6 => ?_)
  · refine r_goto X 3060 dL_law_2153 rfl ?_
    refine r_iinc X (x := x5) (v := x5 + 6) [some (.ref b0), some (.ref (k.b + (0))), some (.ref (k.b + (189))), some (.ref (k.b + (197))), some (.ref (k.b + (198))), some (.int (x5 + 6)), some (.int r1.1), some (.int r2.1), none] dL_law_3060 rfl rfl rfl ?_
    refine r_goto X 28 dL_law_3063 rfl ?_
    refine VW.msk [true, true, true, true, true, true, false, false, false] rfl (lo' := [some (.ref b0), some (.ref (k.b + (0))), some (.ref (k.b + (189))), some (.ref (k.b + (197))), some (.ref (k.b + (198))), some (.int (x5 + 6)), none, none, none]) rfl ?_
    exact VW.widen (c := n + 1) (s := n' + 6) (by omega) (by omega) kk
  · refine r_aload_n X (x := k.b + (197)) dL_law_2141 rfl ?_
    refine r_iconst X (v := 0) dL_law_2142 rfl ?_
    refine r_laload X (f := r1.2) _ a_m_ou (by decide) dL_law_2143 ?_
    refine r_iload X (x := r2.1) dL_law_2144 rfl ?_
    refine r_i2l X dL_law_2146 ?_
    refine r_lcmp_eq X 2153 dL_law_2147 dL_law_2148 rfl (fun c2147 => ?_) (fun c2147 => absurd (h4 c6) c2147)
    refine r_goto X 3060 dL_law_2153 rfl ?_
    refine r_iinc X (x := x5) (v := x5 + 6) [some (.ref b0), some (.ref (k.b + (0))), some (.ref (k.b + (189))), some (.ref (k.b + (197))), some (.ref (k.b + (198))), some (.int (x5 + 6)), some (.int r1.1), some (.int r2.1), none] dL_law_3060 rfl rfl rfl ?_
    refine r_goto X 28 dL_law_3063 rfl ?_
    refine VW.msk [true, true, true, true, true, true, false, false, false] rfl (lo' := [some (.ref b0), some (.ref (k.b + (0))), some (.ref (k.b + (189))), some (.ref (k.b + (197))), some (.ref (k.b + (198))), some (.int (x5 + 6)), none, none, none]) rfl ?_
    exact VW.widen (c := n + 1) (s := n' + 6) (by omega) (by omega) kk
set_option maxRecDepth 100000 in
set_option maxHeartbeats 4000000 in
theorem LT_33 {k : KT} {z : ZT} (X : XX k strs z RL cL_law 9 ret room_1) {b0 len : Nat} {xs : Nat → Int32} (hX : va_X b0 len xs (zS z) (zS z).heap) (hbl : b0 < (zS z).heap.size) (hbA : ¬ kA k b0) {T : TT} {R : RR} {ly : Fin 2 → LL} {rc : RC} {hn : HN} {rp : RP} {tp : TP} {ee : EE} {st : Fin 12 → SS} {w : Nat → Int64} {aside : Nat → Int64} {thought : Nat → Int64} {fresh : Nat → Int64} {mu : MU} {th : Int32} {mp : MP} {mf : MF} {mh : MH} {mg : MG} {ou : Nat → Int64} {od : Nat → UInt64} {n n' : Nat} (hnc : n + 1 ≤ 601024) (hns : n' + 6 ≤ 7293034) {x5 : Int32} (hlt : ¬ (Int32.ofNat len - 6 < x5)) (g0 : inb (x5) len = true) (g1 : inb (x5 + 1) len = true) (g2 : inb (x5 + 2) len = true) (g3 : inb (x5 + 3) len = true) (g4 : inb (x5 + 4) len = true) (g5 : inb (x5 + 5) len = true) (hc : xs (ix x5) &&& 63 = 33) {r1 : Int32} {r2 : Int32 × (Int32)} (h1 : f9_openable (ly (0 : Fin 2)) tp st = some r1) (h2 : f10_openable w th = some r2) (h3 : r1 = r2.1) (kk : VW k z (n + 1) (n' + 6) (wAll k T R ly rc hn rp tp ee st w aside thought fresh mu r2.2 mp mf mh mg ou od) 28 [some (.ref b0), some (.ref (k.b + (0))), some (.ref (k.b + (189))), some (.ref (k.b + (197))), some (.ref (k.b + (198))), some (.int (x5 + 6)), none, none, none] []) : VW k z n n' (wAll k T R ly rc hn rp tp ee st w aside thought fresh mu th mp mf mh mg ou od) 28 [some (.ref b0), some (.ref (k.b + (0))), some (.ref (k.b + (189))), some (.ref (k.b + (197))), some (.ref (k.b + (198))), some (.int x5), none, none, none] [] := by
  refine r_iload X (x := x5) dL_law_28 rfl ?_
  refine r_aload_n X (x := b0) dL_law_30 rfl ?_
  refine r_slen X hX hbl hbA dL_law_31 ?_
  refine r_bipush X (v := 6) dL_law_32 rfl ?_
  refine r_isub X dL_law_34 ?_
  refine r_icmp_gt X 3066 dL_law_35 rfl (fun c => absurd c hlt) (fun _ => ?_)
  refine r_aload_n X (x := b0) dL_law_38 rfl ?_
  refine r_iload X (x := x5) dL_law_39 rfl ?_
  refine r_sld X hX hbl hbA g0 dL_law_41 ?_
  refine r_bipush X (v := 63) dL_law_42 rfl ?_
  refine r_iand X dL_law_44 ?_
  refine r_tswIn X (off := 2111) 2156 dL_law_45 (by rw [hc]; decide) (by rw [hc]; decide) (by rw [hc]; rfl) rfl ?_
  refine r_aload_n X (x := k.b + (0)) dL_law_2156 rfl ?_
  refine r_callV X [] [] (K9_openable h1) lkL_270 clsX9 rfl _ o_main ⟨(Nat.le_of_ble_eq_true rfl), (Nat.le_of_ble_eq_true rfl)⟩ rfl rfl (by show n + 0 ≤ 601024; omega) (by show n' + 0 ≤ 7293034; omega) rfl rfl (Nat.le_of_ble_eq_true rfl) rfl rfl dL_law_2157 ?_
  refine r_aload_n X (x := k.b + (189)) dL_law_2160 rfl ?_
  refine r_callV X [] [.int r1] (K10_openable h2) lkL_273 clsX10 rfl _ o_model ⟨(Nat.le_of_ble_eq_true rfl), (Nat.le_of_ble_eq_true rfl)⟩ rfl rfl (by show n + 0 ≤ 601024; omega) (by show n' + 0 ≤ 7293034; omega) rfl rfl (Nat.le_of_ble_eq_true rfl) rfl rfl dL_law_2161 ?_
  refine r_icmp_eq X 3060 dL_law_2164 rfl (fun c2164 => ?_) (fun c2164 => absurd h3 c2164)
  refine r_iinc X (x := x5) (v := x5 + 6) [some (.ref b0), some (.ref (k.b + (0))), some (.ref (k.b + (189))), some (.ref (k.b + (197))), some (.ref (k.b + (198))), some (.int (x5 + 6)), none, none, none] dL_law_3060 rfl rfl rfl ?_
  refine r_goto X 28 dL_law_3063 rfl ?_
  exact VW.widen (c := n + 1) (s := n' + 6) (by omega) (by omega) kk
set_option maxRecDepth 100000 in
set_option maxHeartbeats 4000000 in
theorem LT_34 {k : KT} {z : ZT} (X : XX k strs z RL cL_law 9 ret room_1) {b0 len : Nat} {xs : Nat → Int32} (hX : va_X b0 len xs (zS z) (zS z).heap) (hbl : b0 < (zS z).heap.size) (hbA : ¬ kA k b0) {T : TT} {R : RR} {ly : Fin 2 → LL} {rc : RC} {hn : HN} {rp : RP} {tp : TP} {ee : EE} {st : Fin 12 → SS} {w : Nat → Int64} {aside : Nat → Int64} {thought : Nat → Int64} {fresh : Nat → Int64} {mu : MU} {th : Int32} {mp : MP} {mf : MF} {mh : MH} {mg : MG} {ou : Nat → Int64} {od : Nat → UInt64} {n n' : Nat} (hnc : n + 1 ≤ 601024) (hns : n' + 6 ≤ 7293034) {x5 : Int32} (hlt : ¬ (Int32.ofNat len - 6 < x5)) (g0 : inb (x5) len = true) (g1 : inb (x5 + 1) len = true) (g2 : inb (x5 + 2) len = true) (g3 : inb (x5 + 3) len = true) (g4 : inb (x5 + 4) len = true) (g5 : inb (x5 + 5) len = true) (hc : xs (ix x5) &&& 63 = 34) {r1 : Int32 × (Nat → Int64)} {r2 : Int32 × (Int32)} (h1 : fL_widest (ly (0 : Fin 2)) tp st ou = some r1) (h2 : f10_widest w th = some r2) (h3 : r2.2 = r1.1) (h4 : r1.1 = 0 → r1.2 (ix 0) = r2.1.toInt64) (kk : VW k z (n + 1) (n' + 6) (wAll k T R ly rc hn rp tp ee st w aside thought fresh mu r2.2 mp mf mh mg r1.2 od) 28 [some (.ref b0), some (.ref (k.b + (0))), some (.ref (k.b + (189))), some (.ref (k.b + (197))), some (.ref (k.b + (198))), some (.int (x5 + 6)), none, none, none] []) : VW k z n n' (wAll k T R ly rc hn rp tp ee st w aside thought fresh mu th mp mf mh mg ou od) 28 [some (.ref b0), some (.ref (k.b + (0))), some (.ref (k.b + (189))), some (.ref (k.b + (197))), some (.ref (k.b + (198))), some (.int x5), none, none, none] [] := by
  refine r_iload X (x := x5) dL_law_28 rfl ?_
  refine r_aload_n X (x := b0) dL_law_30 rfl ?_
  refine r_slen X hX hbl hbA dL_law_31 ?_
  refine r_bipush X (v := 6) dL_law_32 rfl ?_
  refine r_isub X dL_law_34 ?_
  refine r_icmp_gt X 3066 dL_law_35 rfl (fun c => absurd c hlt) (fun _ => ?_)
  refine r_aload_n X (x := b0) dL_law_38 rfl ?_
  refine r_iload X (x := x5) dL_law_39 rfl ?_
  refine r_sld X hX hbl hbA g0 dL_law_41 ?_
  refine r_bipush X (v := 63) dL_law_42 rfl ?_
  refine r_iand X dL_law_44 ?_
  refine r_tswIn X (off := 2124) 2169 dL_law_45 (by rw [hc]; decide) (by rw [hc]; decide) (by rw [hc]; rfl) rfl ?_
  refine r_aload_n X (x := k.b + (0)) dL_law_2169 rfl ?_
  refine r_aload_n X (x := k.b + (197)) dL_law_2170 rfl ?_
  refine r_callSW X [.ref (k.b + (0)), .ref (k.b + (197))] [] (KL_widest h1) lkL_widest ⟨(Nat.le_of_ble_eq_true rfl), (Nat.le_of_ble_eq_true rfl)⟩ rfl rfl (by show n + 1 ≤ 601024; omega) (by show n' + 6 ≤ 7293034; omega) rfl rfl (Nat.le_of_ble_eq_true rfl) rfl rfl dL_law_2171 ?_
  refine r_istore X [some (.ref b0), some (.ref (k.b + (0))), some (.ref (k.b + (189))), some (.ref (k.b + (197))), some (.ref (k.b + (198))), some (.int x5), some (.int r1.1), none, none] dL_law_2174 (Nat.le_of_ble_eq_true rfl) rfl ?_
  refine r_aload_n X (x := k.b + (189)) dL_law_2176 rfl ?_
  refine r_callV X [] [] (K10_widest h2) lkL_277 clsX10 rfl _ o_model ⟨(Nat.le_of_ble_eq_true rfl), (Nat.le_of_ble_eq_true rfl)⟩ rfl rfl (by show n + 1 + 0 ≤ 601024; omega) (by show n' + 6 + 0 ≤ 7293034; omega) rfl rfl (Nat.le_of_ble_eq_true rfl) rfl rfl dL_law_2177 ?_
  refine r_istore X [some (.ref b0), some (.ref (k.b + (0))), some (.ref (k.b + (189))), some (.ref (k.b + (197))), some (.ref (k.b + (198))), some (.int x5), some (.int r1.1), some (.int r2.1), none] dL_law_2180 (Nat.le_of_ble_eq_true rfl) rfl ?_
  refine r_aload_n X (x := k.b + (189)) dL_law_2182 rfl ?_
  refine r_callV X [] [] (K10_thrown (r := r2.2) rfl) lkL_164 clsX10 rfl _ o_model ⟨(Nat.le_of_ble_eq_true rfl), (Nat.le_of_ble_eq_true rfl)⟩ rfl rfl (by show n + 1 + 0 ≤ 601024; omega) (by show n' + 6 + 0 ≤ 7293034; omega) rfl rfl (Nat.le_of_ble_eq_true rfl) rfl rfl dL_law_2183 ?_
  refine r_iload X (x := r1.1) dL_law_2186 rfl ?_
  refine r_icmp_eq X 2193 dL_law_2188 rfl (fun c2188 => ?_) (fun c2188 => absurd h3 c2188)
  refine r_iload X (x := r1.1) dL_law_2193 rfl ?_
  refine r_if_ne X 2210 dL_law_2195 rfl (fun c6 => ?_) (fun c6 => ?_)
  · refine r_goto X 3060 dL_law_2210 rfl ?_
    refine r_iinc X (x := x5) (v := x5 + 6) [some (.ref b0), some (.ref (k.b + (0))), some (.ref (k.b + (189))), some (.ref (k.b + (197))), some (.ref (k.b + (198))), some (.int (x5 + 6)), some (.int r1.1), some (.int r2.1), none] dL_law_3060 rfl rfl rfl ?_
    refine r_goto X 28 dL_law_3063 rfl ?_
    refine VW.msk [true, true, true, true, true, true, false, false, false] rfl (lo' := [some (.ref b0), some (.ref (k.b + (0))), some (.ref (k.b + (189))), some (.ref (k.b + (197))), some (.ref (k.b + (198))), some (.int (x5 + 6)), none, none, none]) rfl ?_
    exact VW.widen (c := n + 1) (s := n' + 6) (by omega) (by omega) kk
  · refine r_aload_n X (x := k.b + (197)) dL_law_2198 rfl ?_
    refine r_iconst X (v := 0) dL_law_2199 rfl ?_
    refine r_laload X (f := r1.2) _ a_m_ou (by decide) dL_law_2200 ?_
    refine r_iload X (x := r2.1) dL_law_2201 rfl ?_
    refine r_i2l X dL_law_2203 ?_
    refine r_lcmp_eq X 2210 dL_law_2204 dL_law_2205 rfl (fun c2204 => ?_) (fun c2204 => absurd (h4 c6) c2204)
    refine r_goto X 3060 dL_law_2210 rfl ?_
    refine r_iinc X (x := x5) (v := x5 + 6) [some (.ref b0), some (.ref (k.b + (0))), some (.ref (k.b + (189))), some (.ref (k.b + (197))), some (.ref (k.b + (198))), some (.int (x5 + 6)), some (.int r1.1), some (.int r2.1), none] dL_law_3060 rfl rfl rfl ?_
    refine r_goto X 28 dL_law_3063 rfl ?_
    refine VW.msk [true, true, true, true, true, true, false, false, false] rfl (lo' := [some (.ref b0), some (.ref (k.b + (0))), some (.ref (k.b + (189))), some (.ref (k.b + (197))), some (.ref (k.b + (198))), some (.int (x5 + 6)), none, none, none]) rfl ?_
    exact VW.widen (c := n + 1) (s := n' + 6) (by omega) (by omega) kk
set_option maxRecDepth 100000 in
set_option maxHeartbeats 4000000 in
theorem LT_35 {k : KT} {z : ZT} (X : XX k strs z RL cL_law 9 ret room_1) {b0 len : Nat} {xs : Nat → Int32} (hX : va_X b0 len xs (zS z) (zS z).heap) (hbl : b0 < (zS z).heap.size) (hbA : ¬ kA k b0) {T : TT} {R : RR} {ly : Fin 2 → LL} {rc : RC} {hn : HN} {rp : RP} {tp : TP} {ee : EE} {st : Fin 12 → SS} {w : Nat → Int64} {aside : Nat → Int64} {thought : Nat → Int64} {fresh : Nat → Int64} {mu : MU} {th : Int32} {mp : MP} {mf : MF} {mh : MH} {mg : MG} {ou : Nat → Int64} {od : Nat → UInt64} {n n' : Nat} (hnc : n + 1 ≤ 601024) (hns : n' + 6 ≤ 7293034) {x5 : Int32} (hlt : ¬ (Int32.ofNat len - 6 < x5)) (g0 : inb (x5) len = true) (g1 : inb (x5 + 1) len = true) (g2 : inb (x5 + 2) len = true) (g3 : inb (x5 + 3) len = true) (g4 : inb (x5 + 4) len = true) (g5 : inb (x5 + 5) len = true) (hc : xs (ix x5) &&& 63 = 35) {r1 : Int32 × (Fin 12 → SS) × (Nat → Int64)} {r2 : Int32 × (Nat → Int64) × (Nat → Int64) × (Int32)} (h1 : fL_pressureAfter (ly (0 : Fin 2)) tp st ou (xs (ix (x5 + 1))) (xs (ix (x5 + 2))) = some r1) (h2 : f10_pressureAfter w thought th (xs (ix (x5 + 1))) (xs (ix (x5 + 2))) = some r2) (h3 : r2.2.2.2 = r1.1) (h4 : r1.1 = 0 → r1.2.2 (ix 0) = r2.1.toInt64) (kk : VW k z (n + 1) (n' + 6) (wAll k T R ly rc hn rp tp ee r1.2.1 r2.2.1 aside r2.2.2.1 fresh mu r2.2.2.2 mp mf mh mg r1.2.2 od) 28 [some (.ref b0), some (.ref (k.b + (0))), some (.ref (k.b + (189))), some (.ref (k.b + (197))), some (.ref (k.b + (198))), some (.int (x5 + 6)), none, none, none] []) : VW k z n n' (wAll k T R ly rc hn rp tp ee st w aside thought fresh mu th mp mf mh mg ou od) 28 [some (.ref b0), some (.ref (k.b + (0))), some (.ref (k.b + (189))), some (.ref (k.b + (197))), some (.ref (k.b + (198))), some (.int x5), none, none, none] [] := by
  refine r_iload X (x := x5) dL_law_28 rfl ?_
  refine r_aload_n X (x := b0) dL_law_30 rfl ?_
  refine r_slen X hX hbl hbA dL_law_31 ?_
  refine r_bipush X (v := 6) dL_law_32 rfl ?_
  refine r_isub X dL_law_34 ?_
  refine r_icmp_gt X 3066 dL_law_35 rfl (fun c => absurd c hlt) (fun _ => ?_)
  refine r_aload_n X (x := b0) dL_law_38 rfl ?_
  refine r_iload X (x := x5) dL_law_39 rfl ?_
  refine r_sld X hX hbl hbA g0 dL_law_41 ?_
  refine r_bipush X (v := 63) dL_law_42 rfl ?_
  refine r_iand X dL_law_44 ?_
  refine r_tswIn X (off := 2168) 2213 dL_law_45 (by rw [hc]; decide) (by rw [hc]; decide) (by rw [hc]; rfl) rfl ?_
  refine r_aload_n X (x := k.b + (0)) dL_law_2213 rfl ?_
  refine r_aload_n X (x := b0) dL_law_2214 rfl ?_
  refine r_iload X (x := x5) dL_law_2215 rfl ?_
  refine r_iconst X (v := 1) dL_law_2217 rfl ?_
  refine r_iadd X dL_law_2218 ?_
  refine r_sld X hX hbl hbA g1 dL_law_2219 ?_
  refine r_aload_n X (x := b0) dL_law_2220 rfl ?_
  refine r_iload X (x := x5) dL_law_2221 rfl ?_
  refine r_iconst X (v := 2) dL_law_2223 rfl ?_
  refine r_iadd X dL_law_2224 ?_
  refine r_sld X hX hbl hbA g2 dL_law_2225 ?_
  refine r_aload_n X (x := k.b + (197)) dL_law_2226 rfl ?_
  refine r_callSW X [.ref (k.b + (0)), .int (xs (ix (x5 + 1))), .int (xs (ix (x5 + 2))), .ref (k.b + (197))] [] (KL_pressureAfter h1) lkL_pressureAfter ⟨(Nat.le_of_ble_eq_true rfl), (Nat.le_of_ble_eq_true rfl)⟩ rfl rfl (by show n + 1 ≤ 601024; omega) (by show n' + 6 ≤ 7293034; omega) rfl rfl (Nat.le_of_ble_eq_true rfl) rfl rfl dL_law_2227 ?_
  refine r_istore X [some (.ref b0), some (.ref (k.b + (0))), some (.ref (k.b + (189))), some (.ref (k.b + (197))), some (.ref (k.b + (198))), some (.int x5), some (.int r1.1), none, none] dL_law_2230 (Nat.le_of_ble_eq_true rfl) rfl ?_
  refine r_aload_n X (x := k.b + (189)) dL_law_2232 rfl ?_
  refine r_aload_n X (x := b0) dL_law_2233 rfl ?_
  refine r_iload X (x := x5) dL_law_2234 rfl ?_
  refine r_iconst X (v := 1) dL_law_2236 rfl ?_
  refine r_iadd X dL_law_2237 ?_
  refine r_sld X hX hbl hbA g1 dL_law_2238 ?_
  refine r_aload_n X (x := b0) dL_law_2239 rfl ?_
  refine r_iload X (x := x5) dL_law_2240 rfl ?_
  refine r_iconst X (v := 2) dL_law_2242 rfl ?_
  refine r_iadd X dL_law_2243 ?_
  refine r_sld X hX hbl hbA g2 dL_law_2244 ?_
  refine r_callV X [.int (xs (ix (x5 + 1))), .int (xs (ix (x5 + 2)))] [] (K10_pressureAfter h2) lkL_280 clsX10 rfl _ o_model ⟨(Nat.le_of_ble_eq_true rfl), (Nat.le_of_ble_eq_true rfl)⟩ rfl rfl (by show n + 1 + 0 ≤ 601024; omega) (by show n' + 6 + 0 ≤ 7293034; omega) rfl rfl (Nat.le_of_ble_eq_true rfl) rfl rfl dL_law_2245 ?_
  refine r_istore X [some (.ref b0), some (.ref (k.b + (0))), some (.ref (k.b + (189))), some (.ref (k.b + (197))), some (.ref (k.b + (198))), some (.int x5), some (.int r1.1), some (.int r2.1), none] dL_law_2248 (Nat.le_of_ble_eq_true rfl) rfl ?_
  refine r_aload_n X (x := k.b + (189)) dL_law_2250 rfl ?_
  refine r_callV X [] [] (K10_thrown (r := r2.2.2.2) rfl) lkL_164 clsX10 rfl _ o_model ⟨(Nat.le_of_ble_eq_true rfl), (Nat.le_of_ble_eq_true rfl)⟩ rfl rfl (by show n + 1 + 0 ≤ 601024; omega) (by show n' + 6 + 0 ≤ 7293034; omega) rfl rfl (Nat.le_of_ble_eq_true rfl) rfl rfl dL_law_2251 ?_
  refine r_iload X (x := r1.1) dL_law_2254 rfl ?_
  refine r_icmp_eq X 2261 dL_law_2256 rfl (fun c2256 => ?_) (fun c2256 => absurd h3 c2256)
  refine r_iload X (x := r1.1) dL_law_2261 rfl ?_
  refine r_if_ne X 2278 dL_law_2263 rfl (fun c6 => ?_) (fun c6 => ?_)
  · refine r_goto X 3060 dL_law_2278 rfl ?_
    refine r_iinc X (x := x5) (v := x5 + 6) [some (.ref b0), some (.ref (k.b + (0))), some (.ref (k.b + (189))), some (.ref (k.b + (197))), some (.ref (k.b + (198))), some (.int (x5 + 6)), some (.int r1.1), some (.int r2.1), none] dL_law_3060 rfl rfl rfl ?_
    refine r_goto X 28 dL_law_3063 rfl ?_
    refine VW.msk [true, true, true, true, true, true, false, false, false] rfl (lo' := [some (.ref b0), some (.ref (k.b + (0))), some (.ref (k.b + (189))), some (.ref (k.b + (197))), some (.ref (k.b + (198))), some (.int (x5 + 6)), none, none, none]) rfl ?_
    exact VW.widen (c := n + 1) (s := n' + 6) (by omega) (by omega) kk
  · refine r_aload_n X (x := k.b + (197)) dL_law_2266 rfl ?_
    refine r_iconst X (v := 0) dL_law_2267 rfl ?_
    refine r_laload X (f := r1.2.2) _ a_m_ou (by decide) dL_law_2268 ?_
    refine r_iload X (x := r2.1) dL_law_2269 rfl ?_
    refine r_i2l X dL_law_2271 ?_
    refine r_lcmp_eq X 2278 dL_law_2272 dL_law_2273 rfl (fun c2272 => ?_) (fun c2272 => absurd (h4 c6) c2272)
    refine r_goto X 3060 dL_law_2278 rfl ?_
    refine r_iinc X (x := x5) (v := x5 + 6) [some (.ref b0), some (.ref (k.b + (0))), some (.ref (k.b + (189))), some (.ref (k.b + (197))), some (.ref (k.b + (198))), some (.int (x5 + 6)), some (.int r1.1), some (.int r2.1), none] dL_law_3060 rfl rfl rfl ?_
    refine r_goto X 28 dL_law_3063 rfl ?_
    refine VW.msk [true, true, true, true, true, true, false, false, false] rfl (lo' := [some (.ref b0), some (.ref (k.b + (0))), some (.ref (k.b + (189))), some (.ref (k.b + (197))), some (.ref (k.b + (198))), some (.int (x5 + 6)), none, none, none]) rfl ?_
    exact VW.widen (c := n + 1) (s := n' + 6) (by omega) (by omega) kk
set_option maxRecDepth 100000 in
set_option maxHeartbeats 4000000 in
theorem LT_36 {k : KT} {z : ZT} (X : XX k strs z RL cL_law 9 ret room_1) {b0 len : Nat} {xs : Nat → Int32} (hX : va_X b0 len xs (zS z) (zS z).heap) (hbl : b0 < (zS z).heap.size) (hbA : ¬ kA k b0) {T : TT} {R : RR} {ly : Fin 2 → LL} {rc : RC} {hn : HN} {rp : RP} {tp : TP} {ee : EE} {st : Fin 12 → SS} {w : Nat → Int64} {aside : Nat → Int64} {thought : Nat → Int64} {fresh : Nat → Int64} {mu : MU} {th : Int32} {mp : MP} {mf : MF} {mh : MH} {mg : MG} {ou : Nat → Int64} {od : Nat → UInt64} {n n' : Nat} (hnc : n + 1 ≤ 601024) (hns : n' + 6 ≤ 7293034) {x5 : Int32} (hlt : ¬ (Int32.ofNat len - 6 < x5)) (g0 : inb (x5) len = true) (g1 : inb (x5 + 1) len = true) (g2 : inb (x5 + 2) len = true) (g3 : inb (x5 + 3) len = true) (g4 : inb (x5 + 4) len = true) (g5 : inb (x5 + 5) len = true) (hc : xs (ix x5) &&& 63 = 36) {r1 : Int32 × (Fin 12 → SS) × (Nat → Int64)} {r2 : Int32 × (Nat → Int64) × (Nat → Int64) × (Int32)} (h1 : fL_lowest (ly (0 : Fin 2)) tp st ou (xs (ix (x5 + 1))) (xs (ix (x5 + 2))) = some r1) (h2 : f10_lowest w thought th (xs (ix (x5 + 1))) (xs (ix (x5 + 2))) = some r2) (h3 : r2.2.2.2 = r1.1) (h4 : r1.1 = 0 → r1.2.2 (ix 0) = r2.1.toInt64) (kk : VW k z (n + 1) (n' + 6) (wAll k T R ly rc hn rp tp ee r1.2.1 r2.2.1 aside r2.2.2.1 fresh mu r2.2.2.2 mp mf mh mg r1.2.2 od) 28 [some (.ref b0), some (.ref (k.b + (0))), some (.ref (k.b + (189))), some (.ref (k.b + (197))), some (.ref (k.b + (198))), some (.int (x5 + 6)), none, none, none] []) : VW k z n n' (wAll k T R ly rc hn rp tp ee st w aside thought fresh mu th mp mf mh mg ou od) 28 [some (.ref b0), some (.ref (k.b + (0))), some (.ref (k.b + (189))), some (.ref (k.b + (197))), some (.ref (k.b + (198))), some (.int x5), none, none, none] [] := by
  refine r_iload X (x := x5) dL_law_28 rfl ?_
  refine r_aload_n X (x := b0) dL_law_30 rfl ?_
  refine r_slen X hX hbl hbA dL_law_31 ?_
  refine r_bipush X (v := 6) dL_law_32 rfl ?_
  refine r_isub X dL_law_34 ?_
  refine r_icmp_gt X 3066 dL_law_35 rfl (fun c => absurd c hlt) (fun _ => ?_)
  refine r_aload_n X (x := b0) dL_law_38 rfl ?_
  refine r_iload X (x := x5) dL_law_39 rfl ?_
  refine r_sld X hX hbl hbA g0 dL_law_41 ?_
  refine r_bipush X (v := 63) dL_law_42 rfl ?_
  refine r_iand X dL_law_44 ?_
  refine r_tswIn X (off := 2236) 2281 dL_law_45 (by rw [hc]; decide) (by rw [hc]; decide) (by rw [hc]; rfl) rfl ?_
  refine r_aload_n X (x := k.b + (0)) dL_law_2281 rfl ?_
  refine r_aload_n X (x := b0) dL_law_2282 rfl ?_
  refine r_iload X (x := x5) dL_law_2283 rfl ?_
  refine r_iconst X (v := 1) dL_law_2285 rfl ?_
  refine r_iadd X dL_law_2286 ?_
  refine r_sld X hX hbl hbA g1 dL_law_2287 ?_
  refine r_aload_n X (x := b0) dL_law_2288 rfl ?_
  refine r_iload X (x := x5) dL_law_2289 rfl ?_
  refine r_iconst X (v := 2) dL_law_2291 rfl ?_
  refine r_iadd X dL_law_2292 ?_
  refine r_sld X hX hbl hbA g2 dL_law_2293 ?_
  refine r_aload_n X (x := k.b + (197)) dL_law_2294 rfl ?_
  refine r_callSW X [.ref (k.b + (0)), .int (xs (ix (x5 + 1))), .int (xs (ix (x5 + 2))), .ref (k.b + (197))] [] (KL_lowest h1) lkL_lowest ⟨(Nat.le_of_ble_eq_true rfl), (Nat.le_of_ble_eq_true rfl)⟩ rfl rfl (by show n + 1 ≤ 601024; omega) (by show n' + 6 ≤ 7293034; omega) rfl rfl (Nat.le_of_ble_eq_true rfl) rfl rfl dL_law_2295 ?_
  refine r_istore X [some (.ref b0), some (.ref (k.b + (0))), some (.ref (k.b + (189))), some (.ref (k.b + (197))), some (.ref (k.b + (198))), some (.int x5), some (.int r1.1), none, none] dL_law_2298 (Nat.le_of_ble_eq_true rfl) rfl ?_
  refine r_aload_n X (x := k.b + (189)) dL_law_2300 rfl ?_
  refine r_aload_n X (x := b0) dL_law_2301 rfl ?_
  refine r_iload X (x := x5) dL_law_2302 rfl ?_
  refine r_iconst X (v := 1) dL_law_2304 rfl ?_
  refine r_iadd X dL_law_2305 ?_
  refine r_sld X hX hbl hbA g1 dL_law_2306 ?_
  refine r_aload_n X (x := b0) dL_law_2307 rfl ?_
  refine r_iload X (x := x5) dL_law_2308 rfl ?_
  refine r_iconst X (v := 2) dL_law_2310 rfl ?_
  refine r_iadd X dL_law_2311 ?_
  refine r_sld X hX hbl hbA g2 dL_law_2312 ?_
  refine r_callV X [.int (xs (ix (x5 + 1))), .int (xs (ix (x5 + 2)))] [] (K10_lowest h2) lkL_283 clsX10 rfl _ o_model ⟨(Nat.le_of_ble_eq_true rfl), (Nat.le_of_ble_eq_true rfl)⟩ rfl rfl (by show n + 1 + 0 ≤ 601024; omega) (by show n' + 6 + 0 ≤ 7293034; omega) rfl rfl (Nat.le_of_ble_eq_true rfl) rfl rfl dL_law_2313 ?_
  refine r_istore X [some (.ref b0), some (.ref (k.b + (0))), some (.ref (k.b + (189))), some (.ref (k.b + (197))), some (.ref (k.b + (198))), some (.int x5), some (.int r1.1), some (.int r2.1), none] dL_law_2316 (Nat.le_of_ble_eq_true rfl) rfl ?_
  refine r_aload_n X (x := k.b + (189)) dL_law_2318 rfl ?_
  refine r_callV X [] [] (K10_thrown (r := r2.2.2.2) rfl) lkL_164 clsX10 rfl _ o_model ⟨(Nat.le_of_ble_eq_true rfl), (Nat.le_of_ble_eq_true rfl)⟩ rfl rfl (by show n + 1 + 0 ≤ 601024; omega) (by show n' + 6 + 0 ≤ 7293034; omega) rfl rfl (Nat.le_of_ble_eq_true rfl) rfl rfl dL_law_2319 ?_
  refine r_iload X (x := r1.1) dL_law_2322 rfl ?_
  refine r_icmp_eq X 2329 dL_law_2324 rfl (fun c2324 => ?_) (fun c2324 => absurd h3 c2324)
  refine r_iload X (x := r1.1) dL_law_2329 rfl ?_
  refine r_if_ne X 2346 dL_law_2331 rfl (fun c6 => ?_) (fun c6 => ?_)
  · refine r_goto X 3060 dL_law_2346 rfl ?_
    refine r_iinc X (x := x5) (v := x5 + 6) [some (.ref b0), some (.ref (k.b + (0))), some (.ref (k.b + (189))), some (.ref (k.b + (197))), some (.ref (k.b + (198))), some (.int (x5 + 6)), some (.int r1.1), some (.int r2.1), none] dL_law_3060 rfl rfl rfl ?_
    refine r_goto X 28 dL_law_3063 rfl ?_
    refine VW.msk [true, true, true, true, true, true, false, false, false] rfl (lo' := [some (.ref b0), some (.ref (k.b + (0))), some (.ref (k.b + (189))), some (.ref (k.b + (197))), some (.ref (k.b + (198))), some (.int (x5 + 6)), none, none, none]) rfl ?_
    exact VW.widen (c := n + 1) (s := n' + 6) (by omega) (by omega) kk
  · refine r_aload_n X (x := k.b + (197)) dL_law_2334 rfl ?_
    refine r_iconst X (v := 0) dL_law_2335 rfl ?_
    refine r_laload X (f := r1.2.2) _ a_m_ou (by decide) dL_law_2336 ?_
    refine r_iload X (x := r2.1) dL_law_2337 rfl ?_
    refine r_i2l X dL_law_2339 ?_
    refine r_lcmp_eq X 2346 dL_law_2340 dL_law_2341 rfl (fun c2340 => ?_) (fun c2340 => absurd (h4 c6) c2340)
    refine r_goto X 3060 dL_law_2346 rfl ?_
    refine r_iinc X (x := x5) (v := x5 + 6) [some (.ref b0), some (.ref (k.b + (0))), some (.ref (k.b + (189))), some (.ref (k.b + (197))), some (.ref (k.b + (198))), some (.int (x5 + 6)), some (.int r1.1), some (.int r2.1), none] dL_law_3060 rfl rfl rfl ?_
    refine r_goto X 28 dL_law_3063 rfl ?_
    refine VW.msk [true, true, true, true, true, true, false, false, false] rfl (lo' := [some (.ref b0), some (.ref (k.b + (0))), some (.ref (k.b + (189))), some (.ref (k.b + (197))), some (.ref (k.b + (198))), some (.int (x5 + 6)), none, none, none]) rfl ?_
    exact VW.widen (c := n + 1) (s := n' + 6) (by omega) (by omega) kk
set_option maxRecDepth 100000 in
set_option maxHeartbeats 4000000 in
theorem LT_37 {k : KT} {z : ZT} (X : XX k strs z RL cL_law 9 ret room_1) {b0 len : Nat} {xs : Nat → Int32} (hX : va_X b0 len xs (zS z) (zS z).heap) (hbl : b0 < (zS z).heap.size) (hbA : ¬ kA k b0) {T : TT} {R : RR} {ly : Fin 2 → LL} {rc : RC} {hn : HN} {rp : RP} {tp : TP} {ee : EE} {st : Fin 12 → SS} {w : Nat → Int64} {aside : Nat → Int64} {thought : Nat → Int64} {fresh : Nat → Int64} {mu : MU} {th : Int32} {mp : MP} {mf : MF} {mh : MH} {mg : MG} {ou : Nat → Int64} {od : Nat → UInt64} {n n' : Nat} (hnc : n + 1 ≤ 601024) (hns : n' + 6 ≤ 7293034) {x5 : Int32} (hlt : ¬ (Int32.ofNat len - 6 < x5)) (g0 : inb (x5) len = true) (g1 : inb (x5 + 1) len = true) (g2 : inb (x5 + 2) len = true) (g3 : inb (x5 + 3) len = true) (g4 : inb (x5 + 4) len = true) (g5 : inb (x5 + 5) len = true) (hc : xs (ix x5) &&& 63 = 37) {r1 : Int32 × (Fin 12 → SS) × (Nat → Int64)} {r2 : Int32 × (Nat → Int64) × (Nat → Int64) × (Int32)} (h1 : fL_ticksTo (ly (0 : Fin 2)) tp st ou (xs (ix (x5 + 1))) (xs (ix (x5 + 2))) = some r1) (h2 : f10_ticksTo w thought th (xs (ix (x5 + 1))) (xs (ix (x5 + 2))) = some r2) (h3 : r2.2.2.2 = r1.1) (h4 : r1.1 = 0 → r1.2.2 (ix 0) = r2.1.toInt64) (kk : VW k z (n + 1) (n' + 6) (wAll k T R ly rc hn rp tp ee r1.2.1 r2.2.1 aside r2.2.2.1 fresh mu r2.2.2.2 mp mf mh mg r1.2.2 od) 28 [some (.ref b0), some (.ref (k.b + (0))), some (.ref (k.b + (189))), some (.ref (k.b + (197))), some (.ref (k.b + (198))), some (.int (x5 + 6)), none, none, none] []) : VW k z n n' (wAll k T R ly rc hn rp tp ee st w aside thought fresh mu th mp mf mh mg ou od) 28 [some (.ref b0), some (.ref (k.b + (0))), some (.ref (k.b + (189))), some (.ref (k.b + (197))), some (.ref (k.b + (198))), some (.int x5), none, none, none] [] := by
  refine r_iload X (x := x5) dL_law_28 rfl ?_
  refine r_aload_n X (x := b0) dL_law_30 rfl ?_
  refine r_slen X hX hbl hbA dL_law_31 ?_
  refine r_bipush X (v := 6) dL_law_32 rfl ?_
  refine r_isub X dL_law_34 ?_
  refine r_icmp_gt X 3066 dL_law_35 rfl (fun c => absurd c hlt) (fun _ => ?_)
  refine r_aload_n X (x := b0) dL_law_38 rfl ?_
  refine r_iload X (x := x5) dL_law_39 rfl ?_
  refine r_sld X hX hbl hbA g0 dL_law_41 ?_
  refine r_bipush X (v := 63) dL_law_42 rfl ?_
  refine r_iand X dL_law_44 ?_
  refine r_tswIn X (off := 2304) 2349 dL_law_45 (by rw [hc]; decide) (by rw [hc]; decide) (by rw [hc]; rfl) rfl ?_
  refine r_aload_n X (x := k.b + (0)) dL_law_2349 rfl ?_
  refine r_aload_n X (x := b0) dL_law_2350 rfl ?_
  refine r_iload X (x := x5) dL_law_2351 rfl ?_
  refine r_iconst X (v := 1) dL_law_2353 rfl ?_
  refine r_iadd X dL_law_2354 ?_
  refine r_sld X hX hbl hbA g1 dL_law_2355 ?_
  refine r_aload_n X (x := b0) dL_law_2356 rfl ?_
  refine r_iload X (x := x5) dL_law_2357 rfl ?_
  refine r_iconst X (v := 2) dL_law_2359 rfl ?_
  refine r_iadd X dL_law_2360 ?_
  refine r_sld X hX hbl hbA g2 dL_law_2361 ?_
  refine r_aload_n X (x := k.b + (197)) dL_law_2362 rfl ?_
  refine r_callSW X [.ref (k.b + (0)), .int (xs (ix (x5 + 1))), .int (xs (ix (x5 + 2))), .ref (k.b + (197))] [] (KL_ticksTo h1) lkL_ticksTo ⟨(Nat.le_of_ble_eq_true rfl), (Nat.le_of_ble_eq_true rfl)⟩ rfl rfl (by show n + 1 ≤ 601024; omega) (by show n' + 6 ≤ 7293034; omega) rfl rfl (Nat.le_of_ble_eq_true rfl) rfl rfl dL_law_2363 ?_
  refine r_istore X [some (.ref b0), some (.ref (k.b + (0))), some (.ref (k.b + (189))), some (.ref (k.b + (197))), some (.ref (k.b + (198))), some (.int x5), some (.int r1.1), none, none] dL_law_2366 (Nat.le_of_ble_eq_true rfl) rfl ?_
  refine r_aload_n X (x := k.b + (189)) dL_law_2368 rfl ?_
  refine r_aload_n X (x := b0) dL_law_2369 rfl ?_
  refine r_iload X (x := x5) dL_law_2370 rfl ?_
  refine r_iconst X (v := 1) dL_law_2372 rfl ?_
  refine r_iadd X dL_law_2373 ?_
  refine r_sld X hX hbl hbA g1 dL_law_2374 ?_
  refine r_aload_n X (x := b0) dL_law_2375 rfl ?_
  refine r_iload X (x := x5) dL_law_2376 rfl ?_
  refine r_iconst X (v := 2) dL_law_2378 rfl ?_
  refine r_iadd X dL_law_2379 ?_
  refine r_sld X hX hbl hbA g2 dL_law_2380 ?_
  refine r_callV X [.int (xs (ix (x5 + 1))), .int (xs (ix (x5 + 2)))] [] (K10_ticksTo h2) lkL_286 clsX10 rfl _ o_model ⟨(Nat.le_of_ble_eq_true rfl), (Nat.le_of_ble_eq_true rfl)⟩ rfl rfl (by show n + 1 + 0 ≤ 601024; omega) (by show n' + 6 + 0 ≤ 7293034; omega) rfl rfl (Nat.le_of_ble_eq_true rfl) rfl rfl dL_law_2381 ?_
  refine r_istore X [some (.ref b0), some (.ref (k.b + (0))), some (.ref (k.b + (189))), some (.ref (k.b + (197))), some (.ref (k.b + (198))), some (.int x5), some (.int r1.1), some (.int r2.1), none] dL_law_2384 (Nat.le_of_ble_eq_true rfl) rfl ?_
  refine r_aload_n X (x := k.b + (189)) dL_law_2386 rfl ?_
  refine r_callV X [] [] (K10_thrown (r := r2.2.2.2) rfl) lkL_164 clsX10 rfl _ o_model ⟨(Nat.le_of_ble_eq_true rfl), (Nat.le_of_ble_eq_true rfl)⟩ rfl rfl (by show n + 1 + 0 ≤ 601024; omega) (by show n' + 6 + 0 ≤ 7293034; omega) rfl rfl (Nat.le_of_ble_eq_true rfl) rfl rfl dL_law_2387 ?_
  refine r_iload X (x := r1.1) dL_law_2390 rfl ?_
  refine r_icmp_eq X 2397 dL_law_2392 rfl (fun c2392 => ?_) (fun c2392 => absurd h3 c2392)
  refine r_iload X (x := r1.1) dL_law_2397 rfl ?_
  refine r_if_ne X 2414 dL_law_2399 rfl (fun c6 => ?_) (fun c6 => ?_)
  · refine r_goto X 3060 dL_law_2414 rfl ?_
    refine r_iinc X (x := x5) (v := x5 + 6) [some (.ref b0), some (.ref (k.b + (0))), some (.ref (k.b + (189))), some (.ref (k.b + (197))), some (.ref (k.b + (198))), some (.int (x5 + 6)), some (.int r1.1), some (.int r2.1), none] dL_law_3060 rfl rfl rfl ?_
    refine r_goto X 28 dL_law_3063 rfl ?_
    refine VW.msk [true, true, true, true, true, true, false, false, false] rfl (lo' := [some (.ref b0), some (.ref (k.b + (0))), some (.ref (k.b + (189))), some (.ref (k.b + (197))), some (.ref (k.b + (198))), some (.int (x5 + 6)), none, none, none]) rfl ?_
    exact VW.widen (c := n + 1) (s := n' + 6) (by omega) (by omega) kk
  · refine r_aload_n X (x := k.b + (197)) dL_law_2402 rfl ?_
    refine r_iconst X (v := 0) dL_law_2403 rfl ?_
    refine r_laload X (f := r1.2.2) _ a_m_ou (by decide) dL_law_2404 ?_
    refine r_iload X (x := r2.1) dL_law_2405 rfl ?_
    refine r_i2l X dL_law_2407 ?_
    refine r_lcmp_eq X 2414 dL_law_2408 dL_law_2409 rfl (fun c2408 => ?_) (fun c2408 => absurd (h4 c6) c2408)
    refine r_goto X 3060 dL_law_2414 rfl ?_
    refine r_iinc X (x := x5) (v := x5 + 6) [some (.ref b0), some (.ref (k.b + (0))), some (.ref (k.b + (189))), some (.ref (k.b + (197))), some (.ref (k.b + (198))), some (.int (x5 + 6)), some (.int r1.1), some (.int r2.1), none] dL_law_3060 rfl rfl rfl ?_
    refine r_goto X 28 dL_law_3063 rfl ?_
    refine VW.msk [true, true, true, true, true, true, false, false, false] rfl (lo' := [some (.ref b0), some (.ref (k.b + (0))), some (.ref (k.b + (189))), some (.ref (k.b + (197))), some (.ref (k.b + (198))), some (.int (x5 + 6)), none, none, none]) rfl ?_
    exact VW.widen (c := n + 1) (s := n' + 6) (by omega) (by omega) kk
set_option maxRecDepth 100000 in
set_option maxHeartbeats 4000000 in
theorem LT_38 {k : KT} {z : ZT} (X : XX k strs z RL cL_law 9 ret room_1) {b0 len : Nat} {xs : Nat → Int32} (hX : va_X b0 len xs (zS z) (zS z).heap) (hbl : b0 < (zS z).heap.size) (hbA : ¬ kA k b0) {T : TT} {R : RR} {ly : Fin 2 → LL} {rc : RC} {hn : HN} {rp : RP} {tp : TP} {ee : EE} {st : Fin 12 → SS} {w : Nat → Int64} {aside : Nat → Int64} {thought : Nat → Int64} {fresh : Nat → Int64} {mu : MU} {th : Int32} {mp : MP} {mf : MF} {mh : MH} {mg : MG} {ou : Nat → Int64} {od : Nat → UInt64} {n n' : Nat} (hnc : n + 1 ≤ 601024) (hns : n' + 6 ≤ 7293034) {x5 : Int32} (hlt : ¬ (Int32.ofNat len - 6 < x5)) (g0 : inb (x5) len = true) (g1 : inb (x5 + 1) len = true) (g2 : inb (x5 + 2) len = true) (g3 : inb (x5 + 3) len = true) (g4 : inb (x5 + 4) len = true) (g5 : inb (x5 + 5) len = true) (hc : xs (ix x5) &&& 63 = 38) {r1 : Int32 × (Fin 12 → SS) × (Nat → Int64)} {r2 : Int32 × (Nat → Int64) × (Nat → Int64) × (Int32)} (h1 : fL_tripsIn (ly (0 : Fin 2)) tp st ou (xs (ix (x5 + 1))) = some r1) (h2 : f10_tripsIn w thought th (xs (ix (x5 + 1))) = some r2) (h3 : r2.2.2.2 = r1.1) (h4 : r1.1 = 0 → r1.2.2 (ix 0) = r2.1.toInt64) (kk : VW k z (n + 1) (n' + 6) (wAll k T R ly rc hn rp tp ee r1.2.1 r2.2.1 aside r2.2.2.1 fresh mu r2.2.2.2 mp mf mh mg r1.2.2 od) 28 [some (.ref b0), some (.ref (k.b + (0))), some (.ref (k.b + (189))), some (.ref (k.b + (197))), some (.ref (k.b + (198))), some (.int (x5 + 6)), none, none, none] []) : VW k z n n' (wAll k T R ly rc hn rp tp ee st w aside thought fresh mu th mp mf mh mg ou od) 28 [some (.ref b0), some (.ref (k.b + (0))), some (.ref (k.b + (189))), some (.ref (k.b + (197))), some (.ref (k.b + (198))), some (.int x5), none, none, none] [] := by
  refine r_iload X (x := x5) dL_law_28 rfl ?_
  refine r_aload_n X (x := b0) dL_law_30 rfl ?_
  refine r_slen X hX hbl hbA dL_law_31 ?_
  refine r_bipush X (v := 6) dL_law_32 rfl ?_
  refine r_isub X dL_law_34 ?_
  refine r_icmp_gt X 3066 dL_law_35 rfl (fun c => absurd c hlt) (fun _ => ?_)
  refine r_aload_n X (x := b0) dL_law_38 rfl ?_
  refine r_iload X (x := x5) dL_law_39 rfl ?_
  refine r_sld X hX hbl hbA g0 dL_law_41 ?_
  refine r_bipush X (v := 63) dL_law_42 rfl ?_
  refine r_iand X dL_law_44 ?_
  refine r_tswIn X (off := 2372) 2417 dL_law_45 (by rw [hc]; decide) (by rw [hc]; decide) (by rw [hc]; rfl) rfl ?_
  refine r_aload_n X (x := k.b + (0)) dL_law_2417 rfl ?_
  refine r_aload_n X (x := b0) dL_law_2418 rfl ?_
  refine r_iload X (x := x5) dL_law_2419 rfl ?_
  refine r_iconst X (v := 1) dL_law_2421 rfl ?_
  refine r_iadd X dL_law_2422 ?_
  refine r_sld X hX hbl hbA g1 dL_law_2423 ?_
  refine r_aload_n X (x := k.b + (197)) dL_law_2424 rfl ?_
  refine r_callSW X [.ref (k.b + (0)), .int (xs (ix (x5 + 1))), .ref (k.b + (197))] [] (KL_tripsIn h1) lkL_tripsIn ⟨(Nat.le_of_ble_eq_true rfl), (Nat.le_of_ble_eq_true rfl)⟩ rfl rfl (by show n + 1 ≤ 601024; omega) (by show n' + 6 ≤ 7293034; omega) rfl rfl (Nat.le_of_ble_eq_true rfl) rfl rfl dL_law_2425 ?_
  refine r_istore X [some (.ref b0), some (.ref (k.b + (0))), some (.ref (k.b + (189))), some (.ref (k.b + (197))), some (.ref (k.b + (198))), some (.int x5), some (.int r1.1), none, none] dL_law_2428 (Nat.le_of_ble_eq_true rfl) rfl ?_
  refine r_aload_n X (x := k.b + (189)) dL_law_2430 rfl ?_
  refine r_aload_n X (x := b0) dL_law_2431 rfl ?_
  refine r_iload X (x := x5) dL_law_2432 rfl ?_
  refine r_iconst X (v := 1) dL_law_2434 rfl ?_
  refine r_iadd X dL_law_2435 ?_
  refine r_sld X hX hbl hbA g1 dL_law_2436 ?_
  refine r_callV X [.int (xs (ix (x5 + 1)))] [] (K10_tripsIn h2) lkL_289 clsX10 rfl _ o_model ⟨(Nat.le_of_ble_eq_true rfl), (Nat.le_of_ble_eq_true rfl)⟩ rfl rfl (by show n + 1 + 0 ≤ 601024; omega) (by show n' + 6 + 0 ≤ 7293034; omega) rfl rfl (Nat.le_of_ble_eq_true rfl) rfl rfl dL_law_2437 ?_
  refine r_istore X [some (.ref b0), some (.ref (k.b + (0))), some (.ref (k.b + (189))), some (.ref (k.b + (197))), some (.ref (k.b + (198))), some (.int x5), some (.int r1.1), some (.int r2.1), none] dL_law_2440 (Nat.le_of_ble_eq_true rfl) rfl ?_
  refine r_aload_n X (x := k.b + (189)) dL_law_2442 rfl ?_
  refine r_callV X [] [] (K10_thrown (r := r2.2.2.2) rfl) lkL_164 clsX10 rfl _ o_model ⟨(Nat.le_of_ble_eq_true rfl), (Nat.le_of_ble_eq_true rfl)⟩ rfl rfl (by show n + 1 + 0 ≤ 601024; omega) (by show n' + 6 + 0 ≤ 7293034; omega) rfl rfl (Nat.le_of_ble_eq_true rfl) rfl rfl dL_law_2443 ?_
  refine r_iload X (x := r1.1) dL_law_2446 rfl ?_
  refine r_icmp_eq X 2453 dL_law_2448 rfl (fun c2448 => ?_) (fun c2448 => absurd h3 c2448)
  refine r_iload X (x := r1.1) dL_law_2453 rfl ?_
  refine r_if_ne X 2470 dL_law_2455 rfl (fun c6 => ?_) (fun c6 => ?_)
  · refine r_goto X 3060 dL_law_2470 rfl ?_
    refine r_iinc X (x := x5) (v := x5 + 6) [some (.ref b0), some (.ref (k.b + (0))), some (.ref (k.b + (189))), some (.ref (k.b + (197))), some (.ref (k.b + (198))), some (.int (x5 + 6)), some (.int r1.1), some (.int r2.1), none] dL_law_3060 rfl rfl rfl ?_
    refine r_goto X 28 dL_law_3063 rfl ?_
    refine VW.msk [true, true, true, true, true, true, false, false, false] rfl (lo' := [some (.ref b0), some (.ref (k.b + (0))), some (.ref (k.b + (189))), some (.ref (k.b + (197))), some (.ref (k.b + (198))), some (.int (x5 + 6)), none, none, none]) rfl ?_
    exact VW.widen (c := n + 1) (s := n' + 6) (by omega) (by omega) kk
  · refine r_aload_n X (x := k.b + (197)) dL_law_2458 rfl ?_
    refine r_iconst X (v := 0) dL_law_2459 rfl ?_
    refine r_laload X (f := r1.2.2) _ a_m_ou (by decide) dL_law_2460 ?_
    refine r_iload X (x := r2.1) dL_law_2461 rfl ?_
    refine r_i2l X dL_law_2463 ?_
    refine r_lcmp_eq X 2470 dL_law_2464 dL_law_2465 rfl (fun c2464 => ?_) (fun c2464 => absurd (h4 c6) c2464)
    refine r_goto X 3060 dL_law_2470 rfl ?_
    refine r_iinc X (x := x5) (v := x5 + 6) [some (.ref b0), some (.ref (k.b + (0))), some (.ref (k.b + (189))), some (.ref (k.b + (197))), some (.ref (k.b + (198))), some (.int (x5 + 6)), some (.int r1.1), some (.int r2.1), none] dL_law_3060 rfl rfl rfl ?_
    refine r_goto X 28 dL_law_3063 rfl ?_
    refine VW.msk [true, true, true, true, true, true, false, false, false] rfl (lo' := [some (.ref b0), some (.ref (k.b + (0))), some (.ref (k.b + (189))), some (.ref (k.b + (197))), some (.ref (k.b + (198))), some (.int (x5 + 6)), none, none, none]) rfl ?_
    exact VW.widen (c := n + 1) (s := n' + 6) (by omega) (by omega) kk
set_option maxRecDepth 100000 in
set_option maxHeartbeats 4000000 in
theorem LT_39 {k : KT} {z : ZT} (X : XX k strs z RL cL_law 9 ret room_1) {b0 len : Nat} {xs : Nat → Int32} (hX : va_X b0 len xs (zS z) (zS z).heap) (hbl : b0 < (zS z).heap.size) (hbA : ¬ kA k b0) {T : TT} {R : RR} {ly : Fin 2 → LL} {rc : RC} {hn : HN} {rp : RP} {tp : TP} {ee : EE} {st : Fin 12 → SS} {w : Nat → Int64} {aside : Nat → Int64} {thought : Nat → Int64} {fresh : Nat → Int64} {mu : MU} {th : Int32} {mp : MP} {mf : MF} {mh : MH} {mg : MG} {ou : Nat → Int64} {od : Nat → UInt64} {n n' : Nat} (hnc : n + 1 ≤ 601024) (hns : n' + 6 ≤ 7293034) {x5 : Int32} (hlt : ¬ (Int32.ofNat len - 6 < x5)) (g0 : inb (x5) len = true) (g1 : inb (x5 + 1) len = true) (g2 : inb (x5 + 2) len = true) (g3 : inb (x5 + 3) len = true) (g4 : inb (x5 + 4) len = true) (g5 : inb (x5 + 5) len = true) (hc : xs (ix x5) &&& 63 = 39) {r1 : Int32 × (Fin 12 → SS) × (Nat → UInt64)} {r2 : UInt64 × (Nat → Int64) × (Nat → Int64) × (Int32)} (h1 : fL_meanPressure (ly (0 : Fin 2)) tp st od (xs (ix (x5 + 1))) (xs (ix (x5 + 2))) = some r1) (h2 : f10_meanPressure w thought th (xs (ix (x5 + 1))) (xs (ix (x5 + 2))) = some r2) (h3 : r2.2.2.2 = r1.1) (h4 : r1.1 = 0 → Op.cmpValue (FP.dcmp (r1.2.2 (ix 0)) r2.1) .l = 0) (kk : VW k z (n + 1) (n' + 6) (wAll k T R ly rc hn rp tp ee r1.2.1 r2.2.1 aside r2.2.2.1 fresh mu r2.2.2.2 mp mf mh mg ou r1.2.2) 28 [some (.ref b0), some (.ref (k.b + (0))), some (.ref (k.b + (189))), some (.ref (k.b + (197))), some (.ref (k.b + (198))), some (.int (x5 + 6)), none, none, none] []) : VW k z n n' (wAll k T R ly rc hn rp tp ee st w aside thought fresh mu th mp mf mh mg ou od) 28 [some (.ref b0), some (.ref (k.b + (0))), some (.ref (k.b + (189))), some (.ref (k.b + (197))), some (.ref (k.b + (198))), some (.int x5), none, none, none] [] := by
  refine r_iload X (x := x5) dL_law_28 rfl ?_
  refine r_aload_n X (x := b0) dL_law_30 rfl ?_
  refine r_slen X hX hbl hbA dL_law_31 ?_
  refine r_bipush X (v := 6) dL_law_32 rfl ?_
  refine r_isub X dL_law_34 ?_
  refine r_icmp_gt X 3066 dL_law_35 rfl (fun c => absurd c hlt) (fun _ => ?_)
  refine r_aload_n X (x := b0) dL_law_38 rfl ?_
  refine r_iload X (x := x5) dL_law_39 rfl ?_
  refine r_sld X hX hbl hbA g0 dL_law_41 ?_
  refine r_bipush X (v := 63) dL_law_42 rfl ?_
  refine r_iand X dL_law_44 ?_
  refine r_tswIn X (off := 2428) 2473 dL_law_45 (by rw [hc]; decide) (by rw [hc]; decide) (by rw [hc]; rfl) rfl ?_
  refine r_aload_n X (x := k.b + (0)) dL_law_2473 rfl ?_
  refine r_aload_n X (x := b0) dL_law_2474 rfl ?_
  refine r_iload X (x := x5) dL_law_2475 rfl ?_
  refine r_iconst X (v := 1) dL_law_2477 rfl ?_
  refine r_iadd X dL_law_2478 ?_
  refine r_sld X hX hbl hbA g1 dL_law_2479 ?_
  refine r_aload_n X (x := b0) dL_law_2480 rfl ?_
  refine r_iload X (x := x5) dL_law_2481 rfl ?_
  refine r_iconst X (v := 2) dL_law_2483 rfl ?_
  refine r_iadd X dL_law_2484 ?_
  refine r_sld X hX hbl hbA g2 dL_law_2485 ?_
  refine r_aload X (x := k.b + (198)) dL_law_2486 rfl ?_
  refine r_callSW X [.ref (k.b + (0)), .int (xs (ix (x5 + 1))), .int (xs (ix (x5 + 2))), .ref (k.b + (198))] [] (KL_meanPressure h1) lkL_meanPressure ⟨(Nat.le_of_ble_eq_true rfl), (Nat.le_of_ble_eq_true rfl)⟩ rfl rfl (by show n + 1 ≤ 601024; omega) (by show n' + 6 ≤ 7293034; omega) rfl rfl (Nat.le_of_ble_eq_true rfl) rfl rfl dL_law_2488 ?_
  refine r_istore X [some (.ref b0), some (.ref (k.b + (0))), some (.ref (k.b + (189))), some (.ref (k.b + (197))), some (.ref (k.b + (198))), some (.int x5), some (.int r1.1), none, none] dL_law_2491 (Nat.le_of_ble_eq_true rfl) rfl ?_
  refine r_aload_n X (x := k.b + (189)) dL_law_2493 rfl ?_
  refine r_aload_n X (x := b0) dL_law_2494 rfl ?_
  refine r_iload X (x := x5) dL_law_2495 rfl ?_
  refine r_iconst X (v := 1) dL_law_2497 rfl ?_
  refine r_iadd X dL_law_2498 ?_
  refine r_sld X hX hbl hbA g1 dL_law_2499 ?_
  refine r_aload_n X (x := b0) dL_law_2500 rfl ?_
  refine r_iload X (x := x5) dL_law_2501 rfl ?_
  refine r_iconst X (v := 2) dL_law_2503 rfl ?_
  refine r_iadd X dL_law_2504 ?_
  refine r_sld X hX hbl hbA g2 dL_law_2505 ?_
  refine r_callV X [.int (xs (ix (x5 + 1))), .int (xs (ix (x5 + 2)))] [] (K10_meanPressure h2) lkL_293 clsX10 rfl _ o_model ⟨(Nat.le_of_ble_eq_true rfl), (Nat.le_of_ble_eq_true rfl)⟩ rfl rfl (by show n + 1 + 0 ≤ 601024; omega) (by show n' + 6 + 0 ≤ 7293034; omega) rfl rfl (Nat.le_of_ble_eq_true rfl) rfl rfl dL_law_2506 ?_
  refine r_dstore X [some (.ref b0), some (.ref (k.b + (0))), some (.ref (k.b + (189))), some (.ref (k.b + (197))), some (.ref (k.b + (198))), some (.int x5), some (.int r1.1), some (.double r2.1), none] dL_law_2509 (Nat.le_of_ble_eq_true rfl) rfl ?_
  refine r_aload_n X (x := k.b + (189)) dL_law_2511 rfl ?_
  refine r_callV X [] [] (K10_thrown (r := r2.2.2.2) rfl) lkL_164 clsX10 rfl _ o_model ⟨(Nat.le_of_ble_eq_true rfl), (Nat.le_of_ble_eq_true rfl)⟩ rfl rfl (by show n + 1 + 0 ≤ 601024; omega) (by show n' + 6 + 0 ≤ 7293034; omega) rfl rfl (Nat.le_of_ble_eq_true rfl) rfl rfl dL_law_2512 ?_
  refine r_iload X (x := r1.1) dL_law_2515 rfl ?_
  refine r_icmp_eq X 2522 dL_law_2517 rfl (fun c2517 => ?_) (fun c2517 => absurd h3 c2517)
  refine r_iload X (x := r1.1) dL_law_2522 rfl ?_
  refine r_if_ne X 2559 dL_law_2524 rfl (fun c6 => ?_) (fun c6 => ?_)
  · refine r_goto X 3060 dL_law_2559 rfl ?_
    refine r_iinc X (x := x5) (v := x5 + 6) [some (.ref b0), some (.ref (k.b + (0))), some (.ref (k.b + (189))), some (.ref (k.b + (197))), some (.ref (k.b + (198))), some (.int (x5 + 6)), some (.int r1.1), some (.double r2.1), none] dL_law_3060 rfl rfl rfl ?_
    refine r_goto X 28 dL_law_3063 rfl ?_
    refine VW.msk [true, true, true, true, true, true, false, false, false] rfl (lo' := [some (.ref b0), some (.ref (k.b + (0))), some (.ref (k.b + (189))), some (.ref (k.b + (197))), some (.ref (k.b + (198))), some (.int (x5 + 6)), none, none, none]) rfl ?_
    exact VW.widen (c := n + 1) (s := n' + 6) (by omega) (by omega) kk
  · refine r_aload X (x := k.b + (198)) dL_law_2527 rfl ?_
    refine r_iconst X (v := 0) dL_law_2529 rfl ?_
    refine r_daload X (f := r1.2.2) _ a_m_od (by decide) dL_law_2530 ?_
    refine r_dload X (x := r2.1) dL_law_2531 rfl ?_
    refine r_dcmp X dL_law_2533 ?_
    refine r_if_eq X 2559 dL_law_2534 rfl (fun c2534 => ?_) (fun c2534 => absurd (h4 c6) c2534)
    refine r_goto X 3060 dL_law_2559 rfl ?_
    refine r_iinc X (x := x5) (v := x5 + 6) [some (.ref b0), some (.ref (k.b + (0))), some (.ref (k.b + (189))), some (.ref (k.b + (197))), some (.ref (k.b + (198))), some (.int (x5 + 6)), some (.int r1.1), some (.double r2.1), none] dL_law_3060 rfl rfl rfl ?_
    refine r_goto X 28 dL_law_3063 rfl ?_
    refine VW.msk [true, true, true, true, true, true, false, false, false] rfl (lo' := [some (.ref b0), some (.ref (k.b + (0))), some (.ref (k.b + (189))), some (.ref (k.b + (197))), some (.ref (k.b + (198))), some (.int (x5 + 6)), none, none, none]) rfl ?_
    exact VW.widen (c := n + 1) (s := n' + 6) (by omega) (by omega) kk
set_option maxRecDepth 100000 in
set_option maxHeartbeats 4000000 in
theorem LT_40 {k : KT} {z : ZT} (X : XX k strs z RL cL_law 9 ret room_1) {b0 len : Nat} {xs : Nat → Int32} (hX : va_X b0 len xs (zS z) (zS z).heap) (hbl : b0 < (zS z).heap.size) (hbA : ¬ kA k b0) {T : TT} {R : RR} {ly : Fin 2 → LL} {rc : RC} {hn : HN} {rp : RP} {tp : TP} {ee : EE} {st : Fin 12 → SS} {w : Nat → Int64} {aside : Nat → Int64} {thought : Nat → Int64} {fresh : Nat → Int64} {mu : MU} {th : Int32} {mp : MP} {mf : MF} {mh : MH} {mg : MG} {ou : Nat → Int64} {od : Nat → UInt64} {n n' : Nat} (hnc : n + 1 ≤ 601024) (hns : n' + 6 ≤ 7293034) {x5 : Int32} (hlt : ¬ (Int32.ofNat len - 6 < x5)) (g0 : inb (x5) len = true) (g1 : inb (x5 + 1) len = true) (g2 : inb (x5 + 2) len = true) (g3 : inb (x5 + 3) len = true) (g4 : inb (x5 + 4) len = true) (g5 : inb (x5 + 5) len = true) (hc : xs (ix x5) &&& 63 = 40) {r1 : Int32 × (Fin 12 → SS) × (Nat → Int64)} {r2 : Int32 × (Nat → Int64) × (Nat → Int64) × (Int32)} (h1 : fL_bestPump (ly (0 : Fin 2)) tp st ou (xs (ix (x5 + 1))) (xs (ix (x5 + 2))) = some r1) (h2 : f10_bestPump w thought th (xs (ix (x5 + 1))) (xs (ix (x5 + 2))) = some r2) (h3 : r2.2.2.2 = r1.1) (h4 : r1.1 = 0 → r1.2.2 (ix 0) = r2.1.toInt64) (kk : VW k z (n + 1) (n' + 6) (wAll k T R ly rc hn rp tp ee r1.2.1 r2.2.1 aside r2.2.2.1 fresh mu r2.2.2.2 mp mf mh mg r1.2.2 od) 28 [some (.ref b0), some (.ref (k.b + (0))), some (.ref (k.b + (189))), some (.ref (k.b + (197))), some (.ref (k.b + (198))), some (.int (x5 + 6)), none, none, none] []) : VW k z n n' (wAll k T R ly rc hn rp tp ee st w aside thought fresh mu th mp mf mh mg ou od) 28 [some (.ref b0), some (.ref (k.b + (0))), some (.ref (k.b + (189))), some (.ref (k.b + (197))), some (.ref (k.b + (198))), some (.int x5), none, none, none] [] := by
  refine r_iload X (x := x5) dL_law_28 rfl ?_
  refine r_aload_n X (x := b0) dL_law_30 rfl ?_
  refine r_slen X hX hbl hbA dL_law_31 ?_
  refine r_bipush X (v := 6) dL_law_32 rfl ?_
  refine r_isub X dL_law_34 ?_
  refine r_icmp_gt X 3066 dL_law_35 rfl (fun c => absurd c hlt) (fun _ => ?_)
  refine r_aload_n X (x := b0) dL_law_38 rfl ?_
  refine r_iload X (x := x5) dL_law_39 rfl ?_
  refine r_sld X hX hbl hbA g0 dL_law_41 ?_
  refine r_bipush X (v := 63) dL_law_42 rfl ?_
  refine r_iand X dL_law_44 ?_
  refine r_tswIn X (off := 2517) 2562 dL_law_45 (by rw [hc]; decide) (by rw [hc]; decide) (by rw [hc]; rfl) rfl ?_
  refine r_aload_n X (x := k.b + (0)) dL_law_2562 rfl ?_
  refine r_aload_n X (x := b0) dL_law_2563 rfl ?_
  refine r_iload X (x := x5) dL_law_2564 rfl ?_
  refine r_iconst X (v := 1) dL_law_2566 rfl ?_
  refine r_iadd X dL_law_2567 ?_
  refine r_sld X hX hbl hbA g1 dL_law_2568 ?_
  refine r_aload_n X (x := b0) dL_law_2569 rfl ?_
  refine r_iload X (x := x5) dL_law_2570 rfl ?_
  refine r_iconst X (v := 2) dL_law_2572 rfl ?_
  refine r_iadd X dL_law_2573 ?_
  refine r_sld X hX hbl hbA g2 dL_law_2574 ?_
  refine r_aload_n X (x := k.b + (197)) dL_law_2575 rfl ?_
  refine r_callSW X [.ref (k.b + (0)), .int (xs (ix (x5 + 1))), .int (xs (ix (x5 + 2))), .ref (k.b + (197))] [] (KL_bestPump h1) lkL_bestPump ⟨(Nat.le_of_ble_eq_true rfl), (Nat.le_of_ble_eq_true rfl)⟩ rfl rfl (by show n + 1 ≤ 601024; omega) (by show n' + 6 ≤ 7293034; omega) rfl rfl (Nat.le_of_ble_eq_true rfl) rfl rfl dL_law_2576 ?_
  refine r_istore X [some (.ref b0), some (.ref (k.b + (0))), some (.ref (k.b + (189))), some (.ref (k.b + (197))), some (.ref (k.b + (198))), some (.int x5), some (.int r1.1), none, none] dL_law_2579 (Nat.le_of_ble_eq_true rfl) rfl ?_
  refine r_aload_n X (x := k.b + (189)) dL_law_2581 rfl ?_
  refine r_aload_n X (x := b0) dL_law_2582 rfl ?_
  refine r_iload X (x := x5) dL_law_2583 rfl ?_
  refine r_iconst X (v := 1) dL_law_2585 rfl ?_
  refine r_iadd X dL_law_2586 ?_
  refine r_sld X hX hbl hbA g1 dL_law_2587 ?_
  refine r_aload_n X (x := b0) dL_law_2588 rfl ?_
  refine r_iload X (x := x5) dL_law_2589 rfl ?_
  refine r_iconst X (v := 2) dL_law_2591 rfl ?_
  refine r_iadd X dL_law_2592 ?_
  refine r_sld X hX hbl hbA g2 dL_law_2593 ?_
  refine r_callV X [.int (xs (ix (x5 + 1))), .int (xs (ix (x5 + 2)))] [] (K10_bestPump h2) lkL_296 clsX10 rfl _ o_model ⟨(Nat.le_of_ble_eq_true rfl), (Nat.le_of_ble_eq_true rfl)⟩ rfl rfl (by show n + 1 + 0 ≤ 601024; omega) (by show n' + 6 + 0 ≤ 7293034; omega) rfl rfl (Nat.le_of_ble_eq_true rfl) rfl rfl dL_law_2594 ?_
  refine r_istore X [some (.ref b0), some (.ref (k.b + (0))), some (.ref (k.b + (189))), some (.ref (k.b + (197))), some (.ref (k.b + (198))), some (.int x5), some (.int r1.1), some (.int r2.1), none] dL_law_2597 (Nat.le_of_ble_eq_true rfl) rfl ?_
  refine r_aload_n X (x := k.b + (189)) dL_law_2599 rfl ?_
  refine r_callV X [] [] (K10_thrown (r := r2.2.2.2) rfl) lkL_164 clsX10 rfl _ o_model ⟨(Nat.le_of_ble_eq_true rfl), (Nat.le_of_ble_eq_true rfl)⟩ rfl rfl (by show n + 1 + 0 ≤ 601024; omega) (by show n' + 6 + 0 ≤ 7293034; omega) rfl rfl (Nat.le_of_ble_eq_true rfl) rfl rfl dL_law_2600 ?_
  refine r_iload X (x := r1.1) dL_law_2603 rfl ?_
  refine r_icmp_eq X 2610 dL_law_2605 rfl (fun c2605 => ?_) (fun c2605 => absurd h3 c2605)
  refine r_iload X (x := r1.1) dL_law_2610 rfl ?_
  refine r_if_ne X 2627 dL_law_2612 rfl (fun c6 => ?_) (fun c6 => ?_)
  · refine r_goto X 3060 dL_law_2627 rfl ?_
    refine r_iinc X (x := x5) (v := x5 + 6) [some (.ref b0), some (.ref (k.b + (0))), some (.ref (k.b + (189))), some (.ref (k.b + (197))), some (.ref (k.b + (198))), some (.int (x5 + 6)), some (.int r1.1), some (.int r2.1), none] dL_law_3060 rfl rfl rfl ?_
    refine r_goto X 28 dL_law_3063 rfl ?_
    refine VW.msk [true, true, true, true, true, true, false, false, false] rfl (lo' := [some (.ref b0), some (.ref (k.b + (0))), some (.ref (k.b + (189))), some (.ref (k.b + (197))), some (.ref (k.b + (198))), some (.int (x5 + 6)), none, none, none]) rfl ?_
    exact VW.widen (c := n + 1) (s := n' + 6) (by omega) (by omega) kk
  · refine r_aload_n X (x := k.b + (197)) dL_law_2615 rfl ?_
    refine r_iconst X (v := 0) dL_law_2616 rfl ?_
    refine r_laload X (f := r1.2.2) _ a_m_ou (by decide) dL_law_2617 ?_
    refine r_iload X (x := r2.1) dL_law_2618 rfl ?_
    refine r_i2l X dL_law_2620 ?_
    refine r_lcmp_eq X 2627 dL_law_2621 dL_law_2622 rfl (fun c2621 => ?_) (fun c2621 => absurd (h4 c6) c2621)
    refine r_goto X 3060 dL_law_2627 rfl ?_
    refine r_iinc X (x := x5) (v := x5 + 6) [some (.ref b0), some (.ref (k.b + (0))), some (.ref (k.b + (189))), some (.ref (k.b + (197))), some (.ref (k.b + (198))), some (.int (x5 + 6)), some (.int r1.1), some (.int r2.1), none] dL_law_3060 rfl rfl rfl ?_
    refine r_goto X 28 dL_law_3063 rfl ?_
    refine VW.msk [true, true, true, true, true, true, false, false, false] rfl (lo' := [some (.ref b0), some (.ref (k.b + (0))), some (.ref (k.b + (189))), some (.ref (k.b + (197))), some (.ref (k.b + (198))), some (.int (x5 + 6)), none, none, none]) rfl ?_
    exact VW.widen (c := n + 1) (s := n' + 6) (by omega) (by omega) kk
set_option maxRecDepth 100000 in
set_option maxHeartbeats 4000000 in
theorem LT_41 {k : KT} {z : ZT} (X : XX k strs z RL cL_law 9 ret room_1) {b0 len : Nat} {xs : Nat → Int32} (hX : va_X b0 len xs (zS z) (zS z).heap) (hbl : b0 < (zS z).heap.size) (hbA : ¬ kA k b0) {T : TT} {R : RR} {ly : Fin 2 → LL} {rc : RC} {hn : HN} {rp : RP} {tp : TP} {ee : EE} {st : Fin 12 → SS} {w : Nat → Int64} {aside : Nat → Int64} {thought : Nat → Int64} {fresh : Nat → Int64} {mu : MU} {th : Int32} {mp : MP} {mf : MF} {mh : MH} {mg : MG} {ou : Nat → Int64} {od : Nat → UInt64} {n n' : Nat} (hnc : n + 1 ≤ 601024) (hns : n' + 6 ≤ 7293034) {x5 : Int32} (hlt : ¬ (Int32.ofNat len - 6 < x5)) (g0 : inb (x5) len = true) (g1 : inb (x5 + 1) len = true) (g2 : inb (x5 + 2) len = true) (g3 : inb (x5 + 3) len = true) (g4 : inb (x5 + 4) len = true) (g5 : inb (x5 + 5) len = true) (hc : xs (ix x5) &&& 63 = 41) {r1 : Int32 × (Fin 12 → SS) × (Nat → Int64)} {r2 : Int32 × (Nat → Int64) × (Nat → Int64) × (Int32)} (h1 : fL_bestValve (ly (0 : Fin 2)) tp st ou (xs (ix (x5 + 1))) (xs (ix (x5 + 2))) = some r1) (h2 : f10_bestValve w thought th (xs (ix (x5 + 1))) (xs (ix (x5 + 2))) = some r2) (h3 : r2.2.2.2 = r1.1) (h4 : r1.1 = 0 → r1.2.2 (ix 0) = r2.1.toInt64) (kk : VW k z (n + 1) (n' + 6) (wAll k T R ly rc hn rp tp ee r1.2.1 r2.2.1 aside r2.2.2.1 fresh mu r2.2.2.2 mp mf mh mg r1.2.2 od) 28 [some (.ref b0), some (.ref (k.b + (0))), some (.ref (k.b + (189))), some (.ref (k.b + (197))), some (.ref (k.b + (198))), some (.int (x5 + 6)), none, none, none] []) : VW k z n n' (wAll k T R ly rc hn rp tp ee st w aside thought fresh mu th mp mf mh mg ou od) 28 [some (.ref b0), some (.ref (k.b + (0))), some (.ref (k.b + (189))), some (.ref (k.b + (197))), some (.ref (k.b + (198))), some (.int x5), none, none, none] [] := by
  refine r_iload X (x := x5) dL_law_28 rfl ?_
  refine r_aload_n X (x := b0) dL_law_30 rfl ?_
  refine r_slen X hX hbl hbA dL_law_31 ?_
  refine r_bipush X (v := 6) dL_law_32 rfl ?_
  refine r_isub X dL_law_34 ?_
  refine r_icmp_gt X 3066 dL_law_35 rfl (fun c => absurd c hlt) (fun _ => ?_)
  refine r_aload_n X (x := b0) dL_law_38 rfl ?_
  refine r_iload X (x := x5) dL_law_39 rfl ?_
  refine r_sld X hX hbl hbA g0 dL_law_41 ?_
  refine r_bipush X (v := 63) dL_law_42 rfl ?_
  refine r_iand X dL_law_44 ?_
  refine r_tswIn X (off := 2585) 2630 dL_law_45 (by rw [hc]; decide) (by rw [hc]; decide) (by rw [hc]; rfl) rfl ?_
  refine r_aload_n X (x := k.b + (0)) dL_law_2630 rfl ?_
  refine r_aload_n X (x := b0) dL_law_2631 rfl ?_
  refine r_iload X (x := x5) dL_law_2632 rfl ?_
  refine r_iconst X (v := 1) dL_law_2634 rfl ?_
  refine r_iadd X dL_law_2635 ?_
  refine r_sld X hX hbl hbA g1 dL_law_2636 ?_
  refine r_aload_n X (x := b0) dL_law_2637 rfl ?_
  refine r_iload X (x := x5) dL_law_2638 rfl ?_
  refine r_iconst X (v := 2) dL_law_2640 rfl ?_
  refine r_iadd X dL_law_2641 ?_
  refine r_sld X hX hbl hbA g2 dL_law_2642 ?_
  refine r_aload_n X (x := k.b + (197)) dL_law_2643 rfl ?_
  refine r_callSW X [.ref (k.b + (0)), .int (xs (ix (x5 + 1))), .int (xs (ix (x5 + 2))), .ref (k.b + (197))] [] (KL_bestValve h1) lkL_bestValve ⟨(Nat.le_of_ble_eq_true rfl), (Nat.le_of_ble_eq_true rfl)⟩ rfl rfl (by show n + 1 ≤ 601024; omega) (by show n' + 6 ≤ 7293034; omega) rfl rfl (Nat.le_of_ble_eq_true rfl) rfl rfl dL_law_2644 ?_
  refine r_istore X [some (.ref b0), some (.ref (k.b + (0))), some (.ref (k.b + (189))), some (.ref (k.b + (197))), some (.ref (k.b + (198))), some (.int x5), some (.int r1.1), none, none] dL_law_2647 (Nat.le_of_ble_eq_true rfl) rfl ?_
  refine r_aload_n X (x := k.b + (189)) dL_law_2649 rfl ?_
  refine r_aload_n X (x := b0) dL_law_2650 rfl ?_
  refine r_iload X (x := x5) dL_law_2651 rfl ?_
  refine r_iconst X (v := 1) dL_law_2653 rfl ?_
  refine r_iadd X dL_law_2654 ?_
  refine r_sld X hX hbl hbA g1 dL_law_2655 ?_
  refine r_aload_n X (x := b0) dL_law_2656 rfl ?_
  refine r_iload X (x := x5) dL_law_2657 rfl ?_
  refine r_iconst X (v := 2) dL_law_2659 rfl ?_
  refine r_iadd X dL_law_2660 ?_
  refine r_sld X hX hbl hbA g2 dL_law_2661 ?_
  refine r_callV X [.int (xs (ix (x5 + 1))), .int (xs (ix (x5 + 2)))] [] (K10_bestValve h2) lkL_299 clsX10 rfl _ o_model ⟨(Nat.le_of_ble_eq_true rfl), (Nat.le_of_ble_eq_true rfl)⟩ rfl rfl (by show n + 1 + 0 ≤ 601024; omega) (by show n' + 6 + 0 ≤ 7293034; omega) rfl rfl (Nat.le_of_ble_eq_true rfl) rfl rfl dL_law_2662 ?_
  refine r_istore X [some (.ref b0), some (.ref (k.b + (0))), some (.ref (k.b + (189))), some (.ref (k.b + (197))), some (.ref (k.b + (198))), some (.int x5), some (.int r1.1), some (.int r2.1), none] dL_law_2665 (Nat.le_of_ble_eq_true rfl) rfl ?_
  refine r_aload_n X (x := k.b + (189)) dL_law_2667 rfl ?_
  refine r_callV X [] [] (K10_thrown (r := r2.2.2.2) rfl) lkL_164 clsX10 rfl _ o_model ⟨(Nat.le_of_ble_eq_true rfl), (Nat.le_of_ble_eq_true rfl)⟩ rfl rfl (by show n + 1 + 0 ≤ 601024; omega) (by show n' + 6 + 0 ≤ 7293034; omega) rfl rfl (Nat.le_of_ble_eq_true rfl) rfl rfl dL_law_2668 ?_
  refine r_iload X (x := r1.1) dL_law_2671 rfl ?_
  refine r_icmp_eq X 2678 dL_law_2673 rfl (fun c2673 => ?_) (fun c2673 => absurd h3 c2673)
  refine r_iload X (x := r1.1) dL_law_2678 rfl ?_
  refine r_if_ne X 2695 dL_law_2680 rfl (fun c6 => ?_) (fun c6 => ?_)
  · refine r_goto X 3060 dL_law_2695 rfl ?_
    refine r_iinc X (x := x5) (v := x5 + 6) [some (.ref b0), some (.ref (k.b + (0))), some (.ref (k.b + (189))), some (.ref (k.b + (197))), some (.ref (k.b + (198))), some (.int (x5 + 6)), some (.int r1.1), some (.int r2.1), none] dL_law_3060 rfl rfl rfl ?_
    refine r_goto X 28 dL_law_3063 rfl ?_
    refine VW.msk [true, true, true, true, true, true, false, false, false] rfl (lo' := [some (.ref b0), some (.ref (k.b + (0))), some (.ref (k.b + (189))), some (.ref (k.b + (197))), some (.ref (k.b + (198))), some (.int (x5 + 6)), none, none, none]) rfl ?_
    exact VW.widen (c := n + 1) (s := n' + 6) (by omega) (by omega) kk
  · refine r_aload_n X (x := k.b + (197)) dL_law_2683 rfl ?_
    refine r_iconst X (v := 0) dL_law_2684 rfl ?_
    refine r_laload X (f := r1.2.2) _ a_m_ou (by decide) dL_law_2685 ?_
    refine r_iload X (x := r2.1) dL_law_2686 rfl ?_
    refine r_i2l X dL_law_2688 ?_
    refine r_lcmp_eq X 2695 dL_law_2689 dL_law_2690 rfl (fun c2689 => ?_) (fun c2689 => absurd (h4 c6) c2689)
    refine r_goto X 3060 dL_law_2695 rfl ?_
    refine r_iinc X (x := x5) (v := x5 + 6) [some (.ref b0), some (.ref (k.b + (0))), some (.ref (k.b + (189))), some (.ref (k.b + (197))), some (.ref (k.b + (198))), some (.int (x5 + 6)), some (.int r1.1), some (.int r2.1), none] dL_law_3060 rfl rfl rfl ?_
    refine r_goto X 28 dL_law_3063 rfl ?_
    refine VW.msk [true, true, true, true, true, true, false, false, false] rfl (lo' := [some (.ref b0), some (.ref (k.b + (0))), some (.ref (k.b + (189))), some (.ref (k.b + (197))), some (.ref (k.b + (198))), some (.int (x5 + 6)), none, none, none]) rfl ?_
    exact VW.widen (c := n + 1) (s := n' + 6) (by omega) (by omega) kk
set_option maxRecDepth 100000 in
set_option maxHeartbeats 4000000 in
theorem LT_42 {k : KT} {z : ZT} (X : XX k strs z RL cL_law 9 ret room_1) {b0 len : Nat} {xs : Nat → Int32} (hX : va_X b0 len xs (zS z) (zS z).heap) (hbl : b0 < (zS z).heap.size) (hbA : ¬ kA k b0) {T : TT} {R : RR} {ly : Fin 2 → LL} {rc : RC} {hn : HN} {rp : RP} {tp : TP} {ee : EE} {st : Fin 12 → SS} {w : Nat → Int64} {aside : Nat → Int64} {thought : Nat → Int64} {fresh : Nat → Int64} {mu : MU} {th : Int32} {mp : MP} {mf : MF} {mh : MH} {mg : MG} {ou : Nat → Int64} {od : Nat → UInt64} {n n' : Nat} (hnc : n + 1 ≤ 601024) (hns : n' + 6 ≤ 7293034) {x5 : Int32} (hlt : ¬ (Int32.ofNat len - 6 < x5)) (g0 : inb (x5) len = true) (g1 : inb (x5 + 1) len = true) (g2 : inb (x5 + 2) len = true) (g3 : inb (x5 + 3) len = true) (g4 : inb (x5 + 4) len = true) (g5 : inb (x5 + 5) len = true) (hc : xs (ix x5) &&& 63 = 42) {r1 : Int32 × (Nat → Int64)} {r2 : Int32 × (Int32)} (h1 : fL_spray (ly (0 : Fin 2)) tp st ou (xs (ix (x5 + 1))) = some r1) (h2 : f10_spray w th (xs (ix (x5 + 1))) = some r2) (h3 : r2.2 = r1.1) (h4 : r1.1 = 0 → r1.2 (ix 0) = r2.1.toInt64) (kk : VW k z (n + 1) (n' + 6) (wAll k T R ly rc hn rp tp ee st w aside thought fresh mu r2.2 mp mf mh mg r1.2 od) 28 [some (.ref b0), some (.ref (k.b + (0))), some (.ref (k.b + (189))), some (.ref (k.b + (197))), some (.ref (k.b + (198))), some (.int (x5 + 6)), none, none, none] []) : VW k z n n' (wAll k T R ly rc hn rp tp ee st w aside thought fresh mu th mp mf mh mg ou od) 28 [some (.ref b0), some (.ref (k.b + (0))), some (.ref (k.b + (189))), some (.ref (k.b + (197))), some (.ref (k.b + (198))), some (.int x5), none, none, none] [] := by
  refine r_iload X (x := x5) dL_law_28 rfl ?_
  refine r_aload_n X (x := b0) dL_law_30 rfl ?_
  refine r_slen X hX hbl hbA dL_law_31 ?_
  refine r_bipush X (v := 6) dL_law_32 rfl ?_
  refine r_isub X dL_law_34 ?_
  refine r_icmp_gt X 3066 dL_law_35 rfl (fun c => absurd c hlt) (fun _ => ?_)
  refine r_aload_n X (x := b0) dL_law_38 rfl ?_
  refine r_iload X (x := x5) dL_law_39 rfl ?_
  refine r_sld X hX hbl hbA g0 dL_law_41 ?_
  refine r_bipush X (v := 63) dL_law_42 rfl ?_
  refine r_iand X dL_law_44 ?_
  refine r_tswIn X (off := 2653) 2698 dL_law_45 (by rw [hc]; decide) (by rw [hc]; decide) (by rw [hc]; rfl) rfl ?_
  refine r_aload_n X (x := k.b + (0)) dL_law_2698 rfl ?_
  refine r_aload_n X (x := b0) dL_law_2699 rfl ?_
  refine r_iload X (x := x5) dL_law_2700 rfl ?_
  refine r_iconst X (v := 1) dL_law_2702 rfl ?_
  refine r_iadd X dL_law_2703 ?_
  refine r_sld X hX hbl hbA g1 dL_law_2704 ?_
  refine r_aload_n X (x := k.b + (197)) dL_law_2705 rfl ?_
  refine r_callSW X [.ref (k.b + (0)), .int (xs (ix (x5 + 1))), .ref (k.b + (197))] [] (KL_spray h1) lkL_spray ⟨(Nat.le_of_ble_eq_true rfl), (Nat.le_of_ble_eq_true rfl)⟩ rfl rfl (by show n + 1 ≤ 601024; omega) (by show n' + 6 ≤ 7293034; omega) rfl rfl (Nat.le_of_ble_eq_true rfl) rfl rfl dL_law_2706 ?_
  refine r_istore X [some (.ref b0), some (.ref (k.b + (0))), some (.ref (k.b + (189))), some (.ref (k.b + (197))), some (.ref (k.b + (198))), some (.int x5), some (.int r1.1), none, none] dL_law_2709 (Nat.le_of_ble_eq_true rfl) rfl ?_
  refine r_aload_n X (x := k.b + (189)) dL_law_2711 rfl ?_
  refine r_aload_n X (x := b0) dL_law_2712 rfl ?_
  refine r_iload X (x := x5) dL_law_2713 rfl ?_
  refine r_iconst X (v := 1) dL_law_2715 rfl ?_
  refine r_iadd X dL_law_2716 ?_
  refine r_sld X hX hbl hbA g1 dL_law_2717 ?_
  refine r_callV X [.int (xs (ix (x5 + 1)))] [] (K10_spray h2) lkL_302 clsX10 rfl _ o_model ⟨(Nat.le_of_ble_eq_true rfl), (Nat.le_of_ble_eq_true rfl)⟩ rfl rfl (by show n + 1 + 0 ≤ 601024; omega) (by show n' + 6 + 0 ≤ 7293034; omega) rfl rfl (Nat.le_of_ble_eq_true rfl) rfl rfl dL_law_2718 ?_
  refine r_istore X [some (.ref b0), some (.ref (k.b + (0))), some (.ref (k.b + (189))), some (.ref (k.b + (197))), some (.ref (k.b + (198))), some (.int x5), some (.int r1.1), some (.int r2.1), none] dL_law_2721 (Nat.le_of_ble_eq_true rfl) rfl ?_
  refine r_aload_n X (x := k.b + (189)) dL_law_2723 rfl ?_
  refine r_callV X [] [] (K10_thrown (r := r2.2) rfl) lkL_164 clsX10 rfl _ o_model ⟨(Nat.le_of_ble_eq_true rfl), (Nat.le_of_ble_eq_true rfl)⟩ rfl rfl (by show n + 1 + 0 ≤ 601024; omega) (by show n' + 6 + 0 ≤ 7293034; omega) rfl rfl (Nat.le_of_ble_eq_true rfl) rfl rfl dL_law_2724 ?_
  refine r_iload X (x := r1.1) dL_law_2727 rfl ?_
  refine r_icmp_eq X 2734 dL_law_2729 rfl (fun c2729 => ?_) (fun c2729 => absurd h3 c2729)
  refine r_iload X (x := r1.1) dL_law_2734 rfl ?_
  refine r_if_ne X 2751 dL_law_2736 rfl (fun c6 => ?_) (fun c6 => ?_)
  · refine r_goto X 3060 dL_law_2751 rfl ?_
    refine r_iinc X (x := x5) (v := x5 + 6) [some (.ref b0), some (.ref (k.b + (0))), some (.ref (k.b + (189))), some (.ref (k.b + (197))), some (.ref (k.b + (198))), some (.int (x5 + 6)), some (.int r1.1), some (.int r2.1), none] dL_law_3060 rfl rfl rfl ?_
    refine r_goto X 28 dL_law_3063 rfl ?_
    refine VW.msk [true, true, true, true, true, true, false, false, false] rfl (lo' := [some (.ref b0), some (.ref (k.b + (0))), some (.ref (k.b + (189))), some (.ref (k.b + (197))), some (.ref (k.b + (198))), some (.int (x5 + 6)), none, none, none]) rfl ?_
    exact VW.widen (c := n + 1) (s := n' + 6) (by omega) (by omega) kk
  · refine r_aload_n X (x := k.b + (197)) dL_law_2739 rfl ?_
    refine r_iconst X (v := 0) dL_law_2740 rfl ?_
    refine r_laload X (f := r1.2) _ a_m_ou (by decide) dL_law_2741 ?_
    refine r_iload X (x := r2.1) dL_law_2742 rfl ?_
    refine r_i2l X dL_law_2744 ?_
    refine r_lcmp_eq X 2751 dL_law_2745 dL_law_2746 rfl (fun c2745 => ?_) (fun c2745 => absurd (h4 c6) c2745)
    refine r_goto X 3060 dL_law_2751 rfl ?_
    refine r_iinc X (x := x5) (v := x5 + 6) [some (.ref b0), some (.ref (k.b + (0))), some (.ref (k.b + (189))), some (.ref (k.b + (197))), some (.ref (k.b + (198))), some (.int (x5 + 6)), some (.int r1.1), some (.int r2.1), none] dL_law_3060 rfl rfl rfl ?_
    refine r_goto X 28 dL_law_3063 rfl ?_
    refine VW.msk [true, true, true, true, true, true, false, false, false] rfl (lo' := [some (.ref b0), some (.ref (k.b + (0))), some (.ref (k.b + (189))), some (.ref (k.b + (197))), some (.ref (k.b + (198))), some (.int (x5 + 6)), none, none, none]) rfl ?_
    exact VW.widen (c := n + 1) (s := n' + 6) (by omega) (by omega) kk
set_option maxRecDepth 100000 in
set_option maxHeartbeats 4000000 in
theorem LT_43 {k : KT} {z : ZT} (X : XX k strs z RL cL_law 9 ret room_1) {b0 len : Nat} {xs : Nat → Int32} (hX : va_X b0 len xs (zS z) (zS z).heap) (hbl : b0 < (zS z).heap.size) (hbA : ¬ kA k b0) {T : TT} {R : RR} {ly : Fin 2 → LL} {rc : RC} {hn : HN} {rp : RP} {tp : TP} {ee : EE} {st : Fin 12 → SS} {w : Nat → Int64} {aside : Nat → Int64} {thought : Nat → Int64} {fresh : Nat → Int64} {mu : MU} {th : Int32} {mp : MP} {mf : MF} {mh : MH} {mg : MG} {ou : Nat → Int64} {od : Nat → UInt64} {n n' : Nat} (hnc : n + 1 ≤ 601024) (hns : n' + 6 ≤ 7293034) {x5 : Int32} (hlt : ¬ (Int32.ofNat len - 6 < x5)) (g0 : inb (x5) len = true) (g1 : inb (x5 + 1) len = true) (g2 : inb (x5 + 2) len = true) (g3 : inb (x5 + 3) len = true) (g4 : inb (x5 + 4) len = true) (g5 : inb (x5 + 5) len = true) (hc : xs (ix x5) &&& 63 = 43) {r1 : Int32 × (HN) × (Nat → Int64)} {r2 : Int32 × (Int32) × (MH)} (h1 : fL_sprays (ly (0 : Fin 2)) tp st hn ou (xs (ix (x5 + 1))) (xs (ix (x5 + 2))) = some r1) (h2 : f10_sprays w th mh (xs (ix (x5 + 1))) (xs (ix (x5 + 2))) = some r2) (h3 : r2.2.1 = r1.1) (h4 : r1.1 = 0 → r1.2.2 (ix 0) = r2.1.toInt64) (kk : VW k z (n + 1) (n' + 6) (wAll k T R ly rc r1.2.1 rp tp ee st w aside thought fresh mu r2.2.1 mp mf r2.2.2 mg r1.2.2 od) 28 [some (.ref b0), some (.ref (k.b + (0))), some (.ref (k.b + (189))), some (.ref (k.b + (197))), some (.ref (k.b + (198))), some (.int (x5 + 6)), none, none, none] []) : VW k z n n' (wAll k T R ly rc hn rp tp ee st w aside thought fresh mu th mp mf mh mg ou od) 28 [some (.ref b0), some (.ref (k.b + (0))), some (.ref (k.b + (189))), some (.ref (k.b + (197))), some (.ref (k.b + (198))), some (.int x5), none, none, none] [] := by
  refine r_iload X (x := x5) dL_law_28 rfl ?_
  refine r_aload_n X (x := b0) dL_law_30 rfl ?_
  refine r_slen X hX hbl hbA dL_law_31 ?_
  refine r_bipush X (v := 6) dL_law_32 rfl ?_
  refine r_isub X dL_law_34 ?_
  refine r_icmp_gt X 3066 dL_law_35 rfl (fun c => absurd c hlt) (fun _ => ?_)
  refine r_aload_n X (x := b0) dL_law_38 rfl ?_
  refine r_iload X (x := x5) dL_law_39 rfl ?_
  refine r_sld X hX hbl hbA g0 dL_law_41 ?_
  refine r_bipush X (v := 63) dL_law_42 rfl ?_
  refine r_iand X dL_law_44 ?_
  refine r_tswIn X (off := 2709) 2754 dL_law_45 (by rw [hc]; decide) (by rw [hc]; decide) (by rw [hc]; rfl) rfl ?_
  refine r_aload_n X (x := k.b + (0)) dL_law_2754 rfl ?_
  refine r_aload_n X (x := b0) dL_law_2755 rfl ?_
  refine r_iload X (x := x5) dL_law_2756 rfl ?_
  refine r_iconst X (v := 1) dL_law_2758 rfl ?_
  refine r_iadd X dL_law_2759 ?_
  refine r_sld X hX hbl hbA g1 dL_law_2760 ?_
  refine r_aload_n X (x := b0) dL_law_2761 rfl ?_
  refine r_iload X (x := x5) dL_law_2762 rfl ?_
  refine r_iconst X (v := 2) dL_law_2764 rfl ?_
  refine r_iadd X dL_law_2765 ?_
  refine r_sld X hX hbl hbA g2 dL_law_2766 ?_
  refine r_aload_n X (x := k.b + (197)) dL_law_2767 rfl ?_
  refine r_callSW X [.ref (k.b + (0)), .int (xs (ix (x5 + 1))), .int (xs (ix (x5 + 2))), .ref (k.b + (197))] [] (KL_sprays h1) lkL_sprays ⟨(Nat.le_of_ble_eq_true rfl), (Nat.le_of_ble_eq_true rfl)⟩ rfl rfl (by show n + 1 ≤ 601024; omega) (by show n' + 6 ≤ 7293034; omega) rfl rfl (Nat.le_of_ble_eq_true rfl) rfl rfl dL_law_2768 ?_
  refine r_istore X [some (.ref b0), some (.ref (k.b + (0))), some (.ref (k.b + (189))), some (.ref (k.b + (197))), some (.ref (k.b + (198))), some (.int x5), some (.int r1.1), none, none] dL_law_2771 (Nat.le_of_ble_eq_true rfl) rfl ?_
  refine r_aload_n X (x := k.b + (189)) dL_law_2773 rfl ?_
  refine r_aload_n X (x := b0) dL_law_2774 rfl ?_
  refine r_iload X (x := x5) dL_law_2775 rfl ?_
  refine r_iconst X (v := 1) dL_law_2777 rfl ?_
  refine r_iadd X dL_law_2778 ?_
  refine r_sld X hX hbl hbA g1 dL_law_2779 ?_
  refine r_aload_n X (x := b0) dL_law_2780 rfl ?_
  refine r_iload X (x := x5) dL_law_2781 rfl ?_
  refine r_iconst X (v := 2) dL_law_2783 rfl ?_
  refine r_iadd X dL_law_2784 ?_
  refine r_sld X hX hbl hbA g2 dL_law_2785 ?_
  refine r_callV X [.int (xs (ix (x5 + 1))), .int (xs (ix (x5 + 2)))] [] (K10_sprays h2) lkL_305 clsX10 rfl _ o_model ⟨(Nat.le_of_ble_eq_true rfl), (Nat.le_of_ble_eq_true rfl)⟩ rfl rfl (by show n + 1 + 0 ≤ 601024; omega) (by show n' + 6 + 0 ≤ 7293034; omega) rfl rfl (Nat.le_of_ble_eq_true rfl) rfl rfl dL_law_2786 ?_
  refine r_istore X [some (.ref b0), some (.ref (k.b + (0))), some (.ref (k.b + (189))), some (.ref (k.b + (197))), some (.ref (k.b + (198))), some (.int x5), some (.int r1.1), some (.int r2.1), none] dL_law_2789 (Nat.le_of_ble_eq_true rfl) rfl ?_
  refine r_aload_n X (x := k.b + (189)) dL_law_2791 rfl ?_
  refine r_callV X [] [] (K10_thrown (r := r2.2.1) rfl) lkL_164 clsX10 rfl _ o_model ⟨(Nat.le_of_ble_eq_true rfl), (Nat.le_of_ble_eq_true rfl)⟩ rfl rfl (by show n + 1 + 0 ≤ 601024; omega) (by show n' + 6 + 0 ≤ 7293034; omega) rfl rfl (Nat.le_of_ble_eq_true rfl) rfl rfl dL_law_2792 ?_
  refine r_iload X (x := r1.1) dL_law_2795 rfl ?_
  refine r_icmp_eq X 2802 dL_law_2797 rfl (fun c2797 => ?_) (fun c2797 => absurd h3 c2797)
  refine r_iload X (x := r1.1) dL_law_2802 rfl ?_
  refine r_if_ne X 2819 dL_law_2804 rfl (fun c6 => ?_) (fun c6 => ?_)
  · refine r_goto X 3060 dL_law_2819 rfl ?_
    refine r_iinc X (x := x5) (v := x5 + 6) [some (.ref b0), some (.ref (k.b + (0))), some (.ref (k.b + (189))), some (.ref (k.b + (197))), some (.ref (k.b + (198))), some (.int (x5 + 6)), some (.int r1.1), some (.int r2.1), none] dL_law_3060 rfl rfl rfl ?_
    refine r_goto X 28 dL_law_3063 rfl ?_
    refine VW.msk [true, true, true, true, true, true, false, false, false] rfl (lo' := [some (.ref b0), some (.ref (k.b + (0))), some (.ref (k.b + (189))), some (.ref (k.b + (197))), some (.ref (k.b + (198))), some (.int (x5 + 6)), none, none, none]) rfl ?_
    exact VW.widen (c := n + 1) (s := n' + 6) (by omega) (by omega) kk
  · refine r_aload_n X (x := k.b + (197)) dL_law_2807 rfl ?_
    refine r_iconst X (v := 0) dL_law_2808 rfl ?_
    refine r_laload X (f := r1.2.2) _ a_m_ou (by decide) dL_law_2809 ?_
    refine r_iload X (x := r2.1) dL_law_2810 rfl ?_
    refine r_i2l X dL_law_2812 ?_
    refine r_lcmp_eq X 2819 dL_law_2813 dL_law_2814 rfl (fun c2813 => ?_) (fun c2813 => absurd (h4 c6) c2813)
    refine r_goto X 3060 dL_law_2819 rfl ?_
    refine r_iinc X (x := x5) (v := x5 + 6) [some (.ref b0), some (.ref (k.b + (0))), some (.ref (k.b + (189))), some (.ref (k.b + (197))), some (.ref (k.b + (198))), some (.int (x5 + 6)), some (.int r1.1), some (.int r2.1), none] dL_law_3060 rfl rfl rfl ?_
    refine r_goto X 28 dL_law_3063 rfl ?_
    refine VW.msk [true, true, true, true, true, true, false, false, false] rfl (lo' := [some (.ref b0), some (.ref (k.b + (0))), some (.ref (k.b + (189))), some (.ref (k.b + (197))), some (.ref (k.b + (198))), some (.int (x5 + 6)), none, none, none]) rfl ?_
    exact VW.widen (c := n + 1) (s := n' + 6) (by omega) (by omega) kk
set_option maxRecDepth 100000 in
set_option maxHeartbeats 4000000 in
theorem LT_44 {k : KT} {z : ZT} (X : XX k strs z RL cL_law 9 ret room_1) {b0 len : Nat} {xs : Nat → Int32} (hX : va_X b0 len xs (zS z) (zS z).heap) (hbl : b0 < (zS z).heap.size) (hbA : ¬ kA k b0) {T : TT} {R : RR} {ly : Fin 2 → LL} {rc : RC} {hn : HN} {rp : RP} {tp : TP} {ee : EE} {st : Fin 12 → SS} {w : Nat → Int64} {aside : Nat → Int64} {thought : Nat → Int64} {fresh : Nat → Int64} {mu : MU} {th : Int32} {mp : MP} {mf : MF} {mh : MH} {mg : MG} {ou : Nat → Int64} {od : Nat → UInt64} {n n' : Nat} (hnc : n + 1 ≤ 601024) (hns : n' + 6 ≤ 7293034) {x5 : Int32} (hlt : ¬ (Int32.ofNat len - 6 < x5)) (g0 : inb (x5) len = true) (g1 : inb (x5 + 1) len = true) (g2 : inb (x5 + 2) len = true) (g3 : inb (x5 + 3) len = true) (g4 : inb (x5 + 4) len = true) (g5 : inb (x5 + 5) len = true) (hc : xs (ix x5) &&& 63 = 44) {r1 : Int32 × (HN) × (Nat → Int64)} {r2 : Int32 × (Int32) × (MH)} (h1 : fL_found (ly (0 : Fin 2)) tp st hn ou (xs (ix (x5 + 1))) (xs (ix (x5 + 2))) = some r1) (h2 : f10_found w th mh (xs (ix (x5 + 1))) (xs (ix (x5 + 2))) = some r2) (h3 : r2.2.1 = r1.1) (h4 : r1.1 = 0 → r1.2.2 (ix 0) = r2.1.toInt64) (kk : VW k z (n + 1) (n' + 6) (wAll k T R ly rc r1.2.1 rp tp ee st w aside thought fresh mu r2.2.1 mp mf r2.2.2 mg r1.2.2 od) 28 [some (.ref b0), some (.ref (k.b + (0))), some (.ref (k.b + (189))), some (.ref (k.b + (197))), some (.ref (k.b + (198))), some (.int (x5 + 6)), none, none, none] []) : VW k z n n' (wAll k T R ly rc hn rp tp ee st w aside thought fresh mu th mp mf mh mg ou od) 28 [some (.ref b0), some (.ref (k.b + (0))), some (.ref (k.b + (189))), some (.ref (k.b + (197))), some (.ref (k.b + (198))), some (.int x5), none, none, none] [] := by
  refine r_iload X (x := x5) dL_law_28 rfl ?_
  refine r_aload_n X (x := b0) dL_law_30 rfl ?_
  refine r_slen X hX hbl hbA dL_law_31 ?_
  refine r_bipush X (v := 6) dL_law_32 rfl ?_
  refine r_isub X dL_law_34 ?_
  refine r_icmp_gt X 3066 dL_law_35 rfl (fun c => absurd c hlt) (fun _ => ?_)
  refine r_aload_n X (x := b0) dL_law_38 rfl ?_
  refine r_iload X (x := x5) dL_law_39 rfl ?_
  refine r_sld X hX hbl hbA g0 dL_law_41 ?_
  refine r_bipush X (v := 63) dL_law_42 rfl ?_
  refine r_iand X dL_law_44 ?_
  refine r_tswIn X (off := 2777) 2822 dL_law_45 (by rw [hc]; decide) (by rw [hc]; decide) (by rw [hc]; rfl) rfl ?_
  refine r_aload_n X (x := k.b + (0)) dL_law_2822 rfl ?_
  refine r_aload_n X (x := b0) dL_law_2823 rfl ?_
  refine r_iload X (x := x5) dL_law_2824 rfl ?_
  refine r_iconst X (v := 1) dL_law_2826 rfl ?_
  refine r_iadd X dL_law_2827 ?_
  refine r_sld X hX hbl hbA g1 dL_law_2828 ?_
  refine r_aload_n X (x := b0) dL_law_2829 rfl ?_
  refine r_iload X (x := x5) dL_law_2830 rfl ?_
  refine r_iconst X (v := 2) dL_law_2832 rfl ?_
  refine r_iadd X dL_law_2833 ?_
  refine r_sld X hX hbl hbA g2 dL_law_2834 ?_
  refine r_aload_n X (x := k.b + (197)) dL_law_2835 rfl ?_
  refine r_callSW X [.ref (k.b + (0)), .int (xs (ix (x5 + 1))), .int (xs (ix (x5 + 2))), .ref (k.b + (197))] [] (KL_found h1) lkL_found ⟨(Nat.le_of_ble_eq_true rfl), (Nat.le_of_ble_eq_true rfl)⟩ rfl rfl (by show n + 1 ≤ 601024; omega) (by show n' + 6 ≤ 7293034; omega) rfl rfl (Nat.le_of_ble_eq_true rfl) rfl rfl dL_law_2836 ?_
  refine r_istore X [some (.ref b0), some (.ref (k.b + (0))), some (.ref (k.b + (189))), some (.ref (k.b + (197))), some (.ref (k.b + (198))), some (.int x5), some (.int r1.1), none, none] dL_law_2839 (Nat.le_of_ble_eq_true rfl) rfl ?_
  refine r_aload_n X (x := k.b + (189)) dL_law_2841 rfl ?_
  refine r_aload_n X (x := b0) dL_law_2842 rfl ?_
  refine r_iload X (x := x5) dL_law_2843 rfl ?_
  refine r_iconst X (v := 1) dL_law_2845 rfl ?_
  refine r_iadd X dL_law_2846 ?_
  refine r_sld X hX hbl hbA g1 dL_law_2847 ?_
  refine r_aload_n X (x := b0) dL_law_2848 rfl ?_
  refine r_iload X (x := x5) dL_law_2849 rfl ?_
  refine r_iconst X (v := 2) dL_law_2851 rfl ?_
  refine r_iadd X dL_law_2852 ?_
  refine r_sld X hX hbl hbA g2 dL_law_2853 ?_
  refine r_callV X [.int (xs (ix (x5 + 1))), .int (xs (ix (x5 + 2)))] [] (K10_found h2) lkL_308 clsX10 rfl _ o_model ⟨(Nat.le_of_ble_eq_true rfl), (Nat.le_of_ble_eq_true rfl)⟩ rfl rfl (by show n + 1 + 0 ≤ 601024; omega) (by show n' + 6 + 0 ≤ 7293034; omega) rfl rfl (Nat.le_of_ble_eq_true rfl) rfl rfl dL_law_2854 ?_
  refine r_istore X [some (.ref b0), some (.ref (k.b + (0))), some (.ref (k.b + (189))), some (.ref (k.b + (197))), some (.ref (k.b + (198))), some (.int x5), some (.int r1.1), some (.int r2.1), none] dL_law_2857 (Nat.le_of_ble_eq_true rfl) rfl ?_
  refine r_aload_n X (x := k.b + (189)) dL_law_2859 rfl ?_
  refine r_callV X [] [] (K10_thrown (r := r2.2.1) rfl) lkL_164 clsX10 rfl _ o_model ⟨(Nat.le_of_ble_eq_true rfl), (Nat.le_of_ble_eq_true rfl)⟩ rfl rfl (by show n + 1 + 0 ≤ 601024; omega) (by show n' + 6 + 0 ≤ 7293034; omega) rfl rfl (Nat.le_of_ble_eq_true rfl) rfl rfl dL_law_2860 ?_
  refine r_iload X (x := r1.1) dL_law_2863 rfl ?_
  refine r_icmp_eq X 2870 dL_law_2865 rfl (fun c2865 => ?_) (fun c2865 => absurd h3 c2865)
  refine r_iload X (x := r1.1) dL_law_2870 rfl ?_
  refine r_if_ne X 2887 dL_law_2872 rfl (fun c6 => ?_) (fun c6 => ?_)
  · refine r_goto X 3060 dL_law_2887 rfl ?_
    refine r_iinc X (x := x5) (v := x5 + 6) [some (.ref b0), some (.ref (k.b + (0))), some (.ref (k.b + (189))), some (.ref (k.b + (197))), some (.ref (k.b + (198))), some (.int (x5 + 6)), some (.int r1.1), some (.int r2.1), none] dL_law_3060 rfl rfl rfl ?_
    refine r_goto X 28 dL_law_3063 rfl ?_
    refine VW.msk [true, true, true, true, true, true, false, false, false] rfl (lo' := [some (.ref b0), some (.ref (k.b + (0))), some (.ref (k.b + (189))), some (.ref (k.b + (197))), some (.ref (k.b + (198))), some (.int (x5 + 6)), none, none, none]) rfl ?_
    exact VW.widen (c := n + 1) (s := n' + 6) (by omega) (by omega) kk
  · refine r_aload_n X (x := k.b + (197)) dL_law_2875 rfl ?_
    refine r_iconst X (v := 0) dL_law_2876 rfl ?_
    refine r_laload X (f := r1.2.2) _ a_m_ou (by decide) dL_law_2877 ?_
    refine r_iload X (x := r2.1) dL_law_2878 rfl ?_
    refine r_i2l X dL_law_2880 ?_
    refine r_lcmp_eq X 2887 dL_law_2881 dL_law_2882 rfl (fun c2881 => ?_) (fun c2881 => absurd (h4 c6) c2881)
    refine r_goto X 3060 dL_law_2887 rfl ?_
    refine r_iinc X (x := x5) (v := x5 + 6) [some (.ref b0), some (.ref (k.b + (0))), some (.ref (k.b + (189))), some (.ref (k.b + (197))), some (.ref (k.b + (198))), some (.int (x5 + 6)), some (.int r1.1), some (.int r2.1), none] dL_law_3060 rfl rfl rfl ?_
    refine r_goto X 28 dL_law_3063 rfl ?_
    refine VW.msk [true, true, true, true, true, true, false, false, false] rfl (lo' := [some (.ref b0), some (.ref (k.b + (0))), some (.ref (k.b + (189))), some (.ref (k.b + (197))), some (.ref (k.b + (198))), some (.int (x5 + 6)), none, none, none]) rfl ?_
    exact VW.widen (c := n + 1) (s := n' + 6) (by omega) (by omega) kk
set_option maxRecDepth 100000 in
set_option maxHeartbeats 4000000 in
theorem LT_45 {k : KT} {z : ZT} (X : XX k strs z RL cL_law 9 ret room_1) {b0 len : Nat} {xs : Nat → Int32} (hX : va_X b0 len xs (zS z) (zS z).heap) (hbl : b0 < (zS z).heap.size) (hbA : ¬ kA k b0) {T : TT} {R : RR} {ly : Fin 2 → LL} {rc : RC} {hn : HN} {rp : RP} {tp : TP} {ee : EE} {st : Fin 12 → SS} {w : Nat → Int64} {aside : Nat → Int64} {thought : Nat → Int64} {fresh : Nat → Int64} {mu : MU} {th : Int32} {mp : MP} {mf : MF} {mh : MH} {mg : MG} {ou : Nat → Int64} {od : Nat → UInt64} {n n' : Nat} (hnc : n + 1 ≤ 601024) (hns : n' + 6 ≤ 7293034) {x5 : Int32} (hlt : ¬ (Int32.ofNat len - 6 < x5)) (g0 : inb (x5) len = true) (g1 : inb (x5 + 1) len = true) (g2 : inb (x5 + 2) len = true) (g3 : inb (x5 + 3) len = true) (g4 : inb (x5 + 4) len = true) (g5 : inb (x5 + 5) len = true) (hc : xs (ix x5) &&& 63 = 45) {r1 : Int32 × (Nat → Int64)} {r2 : Int32 × (Int32)} (h1 : fL_worstFlange (ly (0 : Fin 2)) tp st ou = some r1) (h2 : f10_worstFlange w th = some r2) (h3 : r2.2 = r1.1) (h4 : r1.1 = 0 → r1.2 (ix 0) = r2.1.toInt64) (kk : VW k z (n + 1) (n' + 6) (wAll k T R ly rc hn rp tp ee st w aside thought fresh mu r2.2 mp mf mh mg r1.2 od) 28 [some (.ref b0), some (.ref (k.b + (0))), some (.ref (k.b + (189))), some (.ref (k.b + (197))), some (.ref (k.b + (198))), some (.int (x5 + 6)), none, none, none] []) : VW k z n n' (wAll k T R ly rc hn rp tp ee st w aside thought fresh mu th mp mf mh mg ou od) 28 [some (.ref b0), some (.ref (k.b + (0))), some (.ref (k.b + (189))), some (.ref (k.b + (197))), some (.ref (k.b + (198))), some (.int x5), none, none, none] [] := by
  refine r_iload X (x := x5) dL_law_28 rfl ?_
  refine r_aload_n X (x := b0) dL_law_30 rfl ?_
  refine r_slen X hX hbl hbA dL_law_31 ?_
  refine r_bipush X (v := 6) dL_law_32 rfl ?_
  refine r_isub X dL_law_34 ?_
  refine r_icmp_gt X 3066 dL_law_35 rfl (fun c => absurd c hlt) (fun _ => ?_)
  refine r_aload_n X (x := b0) dL_law_38 rfl ?_
  refine r_iload X (x := x5) dL_law_39 rfl ?_
  refine r_sld X hX hbl hbA g0 dL_law_41 ?_
  refine r_bipush X (v := 63) dL_law_42 rfl ?_
  refine r_iand X dL_law_44 ?_
  refine r_tswIn X (off := 2845) 2890 dL_law_45 (by rw [hc]; decide) (by rw [hc]; decide) (by rw [hc]; rfl) rfl ?_
  refine r_aload_n X (x := k.b + (0)) dL_law_2890 rfl ?_
  refine r_aload_n X (x := k.b + (197)) dL_law_2891 rfl ?_
  refine r_callSW X [.ref (k.b + (0)), .ref (k.b + (197))] [] (KL_worstFlange h1) lkL_worstFlange ⟨(Nat.le_of_ble_eq_true rfl), (Nat.le_of_ble_eq_true rfl)⟩ rfl rfl (by show n + 1 ≤ 601024; omega) (by show n' + 6 ≤ 7293034; omega) rfl rfl (Nat.le_of_ble_eq_true rfl) rfl rfl dL_law_2892 ?_
  refine r_istore X [some (.ref b0), some (.ref (k.b + (0))), some (.ref (k.b + (189))), some (.ref (k.b + (197))), some (.ref (k.b + (198))), some (.int x5), some (.int r1.1), none, none] dL_law_2895 (Nat.le_of_ble_eq_true rfl) rfl ?_
  refine r_aload_n X (x := k.b + (189)) dL_law_2897 rfl ?_
  refine r_callV X [] [] (K10_worstFlange h2) lkL_311 clsX10 rfl _ o_model ⟨(Nat.le_of_ble_eq_true rfl), (Nat.le_of_ble_eq_true rfl)⟩ rfl rfl (by show n + 1 + 0 ≤ 601024; omega) (by show n' + 6 + 0 ≤ 7293034; omega) rfl rfl (Nat.le_of_ble_eq_true rfl) rfl rfl dL_law_2898 ?_
  refine r_istore X [some (.ref b0), some (.ref (k.b + (0))), some (.ref (k.b + (189))), some (.ref (k.b + (197))), some (.ref (k.b + (198))), some (.int x5), some (.int r1.1), some (.int r2.1), none] dL_law_2901 (Nat.le_of_ble_eq_true rfl) rfl ?_
  refine r_aload_n X (x := k.b + (189)) dL_law_2903 rfl ?_
  refine r_callV X [] [] (K10_thrown (r := r2.2) rfl) lkL_164 clsX10 rfl _ o_model ⟨(Nat.le_of_ble_eq_true rfl), (Nat.le_of_ble_eq_true rfl)⟩ rfl rfl (by show n + 1 + 0 ≤ 601024; omega) (by show n' + 6 + 0 ≤ 7293034; omega) rfl rfl (Nat.le_of_ble_eq_true rfl) rfl rfl dL_law_2904 ?_
  refine r_iload X (x := r1.1) dL_law_2907 rfl ?_
  refine r_icmp_eq X 2914 dL_law_2909 rfl (fun c2909 => ?_) (fun c2909 => absurd h3 c2909)
  refine r_iload X (x := r1.1) dL_law_2914 rfl ?_
  refine r_if_ne X 2931 dL_law_2916 rfl (fun c6 => ?_) (fun c6 => ?_)
  · refine r_goto X 3060 dL_law_2931 rfl ?_
    refine r_iinc X (x := x5) (v := x5 + 6) [some (.ref b0), some (.ref (k.b + (0))), some (.ref (k.b + (189))), some (.ref (k.b + (197))), some (.ref (k.b + (198))), some (.int (x5 + 6)), some (.int r1.1), some (.int r2.1), none] dL_law_3060 rfl rfl rfl ?_
    refine r_goto X 28 dL_law_3063 rfl ?_
    refine VW.msk [true, true, true, true, true, true, false, false, false] rfl (lo' := [some (.ref b0), some (.ref (k.b + (0))), some (.ref (k.b + (189))), some (.ref (k.b + (197))), some (.ref (k.b + (198))), some (.int (x5 + 6)), none, none, none]) rfl ?_
    exact VW.widen (c := n + 1) (s := n' + 6) (by omega) (by omega) kk
  · refine r_aload_n X (x := k.b + (197)) dL_law_2919 rfl ?_
    refine r_iconst X (v := 0) dL_law_2920 rfl ?_
    refine r_laload X (f := r1.2) _ a_m_ou (by decide) dL_law_2921 ?_
    refine r_iload X (x := r2.1) dL_law_2922 rfl ?_
    refine r_i2l X dL_law_2924 ?_
    refine r_lcmp_eq X 2931 dL_law_2925 dL_law_2926 rfl (fun c2925 => ?_) (fun c2925 => absurd (h4 c6) c2925)
    refine r_goto X 3060 dL_law_2931 rfl ?_
    refine r_iinc X (x := x5) (v := x5 + 6) [some (.ref b0), some (.ref (k.b + (0))), some (.ref (k.b + (189))), some (.ref (k.b + (197))), some (.ref (k.b + (198))), some (.int (x5 + 6)), some (.int r1.1), some (.int r2.1), none] dL_law_3060 rfl rfl rfl ?_
    refine r_goto X 28 dL_law_3063 rfl ?_
    refine VW.msk [true, true, true, true, true, true, false, false, false] rfl (lo' := [some (.ref b0), some (.ref (k.b + (0))), some (.ref (k.b + (189))), some (.ref (k.b + (197))), some (.ref (k.b + (198))), some (.int (x5 + 6)), none, none, none]) rfl ?_
    exact VW.widen (c := n + 1) (s := n' + 6) (by omega) (by omega) kk
set_option maxRecDepth 100000 in
set_option maxHeartbeats 4000000 in
theorem LT_46 {k : KT} {z : ZT} (X : XX k strs z RL cL_law 9 ret room_1) {b0 len : Nat} {xs : Nat → Int32} (hX : va_X b0 len xs (zS z) (zS z).heap) (hbl : b0 < (zS z).heap.size) (hbA : ¬ kA k b0) {T : TT} {R : RR} {ly : Fin 2 → LL} {rc : RC} {hn : HN} {rp : RP} {tp : TP} {ee : EE} {st : Fin 12 → SS} {w : Nat → Int64} {aside : Nat → Int64} {thought : Nat → Int64} {fresh : Nat → Int64} {mu : MU} {th : Int32} {mp : MP} {mf : MF} {mh : MH} {mg : MG} {ou : Nat → Int64} {od : Nat → UInt64} {n n' : Nat} (hnc : n + 1 ≤ 601024) (hns : n' + 6 ≤ 7293034) {x5 : Int32} (hlt : ¬ (Int32.ofNat len - 6 < x5)) (g0 : inb (x5) len = true) (g1 : inb (x5 + 1) len = true) (g2 : inb (x5 + 2) len = true) (g3 : inb (x5 + 3) len = true) (g4 : inb (x5 + 4) len = true) (g5 : inb (x5 + 5) len = true) (hc : xs (ix x5) &&& 63 = 46) {r1 : Int32 × (RP)} {r2 : Int32 × (Int32) × (MG)} (h1 : f9_writeReport (ly (0 : Fin 2)) tp st rp = some r1) (h2 : f10_writeReport w th mg = some r2) (h3 : r1.1 = r2.1) (kk : VW k z (n + 1) (n' + 6) (wAll k T R ly rc hn r1.2 tp ee st w aside thought fresh mu r2.2.1 mp mf mh r2.2.2 ou od) 28 [some (.ref b0), some (.ref (k.b + (0))), some (.ref (k.b + (189))), some (.ref (k.b + (197))), some (.ref (k.b + (198))), some (.int (x5 + 6)), none, none, none] []) : VW k z n n' (wAll k T R ly rc hn rp tp ee st w aside thought fresh mu th mp mf mh mg ou od) 28 [some (.ref b0), some (.ref (k.b + (0))), some (.ref (k.b + (189))), some (.ref (k.b + (197))), some (.ref (k.b + (198))), some (.int x5), none, none, none] [] := by
  refine r_iload X (x := x5) dL_law_28 rfl ?_
  refine r_aload_n X (x := b0) dL_law_30 rfl ?_
  refine r_slen X hX hbl hbA dL_law_31 ?_
  refine r_bipush X (v := 6) dL_law_32 rfl ?_
  refine r_isub X dL_law_34 ?_
  refine r_icmp_gt X 3066 dL_law_35 rfl (fun c => absurd c hlt) (fun _ => ?_)
  refine r_aload_n X (x := b0) dL_law_38 rfl ?_
  refine r_iload X (x := x5) dL_law_39 rfl ?_
  refine r_sld X hX hbl hbA g0 dL_law_41 ?_
  refine r_bipush X (v := 63) dL_law_42 rfl ?_
  refine r_iand X dL_law_44 ?_
  refine r_tswIn X (off := 2889) 2934 dL_law_45 (by rw [hc]; decide) (by rw [hc]; decide) (by rw [hc]; rfl) rfl ?_
  refine r_aload_n X (x := k.b + (0)) dL_law_2934 rfl ?_
  refine r_callV X [] [] (K9_writeReport h1) lkL_312 clsX9 rfl _ o_main ⟨(Nat.le_of_ble_eq_true rfl), (Nat.le_of_ble_eq_true rfl)⟩ rfl rfl (by show n + 0 ≤ 601024; omega) (by show n' + 0 ≤ 7293034; omega) rfl rfl (Nat.le_of_ble_eq_true rfl) rfl rfl dL_law_2935 ?_
  refine r_aload_n X (x := k.b + (189)) dL_law_2938 rfl ?_
  refine r_callV X [] [.int r1.1] (K10_writeReport h2) lkL_315 clsX10 rfl _ o_model ⟨(Nat.le_of_ble_eq_true rfl), (Nat.le_of_ble_eq_true rfl)⟩ rfl rfl (by show n + 0 ≤ 601024; omega) (by show n' + 0 ≤ 7293034; omega) rfl rfl (Nat.le_of_ble_eq_true rfl) rfl rfl dL_law_2939 ?_
  refine r_icmp_eq X 3060 dL_law_2942 rfl (fun c2942 => ?_) (fun c2942 => absurd h3 c2942)
  refine r_iinc X (x := x5) (v := x5 + 6) [some (.ref b0), some (.ref (k.b + (0))), some (.ref (k.b + (189))), some (.ref (k.b + (197))), some (.ref (k.b + (198))), some (.int (x5 + 6)), none, none, none] dL_law_3060 rfl rfl rfl ?_
  refine r_goto X 28 dL_law_3063 rfl ?_
  exact VW.widen (c := n + 1) (s := n' + 6) (by omega) (by omega) kk
set_option maxRecDepth 100000 in
set_option maxHeartbeats 4000000 in
theorem LT_47 {k : KT} {z : ZT} (X : XX k strs z RL cL_law 9 ret room_1) {b0 len : Nat} {xs : Nat → Int32} (hX : va_X b0 len xs (zS z) (zS z).heap) (hbl : b0 < (zS z).heap.size) (hbA : ¬ kA k b0) {T : TT} {R : RR} {ly : Fin 2 → LL} {rc : RC} {hn : HN} {rp : RP} {tp : TP} {ee : EE} {st : Fin 12 → SS} {w : Nat → Int64} {aside : Nat → Int64} {thought : Nat → Int64} {fresh : Nat → Int64} {mu : MU} {th : Int32} {mp : MP} {mf : MF} {mh : MH} {mg : MG} {ou : Nat → Int64} {od : Nat → UInt64} {n n' : Nat} (hnc : n + 1 ≤ 601024) (hns : n' + 6 ≤ 7293034) {x5 : Int32} (hlt : ¬ (Int32.ofNat len - 6 < x5)) (g0 : inb (x5) len = true) (g1 : inb (x5 + 1) len = true) (g2 : inb (x5 + 2) len = true) (g3 : inb (x5 + 3) len = true) (g4 : inb (x5 + 4) len = true) (g5 : inb (x5 + 5) len = true) (hc : xs (ix x5) &&& 63 = 47) {r1 : Int32 × (Nat → Int64)} {r2 : Int32 × (Int32)} (h1 : fL_reportByte rp ou (xs (ix (x5 + 1))) = some r1) (h2 : f10_reportByte mg th (xs (ix (x5 + 1))) = some r2) (h3 : r2.2 = r1.1) (h4 : r1.1 = 0 → r1.2 (ix 0) = r2.1.toInt64) (kk : VW k z (n + 1) (n' + 6) (wAll k T R ly rc hn rp tp ee st w aside thought fresh mu r2.2 mp mf mh mg r1.2 od) 28 [some (.ref b0), some (.ref (k.b + (0))), some (.ref (k.b + (189))), some (.ref (k.b + (197))), some (.ref (k.b + (198))), some (.int (x5 + 6)), none, none, none] []) : VW k z n n' (wAll k T R ly rc hn rp tp ee st w aside thought fresh mu th mp mf mh mg ou od) 28 [some (.ref b0), some (.ref (k.b + (0))), some (.ref (k.b + (189))), some (.ref (k.b + (197))), some (.ref (k.b + (198))), some (.int x5), none, none, none] [] := by
  refine r_iload X (x := x5) dL_law_28 rfl ?_
  refine r_aload_n X (x := b0) dL_law_30 rfl ?_
  refine r_slen X hX hbl hbA dL_law_31 ?_
  refine r_bipush X (v := 6) dL_law_32 rfl ?_
  refine r_isub X dL_law_34 ?_
  refine r_icmp_gt X 3066 dL_law_35 rfl (fun c => absurd c hlt) (fun _ => ?_)
  refine r_aload_n X (x := b0) dL_law_38 rfl ?_
  refine r_iload X (x := x5) dL_law_39 rfl ?_
  refine r_sld X hX hbl hbA g0 dL_law_41 ?_
  refine r_bipush X (v := 63) dL_law_42 rfl ?_
  refine r_iand X dL_law_44 ?_
  refine r_tswIn X (off := 2902) 2947 dL_law_45 (by rw [hc]; decide) (by rw [hc]; decide) (by rw [hc]; rfl) rfl ?_
  refine r_aload_n X (x := k.b + (0)) dL_law_2947 rfl ?_
  refine r_aload_n X (x := b0) dL_law_2948 rfl ?_
  refine r_iload X (x := x5) dL_law_2949 rfl ?_
  refine r_iconst X (v := 1) dL_law_2951 rfl ?_
  refine r_iadd X dL_law_2952 ?_
  refine r_sld X hX hbl hbA g1 dL_law_2953 ?_
  refine r_aload_n X (x := k.b + (197)) dL_law_2954 rfl ?_
  refine r_callSW X [.ref (k.b + (0)), .int (xs (ix (x5 + 1))), .ref (k.b + (197))] [] (KL_reportByte h1) lkL_reportByte ⟨(Nat.le_of_ble_eq_true rfl), (Nat.le_of_ble_eq_true rfl)⟩ rfl rfl (by show n + 1 ≤ 601024; omega) (by show n' + 6 ≤ 7293034; omega) rfl rfl (Nat.le_of_ble_eq_true rfl) rfl rfl dL_law_2955 ?_
  refine r_istore X [some (.ref b0), some (.ref (k.b + (0))), some (.ref (k.b + (189))), some (.ref (k.b + (197))), some (.ref (k.b + (198))), some (.int x5), some (.int r1.1), none, none] dL_law_2958 (Nat.le_of_ble_eq_true rfl) rfl ?_
  refine r_aload_n X (x := k.b + (189)) dL_law_2960 rfl ?_
  refine r_aload_n X (x := b0) dL_law_2961 rfl ?_
  refine r_iload X (x := x5) dL_law_2962 rfl ?_
  refine r_iconst X (v := 1) dL_law_2964 rfl ?_
  refine r_iadd X dL_law_2965 ?_
  refine r_sld X hX hbl hbA g1 dL_law_2966 ?_
  refine r_callV X [.int (xs (ix (x5 + 1)))] [] (K10_reportByte h2) lkL_318 clsX10 rfl _ o_model ⟨(Nat.le_of_ble_eq_true rfl), (Nat.le_of_ble_eq_true rfl)⟩ rfl rfl (by show n + 1 + 0 ≤ 601024; omega) (by show n' + 6 + 0 ≤ 7293034; omega) rfl rfl (Nat.le_of_ble_eq_true rfl) rfl rfl dL_law_2967 ?_
  refine r_istore X [some (.ref b0), some (.ref (k.b + (0))), some (.ref (k.b + (189))), some (.ref (k.b + (197))), some (.ref (k.b + (198))), some (.int x5), some (.int r1.1), some (.int r2.1), none] dL_law_2970 (Nat.le_of_ble_eq_true rfl) rfl ?_
  refine r_aload_n X (x := k.b + (189)) dL_law_2972 rfl ?_
  refine r_callV X [] [] (K10_thrown (r := r2.2) rfl) lkL_164 clsX10 rfl _ o_model ⟨(Nat.le_of_ble_eq_true rfl), (Nat.le_of_ble_eq_true rfl)⟩ rfl rfl (by show n + 1 + 0 ≤ 601024; omega) (by show n' + 6 + 0 ≤ 7293034; omega) rfl rfl (Nat.le_of_ble_eq_true rfl) rfl rfl dL_law_2973 ?_
  refine r_iload X (x := r1.1) dL_law_2976 rfl ?_
  refine r_icmp_eq X 2983 dL_law_2978 rfl (fun c2978 => ?_) (fun c2978 => absurd h3 c2978)
  refine r_iload X (x := r1.1) dL_law_2983 rfl ?_
  refine r_if_ne X 3000 dL_law_2985 rfl (fun c6 => ?_) (fun c6 => ?_)
  · refine r_goto X 3060 dL_law_3000 rfl ?_
    refine r_iinc X (x := x5) (v := x5 + 6) [some (.ref b0), some (.ref (k.b + (0))), some (.ref (k.b + (189))), some (.ref (k.b + (197))), some (.ref (k.b + (198))), some (.int (x5 + 6)), some (.int r1.1), some (.int r2.1), none] dL_law_3060 rfl rfl rfl ?_
    refine r_goto X 28 dL_law_3063 rfl ?_
    refine VW.msk [true, true, true, true, true, true, false, false, false] rfl (lo' := [some (.ref b0), some (.ref (k.b + (0))), some (.ref (k.b + (189))), some (.ref (k.b + (197))), some (.ref (k.b + (198))), some (.int (x5 + 6)), none, none, none]) rfl ?_
    exact VW.widen (c := n + 1) (s := n' + 6) (by omega) (by omega) kk
  · refine r_aload_n X (x := k.b + (197)) dL_law_2988 rfl ?_
    refine r_iconst X (v := 0) dL_law_2989 rfl ?_
    refine r_laload X (f := r1.2) _ a_m_ou (by decide) dL_law_2990 ?_
    refine r_iload X (x := r2.1) dL_law_2991 rfl ?_
    refine r_i2l X dL_law_2993 ?_
    refine r_lcmp_eq X 3000 dL_law_2994 dL_law_2995 rfl (fun c2994 => ?_) (fun c2994 => absurd (h4 c6) c2994)
    refine r_goto X 3060 dL_law_3000 rfl ?_
    refine r_iinc X (x := x5) (v := x5 + 6) [some (.ref b0), some (.ref (k.b + (0))), some (.ref (k.b + (189))), some (.ref (k.b + (197))), some (.ref (k.b + (198))), some (.int (x5 + 6)), some (.int r1.1), some (.int r2.1), none] dL_law_3060 rfl rfl rfl ?_
    refine r_goto X 28 dL_law_3063 rfl ?_
    refine VW.msk [true, true, true, true, true, true, false, false, false] rfl (lo' := [some (.ref b0), some (.ref (k.b + (0))), some (.ref (k.b + (189))), some (.ref (k.b + (197))), some (.ref (k.b + (198))), some (.int (x5 + 6)), none, none, none]) rfl ?_
    exact VW.widen (c := n + 1) (s := n' + 6) (by omega) (by omega) kk
set_option maxRecDepth 100000 in
set_option maxHeartbeats 4000000 in
theorem LT_48 {k : KT} {z : ZT} (X : XX k strs z RL cL_law 9 ret room_1) {b0 len : Nat} {xs : Nat → Int32} (hX : va_X b0 len xs (zS z) (zS z).heap) (hbl : b0 < (zS z).heap.size) (hbA : ¬ kA k b0) {T : TT} {R : RR} {ly : Fin 2 → LL} {rc : RC} {hn : HN} {rp : RP} {tp : TP} {ee : EE} {st : Fin 12 → SS} {w : Nat → Int64} {aside : Nat → Int64} {thought : Nat → Int64} {fresh : Nat → Int64} {mu : MU} {th : Int32} {mp : MP} {mf : MF} {mh : MH} {mg : MG} {ou : Nat → Int64} {od : Nat → UInt64} {n n' : Nat} (hnc : n + 1 ≤ 601024) (hns : n' + 6 ≤ 7293034) {x5 : Int32} (hlt : ¬ (Int32.ofNat len - 6 < x5)) (g0 : inb (x5) len = true) (g1 : inb (x5 + 1) len = true) (g2 : inb (x5 + 2) len = true) (g3 : inb (x5 + 3) len = true) (g4 : inb (x5 + 4) len = true) (g5 : inb (x5 + 5) len = true) (hc : xs (ix x5) &&& 63 = 48) {r1 : Int32 × (TP) × (Nat → Int64)} {r2 : Int32 × (Nat → Int64) × (MU) × (Int32)} (h1 : fL_undo tp ou = some r1) (h2 : f10_undo w mu th = some r2) (h3 : r2.2.2.2 = r1.1) (h4 : r1.1 = 0 → r1.2.2 (ix 0) = r2.1.toInt64) (kk : VW k z (n + 1) (n' + 6) (wAll k T R ly rc hn rp r1.2.1 ee st r2.2.1 aside thought fresh r2.2.2.1 r2.2.2.2 mp mf mh mg r1.2.2 od) 28 [some (.ref b0), some (.ref (k.b + (0))), some (.ref (k.b + (189))), some (.ref (k.b + (197))), some (.ref (k.b + (198))), some (.int (x5 + 6)), none, none, none] []) : VW k z n n' (wAll k T R ly rc hn rp tp ee st w aside thought fresh mu th mp mf mh mg ou od) 28 [some (.ref b0), some (.ref (k.b + (0))), some (.ref (k.b + (189))), some (.ref (k.b + (197))), some (.ref (k.b + (198))), some (.int x5), none, none, none] [] := by
  refine r_iload X (x := x5) dL_law_28 rfl ?_
  refine r_aload_n X (x := b0) dL_law_30 rfl ?_
  refine r_slen X hX hbl hbA dL_law_31 ?_
  refine r_bipush X (v := 6) dL_law_32 rfl ?_
  refine r_isub X dL_law_34 ?_
  refine r_icmp_gt X 3066 dL_law_35 rfl (fun c => absurd c hlt) (fun _ => ?_)
  refine r_aload_n X (x := b0) dL_law_38 rfl ?_
  refine r_iload X (x := x5) dL_law_39 rfl ?_
  refine r_sld X hX hbl hbA g0 dL_law_41 ?_
  refine r_bipush X (v := 63) dL_law_42 rfl ?_
  refine r_iand X dL_law_44 ?_
  refine r_tswIn X (off := 2958) 3003 dL_law_45 (by rw [hc]; decide) (by rw [hc]; decide) (by rw [hc]; rfl) rfl ?_
  refine r_aload_n X (x := k.b + (0)) dL_law_3003 rfl ?_
  refine r_aload_n X (x := k.b + (197)) dL_law_3004 rfl ?_
  refine r_callSW X [.ref (k.b + (0)), .ref (k.b + (197))] [] (KL_undo h1) lkL_undo ⟨(Nat.le_of_ble_eq_true rfl), (Nat.le_of_ble_eq_true rfl)⟩ rfl rfl (by show n + 1 ≤ 601024; omega) (by show n' + 6 ≤ 7293034; omega) rfl rfl (Nat.le_of_ble_eq_true rfl) rfl rfl dL_law_3005 ?_
  refine r_istore X [some (.ref b0), some (.ref (k.b + (0))), some (.ref (k.b + (189))), some (.ref (k.b + (197))), some (.ref (k.b + (198))), some (.int x5), some (.int r1.1), none, none] dL_law_3008 (Nat.le_of_ble_eq_true rfl) rfl ?_
  refine r_aload_n X (x := k.b + (189)) dL_law_3010 rfl ?_
  refine r_callV X [] [] (K10_undo h2) lkL_321 clsX10 rfl _ o_model ⟨(Nat.le_of_ble_eq_true rfl), (Nat.le_of_ble_eq_true rfl)⟩ rfl rfl (by show n + 1 + 0 ≤ 601024; omega) (by show n' + 6 + 0 ≤ 7293034; omega) rfl rfl (Nat.le_of_ble_eq_true rfl) rfl rfl dL_law_3011 ?_
  refine r_istore X [some (.ref b0), some (.ref (k.b + (0))), some (.ref (k.b + (189))), some (.ref (k.b + (197))), some (.ref (k.b + (198))), some (.int x5), some (.int r1.1), some (.int r2.1), none] dL_law_3014 (Nat.le_of_ble_eq_true rfl) rfl ?_
  refine r_aload_n X (x := k.b + (189)) dL_law_3016 rfl ?_
  refine r_callV X [] [] (K10_thrown (r := r2.2.2.2) rfl) lkL_164 clsX10 rfl _ o_model ⟨(Nat.le_of_ble_eq_true rfl), (Nat.le_of_ble_eq_true rfl)⟩ rfl rfl (by show n + 1 + 0 ≤ 601024; omega) (by show n' + 6 + 0 ≤ 7293034; omega) rfl rfl (Nat.le_of_ble_eq_true rfl) rfl rfl dL_law_3017 ?_
  refine r_iload X (x := r1.1) dL_law_3020 rfl ?_
  refine r_icmp_eq X 3027 dL_law_3022 rfl (fun c3022 => ?_) (fun c3022 => absurd h3 c3022)
  refine r_iload X (x := r1.1) dL_law_3027 rfl ?_
  refine r_if_ne X 3044 dL_law_3029 rfl (fun c6 => ?_) (fun c6 => ?_)
  · refine r_goto X 3060 dL_law_3044 rfl ?_
    refine r_iinc X (x := x5) (v := x5 + 6) [some (.ref b0), some (.ref (k.b + (0))), some (.ref (k.b + (189))), some (.ref (k.b + (197))), some (.ref (k.b + (198))), some (.int (x5 + 6)), some (.int r1.1), some (.int r2.1), none] dL_law_3060 rfl rfl rfl ?_
    refine r_goto X 28 dL_law_3063 rfl ?_
    refine VW.msk [true, true, true, true, true, true, false, false, false] rfl (lo' := [some (.ref b0), some (.ref (k.b + (0))), some (.ref (k.b + (189))), some (.ref (k.b + (197))), some (.ref (k.b + (198))), some (.int (x5 + 6)), none, none, none]) rfl ?_
    exact VW.widen (c := n + 1) (s := n' + 6) (by omega) (by omega) kk
  · refine r_aload_n X (x := k.b + (197)) dL_law_3032 rfl ?_
    refine r_iconst X (v := 0) dL_law_3033 rfl ?_
    refine r_laload X (f := r1.2.2) _ a_m_ou (by decide) dL_law_3034 ?_
    refine r_iload X (x := r2.1) dL_law_3035 rfl ?_
    refine r_i2l X dL_law_3037 ?_
    refine r_lcmp_eq X 3044 dL_law_3038 dL_law_3039 rfl (fun c3038 => ?_) (fun c3038 => absurd (h4 c6) c3038)
    refine r_goto X 3060 dL_law_3044 rfl ?_
    refine r_iinc X (x := x5) (v := x5 + 6) [some (.ref b0), some (.ref (k.b + (0))), some (.ref (k.b + (189))), some (.ref (k.b + (197))), some (.ref (k.b + (198))), some (.int (x5 + 6)), some (.int r1.1), some (.int r2.1), none] dL_law_3060 rfl rfl rfl ?_
    refine r_goto X 28 dL_law_3063 rfl ?_
    refine VW.msk [true, true, true, true, true, true, false, false, false] rfl (lo' := [some (.ref b0), some (.ref (k.b + (0))), some (.ref (k.b + (189))), some (.ref (k.b + (197))), some (.ref (k.b + (198))), some (.int (x5 + 6)), none, none, none]) rfl ?_
    exact VW.widen (c := n + 1) (s := n' + 6) (by omega) (by omega) kk
set_option maxRecDepth 100000 in
set_option maxHeartbeats 4000000 in
theorem LT_49 {k : KT} {z : ZT} (X : XX k strs z RL cL_law 9 ret room_1) {b0 len : Nat} {xs : Nat → Int32} (hX : va_X b0 len xs (zS z) (zS z).heap) (hbl : b0 < (zS z).heap.size) (hbA : ¬ kA k b0) {T : TT} {R : RR} {ly : Fin 2 → LL} {rc : RC} {hn : HN} {rp : RP} {tp : TP} {ee : EE} {st : Fin 12 → SS} {w : Nat → Int64} {aside : Nat → Int64} {thought : Nat → Int64} {fresh : Nat → Int64} {mu : MU} {th : Int32} {mp : MP} {mf : MF} {mh : MH} {mg : MG} {ou : Nat → Int64} {od : Nat → UInt64} {n n' : Nat} (hnc : n + 1 ≤ 601024) (hns : n' + 6 ≤ 7293034) {x5 : Int32} (hlt : ¬ (Int32.ofNat len - 6 < x5)) (g0 : inb (x5) len = true) (g1 : inb (x5 + 1) len = true) (g2 : inb (x5 + 2) len = true) (g3 : inb (x5 + 3) len = true) (g4 : inb (x5 + 4) len = true) (g5 : inb (x5 + 5) len = true) (hc : xs (ix x5) &&& 63 = 49) {r1 : Int32} {r2 : Int32 × (Int32)} (h1 : f9_undoDepth tp = some r1) (h2 : f10_undoDepth mu th = some r2) (h3 : r1 = r2.1) (kk : VW k z (n + 1) (n' + 6) (wAll k T R ly rc hn rp tp ee st w aside thought fresh mu r2.2 mp mf mh mg ou od) 28 [some (.ref b0), some (.ref (k.b + (0))), some (.ref (k.b + (189))), some (.ref (k.b + (197))), some (.ref (k.b + (198))), some (.int (x5 + 6)), none, none, none] []) : VW k z n n' (wAll k T R ly rc hn rp tp ee st w aside thought fresh mu th mp mf mh mg ou od) 28 [some (.ref b0), some (.ref (k.b + (0))), some (.ref (k.b + (189))), some (.ref (k.b + (197))), some (.ref (k.b + (198))), some (.int x5), none, none, none] [] := by
  refine r_iload X (x := x5) dL_law_28 rfl ?_
  refine r_aload_n X (x := b0) dL_law_30 rfl ?_
  refine r_slen X hX hbl hbA dL_law_31 ?_
  refine r_bipush X (v := 6) dL_law_32 rfl ?_
  refine r_isub X dL_law_34 ?_
  refine r_icmp_gt X 3066 dL_law_35 rfl (fun c => absurd c hlt) (fun _ => ?_)
  refine r_aload_n X (x := b0) dL_law_38 rfl ?_
  refine r_iload X (x := x5) dL_law_39 rfl ?_
  refine r_sld X hX hbl hbA g0 dL_law_41 ?_
  refine r_bipush X (v := 63) dL_law_42 rfl ?_
  refine r_iand X dL_law_44 ?_
  refine r_tswIn X (off := 3002) 3047 dL_law_45 (by rw [hc]; decide) (by rw [hc]; decide) (by rw [hc]; rfl) rfl ?_
  refine r_aload_n X (x := k.b + (0)) dL_law_3047 rfl ?_
  refine r_callV X [] [] (K9_undoDepth h1) lkL_322 clsX9 rfl _ o_main ⟨(Nat.le_of_ble_eq_true rfl), (Nat.le_of_ble_eq_true rfl)⟩ rfl rfl (by show n + 0 ≤ 601024; omega) (by show n' + 0 ≤ 7293034; omega) rfl rfl (Nat.le_of_ble_eq_true rfl) rfl rfl dL_law_3048 ?_
  refine r_aload_n X (x := k.b + (189)) dL_law_3051 rfl ?_
  refine r_callV X [] [.int r1] (K10_undoDepth h2) lkL_325 clsX10 rfl _ o_model ⟨(Nat.le_of_ble_eq_true rfl), (Nat.le_of_ble_eq_true rfl)⟩ rfl rfl (by show n + 0 ≤ 601024; omega) (by show n' + 0 ≤ 7293034; omega) rfl rfl (Nat.le_of_ble_eq_true rfl) rfl rfl dL_law_3052 ?_
  refine r_icmp_eq X 3060 dL_law_3055 rfl (fun c3055 => ?_) (fun c3055 => absurd h3 c3055)
  refine r_iinc X (x := x5) (v := x5 + 6) [some (.ref b0), some (.ref (k.b + (0))), some (.ref (k.b + (189))), some (.ref (k.b + (197))), some (.ref (k.b + (198))), some (.int (x5 + 6)), none, none, none] dL_law_3060 rfl rfl rfl ?_
  refine r_goto X 28 dL_law_3063 rfl ?_
  exact VW.widen (c := n + 1) (s := n' + 6) (by omega) (by omega) kk
set_option maxRecDepth 100000 in
set_option maxHeartbeats 4000000 in
theorem LT_no {k : KT} {z : ZT} (X : XX k strs z RL cL_law 9 ret room_1) {b0 len : Nat} {xs : Nat → Int32} (hX : va_X b0 len xs (zS z) (zS z).heap) (hbl : b0 < (zS z).heap.size) (hbA : ¬ kA k b0) {T : TT} {R : RR} {ly : Fin 2 → LL} {rc : RC} {hn : HN} {rp : RP} {tp : TP} {ee : EE} {st : Fin 12 → SS} {w : Nat → Int64} {aside : Nat → Int64} {thought : Nat → Int64} {fresh : Nat → Int64} {mu : MU} {th : Int32} {mp : MP} {mf : MF} {mh : MH} {mg : MG} {ou : Nat → Int64} {od : Nat → UInt64} {n n' : Nat} {x5 : Int32} (hlt : ¬ (Int32.ofNat len - 6 < x5)) (g0 : inb x5 len = true) (hc : (xs (ix x5) &&& 63).toInt < 0 ∨ 49 < (xs (ix x5) &&& 63).toInt) (kk : VW k z (n + 1) (n' + 6) (wAll k T R ly rc hn rp tp ee st w aside thought fresh mu th mp mf mh mg ou od) 28 [some (.ref b0), some (.ref (k.b + (0))), some (.ref (k.b + (189))), some (.ref (k.b + (197))), some (.ref (k.b + (198))), some (.int (x5 + 6)), none, none, none] []) : VW k z n n' (wAll k T R ly rc hn rp tp ee st w aside thought fresh mu th mp mf mh mg ou od) 28 [some (.ref b0), some (.ref (k.b + (0))), some (.ref (k.b + (189))), some (.ref (k.b + (197))), some (.ref (k.b + (198))), some (.int x5), none, none, none] [] := by
  refine r_iload X (x := x5) dL_law_28 rfl ?_
  refine r_aload_n X (x := b0) dL_law_30 rfl ?_
  refine r_slen X hX hbl hbA dL_law_31 ?_
  refine r_bipush X (v := 6) dL_law_32 rfl ?_
  refine r_isub X dL_law_34 ?_
  refine r_icmp_gt X 3066 dL_law_35 rfl (fun c => absurd c hlt) (fun _ => ?_)
  refine r_aload_n X (x := b0) dL_law_38 rfl ?_
  refine r_iload X (x := x5) dL_law_39 rfl ?_
  refine r_sld X hX hbl hbA g0 dL_law_41 ?_
  refine r_bipush X (v := 63) dL_law_42 rfl ?_
  refine r_iand X dL_law_44 ?_
  refine r_tswOut X 3060 dL_law_45 hc rfl ?_
  refine r_iinc X (x := x5) (v := x5 + 6) [some (.ref b0), some (.ref (k.b + (0))), some (.ref (k.b + (189))), some (.ref (k.b + (197))), some (.ref (k.b + (198))), some (.int (x5 + 6)), none, none, none] dL_law_3060 rfl rfl rfl ?_
  refine r_goto X 28 dL_law_3063 rfl ?_
  exact VW.widen (c := n + 1) (s := n' + 6) (by omega) (by omega) kk
