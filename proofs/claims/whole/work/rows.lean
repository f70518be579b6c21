section
-- ===== PART A: goes FIRST, ahead of the names: the tables' words, and 'selects' of the private methods out of them =====
/-- a private method of a class that the tables say can be made, by its rows of tables_1 -/
def lw_okq (q : MethodName × Nat) : Prop := (q.1.cls ≠ "java/lang/invoke/MethodHandle" ∧ q.1.cls ≠ "java/lang/invoke/VarHandle") ∧ Cond.instantiable q.1.cls q.2 ∈ tables_1 ∧ Cond.privateMethod q.1 ∈ tables_1 ∧ Cond.instanceMethod q.1 ∈ tables_1
theorem lw_p0 : lw_okq (⟨"VacuumSequencer$SystemParser", "section", "()I"⟩, 2) := ⟨⟨by decide +kernel, by decide +kernel⟩, List.mem_of_getElem? (i := 193) (by decide +kernel), List.mem_of_getElem? (i := 427) (by decide +kernel), List.mem_of_getElem? (i := 428) (by decide +kernel)⟩
theorem lw_p1 : lw_okq (⟨"VacuumSequencer$SystemParser", "isFull", "(I)Z"⟩, 2) := ⟨⟨by decide +kernel, by decide +kernel⟩, List.mem_of_getElem? (i := 193) (by decide +kernel), List.mem_of_getElem? (i := 491) (by decide +kernel), List.mem_of_getElem? (i := 492) (by decide +kernel)⟩
theorem lw_p2 : lw_okq (⟨"VacuumSequencer$SystemParser", "readChamber", "()V"⟩, 2) := ⟨⟨by decide +kernel, by decide +kernel⟩, List.mem_of_getElem? (i := 193) (by decide +kernel), List.mem_of_getElem? (i := 496) (by decide +kernel), List.mem_of_getElem? (i := 497) (by decide +kernel)⟩
theorem lw_p3 : lw_okq (⟨"VacuumSequencer$SystemParser", "readPump", "()V"⟩, 2) := ⟨⟨by decide +kernel, by decide +kernel⟩, List.mem_of_getElem? (i := 193) (by decide +kernel), List.mem_of_getElem? (i := 513) (by decide +kernel), List.mem_of_getElem? (i := 514) (by decide +kernel)⟩
theorem lw_p4 : lw_okq (⟨"VacuumSequencer$SystemParser", "readOtherSide", "(I)I"⟩, 2) := ⟨⟨by decide +kernel, by decide +kernel⟩, List.mem_of_getElem? (i := 193) (by decide +kernel), List.mem_of_getElem? (i := 517) (by decide +kernel), List.mem_of_getElem? (i := 518) (by decide +kernel)⟩
theorem lw_p5 : lw_okq (⟨"VacuumSequencer$SystemParser", "readValve", "()V"⟩, 2) := ⟨⟨by decide +kernel, by decide +kernel⟩, List.mem_of_getElem? (i := 193) (by decide +kernel), List.mem_of_getElem? (i := 527) (by decide +kernel), List.mem_of_getElem? (i := 528) (by decide +kernel)⟩
theorem lw_p6 : lw_okq (⟨"VacuumSequencer$SystemParser", "readFlange", "()V"⟩, 2) := ⟨⟨by decide +kernel, by decide +kernel⟩, List.mem_of_getElem? (i := 193) (by decide +kernel), List.mem_of_getElem? (i := 535) (by decide +kernel), List.mem_of_getElem? (i := 536) (by decide +kernel)⟩
theorem lw_p7 : lw_okq (⟨"VacuumSequencer$State", "addGas", "(IJ)V"⟩, 13) := ⟨⟨by decide +kernel, by decide +kernel⟩, List.mem_of_getElem? (i := 271) (by decide +kernel), List.mem_of_getElem? (i := 555) (by decide +kernel), List.mem_of_getElem? (i := 556) (by decide +kernel)⟩
theorem lw_p8 : lw_okq (⟨"VacuumSequencer", "beginTrial", "()V"⟩, 14) := ⟨⟨by decide +kernel, by decide +kernel⟩, List.mem_of_getElem? (i := 26) (by decide +kernel), List.mem_of_getElem? (i := 575) (by decide +kernel), List.mem_of_getElem? (i := 576) (by decide +kernel)⟩
theorem lw_p9 : lw_okq (⟨"VacuumSequencer$Recipe", "readStep", "()I"⟩, 4) := ⟨⟨by decide +kernel, by decide +kernel⟩, List.mem_of_getElem? (i := 209) (by decide +kernel), List.mem_of_getElem? (i := 594) (by decide +kernel), List.mem_of_getElem? (i := 595) (by decide +kernel)⟩
theorem lw_p10 : lw_okq (⟨"VacuumSequencer$Recipe", "step", "()I"⟩, 4) := ⟨⟨by decide +kernel, by decide +kernel⟩, List.mem_of_getElem? (i := 209) (by decide +kernel), List.mem_of_getElem? (i := 598) (by decide +kernel), List.mem_of_getElem? (i := 599) (by decide +kernel)⟩
theorem lw_p11 : lw_okq (⟨"VacuumSequencer$Recipe", "execute", "(LVacuumSequencer$State;I)Z"⟩, 4) := ⟨⟨by decide +kernel, by decide +kernel⟩, List.mem_of_getElem? (i := 209) (by decide +kernel), List.mem_of_getElem? (i := 616) (by decide +kernel), List.mem_of_getElem? (i := 617) (by decide +kernel)⟩
theorem lw_p12 : lw_okq (⟨"VacuumSequencer$State", "conditionBar", "(I)I"⟩, 13) := ⟨⟨by decide +kernel, by decide +kernel⟩, List.mem_of_getElem? (i := 271) (by decide +kernel), List.mem_of_getElem? (i := 666) (by decide +kernel), List.mem_of_getElem? (i := 667) (by decide +kernel)⟩
theorem lw_p13 : lw_okq (⟨"VacuumSequencer$State", "tripValves", "()I"⟩, 13) := ⟨⟨by decide +kernel, by decide +kernel⟩, List.mem_of_getElem? (i := 271) (by decide +kernel), List.mem_of_getElem? (i := 690) (by decide +kernel), List.mem_of_getElem? (i := 691) (by decide +kernel)⟩
theorem lw_p14 : lw_okq (⟨"VacuumSequencer$State", "letGasIn", "()V"⟩, 13) := ⟨⟨by decide +kernel, by decide +kernel⟩, List.mem_of_getElem? (i := 271) (by decide +kernel), List.mem_of_getElem? (i := 695) (by decide +kernel), List.mem_of_getElem? (i := 696) (by decide +kernel)⟩
theorem lw_p15 : lw_okq (⟨"VacuumSequencer$State", "moveThroughValves", "()V"⟩, 13) := ⟨⟨by decide +kernel, by decide +kernel⟩, List.mem_of_getElem? (i := 271) (by decide +kernel), List.mem_of_getElem? (i := 700) (by decide +kernel), List.mem_of_getElem? (i := 701) (by decide +kernel)⟩
def lw_privs_1 : List (MethodName × Nat) := [(⟨"VacuumSequencer$SystemParser", "section", "()I"⟩, 2), (⟨"VacuumSequencer$SystemParser", "isFull", "(I)Z"⟩, 2), (⟨"VacuumSequencer$SystemParser", "readChamber", "()V"⟩, 2), (⟨"VacuumSequencer$SystemParser", "readPump", "()V"⟩, 2), (⟨"VacuumSequencer$SystemParser", "readOtherSide", "(I)I"⟩, 2), (⟨"VacuumSequencer$SystemParser", "readValve", "()V"⟩, 2), (⟨"VacuumSequencer$SystemParser", "readFlange", "()V"⟩, 2), (⟨"VacuumSequencer$State", "addGas", "(IJ)V"⟩, 13), (⟨"VacuumSequencer", "beginTrial", "()V"⟩, 14), (⟨"VacuumSequencer$Recipe", "readStep", "()I"⟩, 4), (⟨"VacuumSequencer$Recipe", "step", "()I"⟩, 4), (⟨"VacuumSequencer$Recipe", "execute", "(LVacuumSequencer$State;I)Z"⟩, 4), (⟨"VacuumSequencer$State", "conditionBar", "(I)I"⟩, 13), (⟨"VacuumSequencer$State", "tripValves", "()I"⟩, 13), (⟨"VacuumSequencer$State", "letGasIn", "()V"⟩, 13), (⟨"VacuumSequencer$State", "moveThroughValves", "()V"⟩, 13)]
theorem lw_r1 : ∀ q ∈ lw_privs_1, lw_okq q := List.forall_mem_cons.mpr ⟨lw_p0, List.forall_mem_cons.mpr ⟨lw_p1, List.forall_mem_cons.mpr ⟨lw_p2, List.forall_mem_cons.mpr ⟨lw_p3, List.forall_mem_cons.mpr ⟨lw_p4, List.forall_mem_cons.mpr ⟨lw_p5, List.forall_mem_cons.mpr ⟨lw_p6, List.forall_mem_cons.mpr ⟨lw_p7, List.forall_mem_cons.mpr ⟨lw_p8, List.forall_mem_cons.mpr ⟨lw_p9, List.forall_mem_cons.mpr ⟨lw_p10, List.forall_mem_cons.mpr ⟨lw_p11, List.forall_mem_cons.mpr ⟨lw_p12, List.forall_mem_cons.mpr ⟨lw_p13, List.forall_mem_cons.mpr ⟨lw_p14, List.forall_mem_cons.mpr ⟨lw_p15, fun _ h => absurd h List.not_mem_nil⟩⟩⟩⟩⟩⟩⟩⟩⟩⟩⟩⟩⟩⟩⟩⟩
theorem lw_p16 : lw_okq (⟨"VacuumSequencer$State", "flow", "(IJ)J"⟩, 13) := ⟨⟨by decide +kernel, by decide +kernel⟩, List.mem_of_getElem? (i := 271) (by decide +kernel), List.mem_of_getElem? (i := 704) (by decide +kernel), List.mem_of_getElem? (i := 705) (by decide +kernel)⟩
theorem lw_p17 : lw_okq (⟨"VacuumSequencer$State", "runPumps", "()I"⟩, 13) := ⟨⟨by decide +kernel, by decide +kernel⟩, List.mem_of_getElem? (i := 271) (by decide +kernel), List.mem_of_getElem? (i := 711) (by decide +kernel), List.mem_of_getElem? (i := 712) (by decide +kernel)⟩
theorem lw_p18 : lw_okq (⟨"VacuumSequencer", "keepTrial", "()V"⟩, 14) := ⟨⟨by decide +kernel, by decide +kernel⟩, List.mem_of_getElem? (i := 26) (by decide +kernel), List.mem_of_getElem? (i := 756) (by decide +kernel), List.mem_of_getElem? (i := 757) (by decide +kernel)⟩
theorem lw_p19 : lw_okq (⟨"VacuumSequencer$Report", "addByte", "(I)V"⟩, 2) := ⟨⟨by decide +kernel, by decide +kernel⟩, List.mem_of_getElem? (i := 255) (by decide +kernel), List.mem_of_getElem? (i := 777) (by decide +kernel), List.mem_of_getElem? (i := 778) (by decide +kernel)⟩
theorem lw_p20 : lw_okq (⟨"java/lang/Throwable", "fillInStackTrace", "(I)Ljava/lang/Throwable;"⟩, 6) := ⟨⟨by decide +kernel, by decide +kernel⟩, List.mem_of_getElem? (i := 855) (by decide +kernel), List.mem_of_getElem? (i := 853) (by decide +kernel), List.mem_of_getElem? (i := 854) (by decide +kernel)⟩
theorem lw_p21 : lw_okq (⟨"VacuumSequencer", "changeLeak", "(II)I"⟩, 14) := ⟨⟨by decide +kernel, by decide +kernel⟩, List.mem_of_getElem? (i := 26) (by decide +kernel), List.mem_of_getElem? (i := 987) (by decide +kernel), List.mem_of_getElem? (i := 988) (by decide +kernel)⟩
theorem lw_p22 : lw_okq (⟨"VacuumSequencer$TestLog", "slot", "(I)I"⟩, 4) := ⟨⟨by decide +kernel, by decide +kernel⟩, List.mem_of_getElem? (i := 277) (by decide +kernel), List.mem_of_getElem? (i := 1082) (by decide +kernel), List.mem_of_getElem? (i := 1083) (by decide +kernel)⟩
theorem lw_p23 : lw_okq (⟨"VacuumSequencer$Hunt", "collect", "(LVacuumSequencer$Layout;I)I"⟩, 6) := ⟨⟨by decide +kernel, by decide +kernel⟩, List.mem_of_getElem? (i := 228) (by decide +kernel), List.mem_of_getElem? (i := 1266) (by decide +kernel), List.mem_of_getElem? (i := 1267) (by decide +kernel)⟩
theorem lw_p24 : lw_okq (⟨"VacuumSequencer$Hunt", "addGroup", "(II)V"⟩, 6) := ⟨⟨by decide +kernel, by decide +kernel⟩, List.mem_of_getElem? (i := 228) (by decide +kernel), List.mem_of_getElem? (i := 1270) (by decide +kernel), List.mem_of_getElem? (i := 1271) (by decide +kernel)⟩
theorem lw_p25 : lw_okq (⟨"VacuumSequencer$Hunt", "sumOf", "([II)I"⟩, 6) := ⟨⟨by decide +kernel, by decide +kernel⟩, List.mem_of_getElem? (i := 228) (by decide +kernel), List.mem_of_getElem? (i := 1274) (by decide +kernel), List.mem_of_getElem? (i := 1275) (by decide +kernel)⟩
theorem lw_p26 : lw_okq (⟨"VacuumSequencerModel", "no", "(I)I"⟩, 20) := ⟨⟨by decide +kernel, by decide +kernel⟩, List.mem_of_getElem? (i := 1306) (by decide +kernel), List.mem_of_getElem? (i := 1381) (by decide +kernel), List.mem_of_getElem? (i := 1382) (by decide +kernel)⟩
theorem lw_p27 : lw_okq (⟨"VacuumSequencerModel", "isValve", "(I)Z"⟩, 20) := ⟨⟨by decide +kernel, by decide +kernel⟩, List.mem_of_getElem? (i := 1306) (by decide +kernel), List.mem_of_getElem? (i := 1393) (by decide +kernel), List.mem_of_getElem? (i := 1394) (by decide +kernel)⟩
theorem lw_p28 : lw_okq (⟨"VacuumSequencerModel", "fails", "(ZI)Z"⟩, 20) := ⟨⟨by decide +kernel, by decide +kernel⟩, List.mem_of_getElem? (i := 1306) (by decide +kernel), List.mem_of_getElem? (i := 1400) (by decide +kernel), List.mem_of_getElem? (i := 1401) (by decide +kernel)⟩
theorem lw_p29 : lw_okq (⟨"VacuumSequencerModel", "canOpen", "(I)Z"⟩, 20) := ⟨⟨by decide +kernel, by decide +kernel⟩, List.mem_of_getElem? (i := 1306) (by decide +kernel), List.mem_of_getElem? (i := 1404) (by decide +kernel), List.mem_of_getElem? (i := 1405) (by decide +kernel)⟩
theorem lw_p30 : lw_okq (⟨"VacuumSequencerModel", "isOpen", "(I)Z"⟩, 20) := ⟨⟨by decide +kernel, by decide +kernel⟩, List.mem_of_getElem? (i := 1306) (by decide +kernel), List.mem_of_getElem? (i := 1408) (by decide +kernel), List.mem_of_getElem? (i := 1409) (by decide +kernel)⟩
theorem lw_p31 : lw_okq (⟨"VacuumSequencerModel", "ofValve", "(II)I"⟩, 20) := ⟨⟨by decide +kernel, by decide +kernel⟩, List.mem_of_getElem? (i := 1306) (by decide +kernel), List.mem_of_getElem? (i := 1412) (by decide +kernel), List.mem_of_getElem? (i := 1413) (by decide +kernel)⟩
def lw_privs_2 : List (MethodName × Nat) := [(⟨"VacuumSequencer$State", "flow", "(IJ)J"⟩, 13), (⟨"VacuumSequencer$State", "runPumps", "()I"⟩, 13), (⟨"VacuumSequencer", "keepTrial", "()V"⟩, 14), (⟨"VacuumSequencer$Report", "addByte", "(I)V"⟩, 2), (⟨"java/lang/Throwable", "fillInStackTrace", "(I)Ljava/lang/Throwable;"⟩, 6), (⟨"VacuumSequencer", "changeLeak", "(II)I"⟩, 14), (⟨"VacuumSequencer$TestLog", "slot", "(I)I"⟩, 4), (⟨"VacuumSequencer$Hunt", "collect", "(LVacuumSequencer$Layout;I)I"⟩, 6), (⟨"VacuumSequencer$Hunt", "addGroup", "(II)V"⟩, 6), (⟨"VacuumSequencer$Hunt", "sumOf", "([II)I"⟩, 6), (⟨"VacuumSequencerModel", "no", "(I)I"⟩, 20), (⟨"VacuumSequencerModel", "isValve", "(I)Z"⟩, 20), (⟨"VacuumSequencerModel", "fails", "(ZI)Z"⟩, 20), (⟨"VacuumSequencerModel", "canOpen", "(I)Z"⟩, 20), (⟨"VacuumSequencerModel", "isOpen", "(I)Z"⟩, 20), (⟨"VacuumSequencerModel", "ofValve", "(II)I"⟩, 20)]
theorem lw_r2 : ∀ q ∈ lw_privs_2, lw_okq q := List.forall_mem_cons.mpr ⟨lw_p16, List.forall_mem_cons.mpr ⟨lw_p17, List.forall_mem_cons.mpr ⟨lw_p18, List.forall_mem_cons.mpr ⟨lw_p19, List.forall_mem_cons.mpr ⟨lw_p20, List.forall_mem_cons.mpr ⟨lw_p21, List.forall_mem_cons.mpr ⟨lw_p22, List.forall_mem_cons.mpr ⟨lw_p23, List.forall_mem_cons.mpr ⟨lw_p24, List.forall_mem_cons.mpr ⟨lw_p25, List.forall_mem_cons.mpr ⟨lw_p26, List.forall_mem_cons.mpr ⟨lw_p27, List.forall_mem_cons.mpr ⟨lw_p28, List.forall_mem_cons.mpr ⟨lw_p29, List.forall_mem_cons.mpr ⟨lw_p30, List.forall_mem_cons.mpr ⟨lw_p31, fun _ h => absurd h List.not_mem_nil⟩⟩⟩⟩⟩⟩⟩⟩⟩⟩⟩⟩⟩⟩⟩⟩
theorem lw_p32 : lw_okq (⟨"VacuumSequencerModel", "mayJoin", "(I)Z"⟩, 20) := ⟨⟨by decide +kernel, by decide +kernel⟩, List.mem_of_getElem? (i := 1306) (by decide +kernel), List.mem_of_getElem? (i := 1419) (by decide +kernel), List.mem_of_getElem? (i := 1420) (by decide +kernel)⟩
theorem lw_p33 : lw_okq (⟨"VacuumSequencerModel", "difference", "(I)J"⟩, 20) := ⟨⟨by decide +kernel, by decide +kernel⟩, List.mem_of_getElem? (i := 1306) (by decide +kernel), List.mem_of_getElem? (i := 1423) (by decide +kernel), List.mem_of_getElem? (i := 1424) (by decide +kernel)⟩
theorem lw_p34 : lw_okq (⟨"VacuumSequencerModel", "pressure", "(I)J"⟩, 20) := ⟨⟨by decide +kernel, by decide +kernel⟩, List.mem_of_getElem? (i := 1306) (by decide +kernel), List.mem_of_getElem? (i := 1427) (by decide +kernel), List.mem_of_getElem? (i := 1428) (by decide +kernel)⟩
theorem lw_p35 : lw_okq (⟨"VacuumSequencerModel", "volume", "(I)J"⟩, 20) := ⟨⟨by decide +kernel, by decide +kernel⟩, List.mem_of_getElem? (i := 1306) (by decide +kernel), List.mem_of_getElem? (i := 1435) (by decide +kernel), List.mem_of_getElem? (i := 1436) (by decide +kernel)⟩
theorem lw_p36 : lw_okq (⟨"VacuumSequencerModel", "remember", "()V"⟩, 20) := ⟨⟨by decide +kernel, by decide +kernel⟩, List.mem_of_getElem? (i := 1306) (by decide +kernel), List.mem_of_getElem? (i := 1442) (by decide +kernel), List.mem_of_getElem? (i := 1443) (by decide +kernel)⟩
theorem lw_p37 : lw_okq (⟨"VacuumSequencerModel", "push", "()V"⟩, 20) := ⟨⟨by decide +kernel, by decide +kernel⟩, List.mem_of_getElem? (i := 1306) (by decide +kernel), List.mem_of_getElem? (i := 1449) (by decide +kernel), List.mem_of_getElem? (i := 1450) (by decide +kernel)⟩
theorem lw_p38 : lw_okq (⟨"VacuumSequencerModel", "turn", "(II)I"⟩, 20) := ⟨⟨by decide +kernel, by decide +kernel⟩, List.mem_of_getElem? (i := 1306) (by decide +kernel), List.mem_of_getElem? (i := 1453) (by decide +kernel), List.mem_of_getElem? (i := 1454) (by decide +kernel)⟩
theorem lw_p39 : lw_okq (⟨"VacuumSequencerModel", "isPump", "(I)Z"⟩, 20) := ⟨⟨by decide +kernel, by decide +kernel⟩, List.mem_of_getElem? (i := 1306) (by decide +kernel), List.mem_of_getElem? (i := 1465) (by decide +kernel), List.mem_of_getElem? (i := 1466) (by decide +kernel)⟩
theorem lw_p40 : lw_okq (⟨"VacuumSequencerModel", "canStart", "(I)Z"⟩, 20) := ⟨⟨by decide +kernel, by decide +kernel⟩, List.mem_of_getElem? (i := 1306) (by decide +kernel), List.mem_of_getElem? (i := 1469) (by decide +kernel), List.mem_of_getElem? (i := 1470) (by decide +kernel)⟩
theorem lw_p41 : lw_okq (⟨"VacuumSequencerModel", "isRunning", "(I)Z"⟩, 20) := ⟨⟨by decide +kernel, by decide +kernel⟩, List.mem_of_getElem? (i := 1306) (by decide +kernel), List.mem_of_getElem? (i := 1473) (by decide +kernel), List.mem_of_getElem? (i := 1474) (by decide +kernel)⟩
theorem lw_p42 : lw_okq (⟨"VacuumSequencerModel", "ofPump", "(II)I"⟩, 20) := ⟨⟨by decide +kernel, by decide +kernel⟩, List.mem_of_getElem? (i := 1306) (by decide +kernel), List.mem_of_getElem? (i := 1477) (by decide +kernel), List.mem_of_getElem? (i := 1478) (by decide +kernel)⟩
theorem lw_p43 : lw_okq (⟨"VacuumSequencerModel", "isLowEnough", "(I)Z"⟩, 20) := ⟨⟨by decide +kernel, by decide +kernel⟩, List.mem_of_getElem? (i := 1306) (by decide +kernel), List.mem_of_getElem? (i := 1484) (by decide +kernel), List.mem_of_getElem? (i := 1485) (by decide +kernel)⟩
theorem lw_p44 : lw_okq (⟨"VacuumSequencerModel", "isBacked", "(I)Z"⟩, 20) := ⟨⟨by decide +kernel, by decide +kernel⟩, List.mem_of_getElem? (i := 1306) (by decide +kernel), List.mem_of_getElem? (i := 1488) (by decide +kernel), List.mem_of_getElem? (i := 1489) (by decide +kernel)⟩
theorem lw_p45 : lw_okq (⟨"VacuumSequencerModel", "run", "(II)I"⟩, 20) := ⟨⟨by decide +kernel, by decide +kernel⟩, List.mem_of_getElem? (i := 1306) (by decide +kernel), List.mem_of_getElem? (i := 1492) (by decide +kernel), List.mem_of_getElem? (i := 1493) (by decide +kernel)⟩
theorem lw_p46 : lw_okq (⟨"VacuumSequencerModel", "passNow", "(I)I"⟩, 20) := ⟨⟨by decide +kernel, by decide +kernel⟩, List.mem_of_getElem? (i := 1306) (by decide +kernel), List.mem_of_getElem? (i := 1508) (by decide +kernel), List.mem_of_getElem? (i := 1509) (by decide +kernel)⟩
theorem lw_p47 : lw_okq (⟨"VacuumSequencerModel", "trips", "()I"⟩, 20) := ⟨⟨by decide +kernel, by decide +kernel⟩, List.mem_of_getElem? (i := 1306) (by decide +kernel), List.mem_of_getElem? (i := 1512) (by decide +kernel), List.mem_of_getElem? (i := 1513) (by decide +kernel)⟩
def lw_privs_3 : List (MethodName × Nat) := [(⟨"VacuumSequencerModel", "mayJoin", "(I)Z"⟩, 20), (⟨"VacuumSequencerModel", "difference", "(I)J"⟩, 20), (⟨"VacuumSequencerModel", "pressure", "(I)J"⟩, 20), (⟨"VacuumSequencerModel", "volume", "(I)J"⟩, 20), (⟨"VacuumSequencerModel", "remember", "()V"⟩, 20), (⟨"VacuumSequencerModel", "push", "()V"⟩, 20), (⟨"VacuumSequencerModel", "turn", "(II)I"⟩, 20), (⟨"VacuumSequencerModel", "isPump", "(I)Z"⟩, 20), (⟨"VacuumSequencerModel", "canStart", "(I)Z"⟩, 20), (⟨"VacuumSequencerModel", "isRunning", "(I)Z"⟩, 20), (⟨"VacuumSequencerModel", "ofPump", "(II)I"⟩, 20), (⟨"VacuumSequencerModel", "isLowEnough", "(I)Z"⟩, 20), (⟨"VacuumSequencerModel", "isBacked", "(I)Z"⟩, 20), (⟨"VacuumSequencerModel", "run", "(II)I"⟩, 20), (⟨"VacuumSequencerModel", "passNow", "(I)I"⟩, 20), (⟨"VacuumSequencerModel", "trips", "()I"⟩, 20)]
theorem lw_r3 : ∀ q ∈ lw_privs_3, lw_okq q := List.forall_mem_cons.mpr ⟨lw_p32, List.forall_mem_cons.mpr ⟨lw_p33, List.forall_mem_cons.mpr ⟨lw_p34, List.forall_mem_cons.mpr ⟨lw_p35, List.forall_mem_cons.mpr ⟨lw_p36, List.forall_mem_cons.mpr ⟨lw_p37, List.forall_mem_cons.mpr ⟨lw_p38, List.forall_mem_cons.mpr ⟨lw_p39, List.forall_mem_cons.mpr ⟨lw_p40, List.forall_mem_cons.mpr ⟨lw_p41, List.forall_mem_cons.mpr ⟨lw_p42, List.forall_mem_cons.mpr ⟨lw_p43, List.forall_mem_cons.mpr ⟨lw_p44, List.forall_mem_cons.mpr ⟨lw_p45, List.forall_mem_cons.mpr ⟨lw_p46, List.forall_mem_cons.mpr ⟨lw_p47, fun _ h => absurd h List.not_mem_nil⟩⟩⟩⟩⟩⟩⟩⟩⟩⟩⟩⟩⟩⟩⟩⟩
theorem lw_p48 : lw_okq (⟨"VacuumSequencerModel", "tick", "()V"⟩, 20) := ⟨⟨by decide +kernel, by decide +kernel⟩, List.mem_of_getElem? (i := 1306) (by decide +kernel), List.mem_of_getElem? (i := 1516) (by decide +kernel), List.mem_of_getElem? (i := 1517) (by decide +kernel)⟩
theorem lw_p49 : lw_okq (⟨"VacuumSequencerModel", "tripValves", "()V"⟩, 20) := ⟨⟨by decide +kernel, by decide +kernel⟩, List.mem_of_getElem? (i := 1306) (by decide +kernel), List.mem_of_getElem? (i := 1520) (by decide +kernel), List.mem_of_getElem? (i := 1521) (by decide +kernel)⟩
theorem lw_p50 : lw_okq (⟨"VacuumSequencerModel", "many", "(I)I"⟩, 20) := ⟨⟨by decide +kernel, by decide +kernel⟩, List.mem_of_getElem? (i := 1306) (by decide +kernel), List.mem_of_getElem? (i := 1524) (by decide +kernel), List.mem_of_getElem? (i := 1525) (by decide +kernel)⟩
theorem lw_p51 : lw_okq (⟨"VacuumSequencerModel", "getGas", "()V"⟩, 20) := ⟨⟨by decide +kernel, by decide +kernel⟩, List.mem_of_getElem? (i := 1306) (by decide +kernel), List.mem_of_getElem? (i := 1528) (by decide +kernel), List.mem_of_getElem? (i := 1529) (by decide +kernel)⟩
theorem lw_p52 : lw_okq (⟨"VacuumSequencerModel", "leaks", "(I)J"⟩, 20) := ⟨⟨by decide +kernel, by decide +kernel⟩, List.mem_of_getElem? (i := 1306) (by decide +kernel), List.mem_of_getElem? (i := 1533) (by decide +kernel), List.mem_of_getElem? (i := 1534) (by decide +kernel)⟩
theorem lw_p53 : lw_okq (⟨"VacuumSequencerModel", "flowThrough", "(I)V"⟩, 20) := ⟨⟨by decide +kernel, by decide +kernel⟩, List.mem_of_getElem? (i := 1306) (by decide +kernel), List.mem_of_getElem? (i := 1540) (by decide +kernel), List.mem_of_getElem? (i := 1541) (by decide +kernel)⟩
theorem lw_p54 : lw_okq (⟨"VacuumSequencerModel", "give", "(IJ)V"⟩, 20) := ⟨⟨by decide +kernel, by decide +kernel⟩, List.mem_of_getElem? (i := 1306) (by decide +kernel), List.mem_of_getElem? (i := 1545) (by decide +kernel), List.mem_of_getElem? (i := 1546) (by decide +kernel)⟩
theorem lw_p55 : lw_okq (⟨"VacuumSequencerModel", "pumpOut", "(I)V"⟩, 20) := ⟨⟨by decide +kernel, by decide +kernel⟩, List.mem_of_getElem? (i := 1306) (by decide +kernel), List.mem_of_getElem? (i := 1549) (by decide +kernel), List.mem_of_getElem? (i := 1550) (by decide +kernel)⟩
theorem lw_p56 : lw_okq (⟨"VacuumSequencerModel", "isChamber", "(I)Z"⟩, 20) := ⟨⟨by decide +kernel, by decide +kernel⟩, List.mem_of_getElem? (i := 1306) (by decide +kernel), List.mem_of_getElem? (i := 1557) (by decide +kernel), List.mem_of_getElem? (i := 1558) (by decide +kernel)⟩
theorem lw_p57 : lw_okq (⟨"VacuumSequencerModel", "goDown", "(II)I"⟩, 20) := ⟨⟨by decide +kernel, by decide +kernel⟩, List.mem_of_getElem? (i := 1306) (by decide +kernel), List.mem_of_getElem? (i := 1564) (by decide +kernel), List.mem_of_getElem? (i := 1565) (by decide +kernel)⟩
theorem lw_p58 : lw_okq (⟨"VacuumSequencerModel", "isFlange", "(I)Z"⟩, 20) := ⟨⟨by decide +kernel, by decide +kernel⟩, List.mem_of_getElem? (i := 1306) (by decide +kernel), List.mem_of_getElem? (i := 1572) (by decide +kernel), List.mem_of_getElem? (i := 1573) (by decide +kernel)⟩
theorem lw_p59 : lw_okq (⟨"VacuumSequencerModel", "sets", "(II)I"⟩, 20) := ⟨⟨by decide +kernel, by decide +kernel⟩, List.mem_of_getElem? (i := 1306) (by decide +kernel), List.mem_of_getElem? (i := 1576) (by decide +kernel), List.mem_of_getElem? (i := 1577) (by decide +kernel)⟩
theorem lw_p60 : lw_okq (⟨"VacuumSequencerModel", "setNow", "(II)I"⟩, 20) := ⟨⟨by decide +kernel, by decide +kernel⟩, List.mem_of_getElem? (i := 1306) (by decide +kernel), List.mem_of_getElem? (i := 1580) (by decide +kernel), List.mem_of_getElem? (i := 1581) (by decide +kernel)⟩
theorem lw_p61 : lw_okq (⟨"VacuumSequencerModel", "isAlone", "(I)Z"⟩, 20) := ⟨⟨by decide +kernel, by decide +kernel⟩, List.mem_of_getElem? (i := 1306) (by decide +kernel), List.mem_of_getElem? (i := 1606) (by decide +kernel), List.mem_of_getElem? (i := 1607) (by decide +kernel)⟩
theorem lw_p62 : lw_okq (⟨"VacuumSequencerModel", "testNow", "(II)I"⟩, 20) := ⟨⟨by decide +kernel, by decide +kernel⟩, List.mem_of_getElem? (i := 1306) (by decide +kernel), List.mem_of_getElem? (i := 1610) (by decide +kernel), List.mem_of_getElem? (i := 1611) (by decide +kernel)⟩
theorem lw_p63 : lw_okq (⟨"VacuumSequencerModel", "riseIn", "(II)J"⟩, 20) := ⟨⟨by decide +kernel, by decide +kernel⟩, List.mem_of_getElem? (i := 1306) (by decide +kernel), List.mem_of_getElem? (i := 1614) (by decide +kernel), List.mem_of_getElem? (i := 1615) (by decide +kernel)⟩
def lw_privs_4 : List (MethodName × Nat) := [(⟨"VacuumSequencerModel", "tick", "()V"⟩, 20), (⟨"VacuumSequencerModel", "tripValves", "()V"⟩, 20), (⟨"VacuumSequencerModel", "many", "(I)I"⟩, 20), (⟨"VacuumSequencerModel", "getGas", "()V"⟩, 20), (⟨"VacuumSequencerModel", "leaks", "(I)J"⟩, 20), (⟨"VacuumSequencerModel", "flowThrough", "(I)V"⟩, 20), (⟨"VacuumSequencerModel", "give", "(IJ)V"⟩, 20), (⟨"VacuumSequencerModel", "pumpOut", "(I)V"⟩, 20), (⟨"VacuumSequencerModel", "isChamber", "(I)Z"⟩, 20), (⟨"VacuumSequencerModel", "goDown", "(II)I"⟩, 20), (⟨"VacuumSequencerModel", "isFlange", "(I)Z"⟩, 20), (⟨"VacuumSequencerModel", "sets", "(II)I"⟩, 20), (⟨"VacuumSequencerModel", "setNow", "(II)I"⟩, 20), (⟨"VacuumSequencerModel", "isAlone", "(I)Z"⟩, 20), (⟨"VacuumSequencerModel", "testNow", "(II)I"⟩, 20), (⟨"VacuumSequencerModel", "riseIn", "(II)J"⟩, 20)]
theorem lw_r4 : ∀ q ∈ lw_privs_4, lw_okq q := List.forall_mem_cons.mpr ⟨lw_p48, List.forall_mem_cons.mpr ⟨lw_p49, List.forall_mem_cons.mpr ⟨lw_p50, List.forall_mem_cons.mpr ⟨lw_p51, List.forall_mem_cons.mpr ⟨lw_p52, List.forall_mem_cons.mpr ⟨lw_p53, List.forall_mem_cons.mpr ⟨lw_p54, List.forall_mem_cons.mpr ⟨lw_p55, List.forall_mem_cons.mpr ⟨lw_p56, List.forall_mem_cons.mpr ⟨lw_p57, List.forall_mem_cons.mpr ⟨lw_p58, List.forall_mem_cons.mpr ⟨lw_p59, List.forall_mem_cons.mpr ⟨lw_p60, List.forall_mem_cons.mpr ⟨lw_p61, List.forall_mem_cons.mpr ⟨lw_p62, List.forall_mem_cons.mpr ⟨lw_p63, fun _ h => absurd h List.not_mem_nil⟩⟩⟩⟩⟩⟩⟩⟩⟩⟩⟩⟩⟩⟩⟩⟩
theorem lw_p64 : lw_okq (⟨"VacuumSequencerModel", "bring", "(I)V"⟩, 20) := ⟨⟨by decide +kernel, by decide +kernel⟩, List.mem_of_getElem? (i := 1306) (by decide +kernel), List.mem_of_getElem? (i := 1627) (by decide +kernel), List.mem_of_getElem? (i := 1628) (by decide +kernel)⟩
theorem lw_p65 : lw_okq (⟨"VacuumSequencerModel", "begin", "()V"⟩, 20) := ⟨⟨by decide +kernel, by decide +kernel⟩, List.mem_of_getElem? (i := 1306) (by decide +kernel), List.mem_of_getElem? (i := 1639) (by decide +kernel), List.mem_of_getElem? (i := 1640) (by decide +kernel)⟩
theorem lw_p66 : lw_okq (⟨"VacuumSequencerModel", "next", "()V"⟩, 20) := ⟨⟨by decide +kernel, by decide +kernel⟩, List.mem_of_getElem? (i := 1306) (by decide +kernel), List.mem_of_getElem? (i := 1643) (by decide +kernel), List.mem_of_getElem? (i := 1644) (by decide +kernel)⟩
theorem lw_p67 : lw_okq (⟨"VacuumSequencerModel", "byteAt", "(I)I"⟩, 20) := ⟨⟨by decide +kernel, by decide +kernel⟩, List.mem_of_getElem? (i := 1306) (by decide +kernel), List.mem_of_getElem? (i := 1647) (by decide +kernel), List.mem_of_getElem? (i := 1648) (by decide +kernel)⟩
theorem lw_p68 : lw_okq (⟨"VacuumSequencerModel", "isLetterAt", "(I)Z"⟩, 20) := ⟨⟨by decide +kernel, by decide +kernel⟩, List.mem_of_getElem? (i := 1306) (by decide +kernel), List.mem_of_getElem? (i := 1651) (by decide +kernel), List.mem_of_getElem? (i := 1652) (by decide +kernel)⟩
theorem lw_p69 : lw_okq (⟨"VacuumSequencerModel", "isDigitAt", "(I)Z"⟩, 20) := ⟨⟨by decide +kernel, by decide +kernel⟩, List.mem_of_getElem? (i := 1306) (by decide +kernel), List.mem_of_getElem? (i := 1657) (by decide +kernel), List.mem_of_getElem? (i := 1658) (by decide +kernel)⟩
theorem lw_p70 : lw_okq (⟨"VacuumSequencerModel", "readChamber", "()V"⟩, 20) := ⟨⟨by decide +kernel, by decide +kernel⟩, List.mem_of_getElem? (i := 1306) (by decide +kernel), List.mem_of_getElem? (i := 1663) (by decide +kernel), List.mem_of_getElem? (i := 1664) (by decide +kernel)⟩
theorem lw_p71 : lw_okq (⟨"VacuumSequencerModel", "keyword", "(Ljava/lang/String;II)V"⟩, 20) := ⟨⟨by decide +kernel, by decide +kernel⟩, List.mem_of_getElem? (i := 1306) (by decide +kernel), List.mem_of_getElem? (i := 1668) (by decide +kernel), List.mem_of_getElem? (i := 1669) (by decide +kernel)⟩
theorem lw_p72 : lw_okq (⟨"VacuumSequencerModel", "isWord", "(Ljava/lang/String;)Z"⟩, 20) := ⟨⟨by decide +kernel, by decide +kernel⟩, List.mem_of_getElem? (i := 1306) (by decide +kernel), List.mem_of_getElem? (i := 1672) (by decide +kernel), List.mem_of_getElem? (i := 1673) (by decide +kernel)⟩
theorem lw_p73 : lw_okq (⟨"VacuumSequencerModel", "wrong", "(I)V"⟩, 20) := ⟨⟨by decide +kernel, by decide +kernel⟩, List.mem_of_getElem? (i := 1306) (by decide +kernel), List.mem_of_getElem? (i := 1678) (by decide +kernel), List.mem_of_getElem? (i := 1679) (by decide +kernel)⟩
theorem lw_p74 : lw_okq (⟨"VacuumSequencerModel", "goOn", "()V"⟩, 20) := ⟨⟨by decide +kernel, by decide +kernel⟩, List.mem_of_getElem? (i := 1306) (by decide +kernel), List.mem_of_getElem? (i := 1682) (by decide +kernel), List.mem_of_getElem? (i := 1683) (by decide +kernel)⟩
theorem lw_p75 : lw_okq (⟨"VacuumSequencerModel", "number", "(JJ)I"⟩, 20) := ⟨⟨by decide +kernel, by decide +kernel⟩, List.mem_of_getElem? (i := 1306) (by decide +kernel), List.mem_of_getElem? (i := 1686) (by decide +kernel), List.mem_of_getElem? (i := 1687) (by decide +kernel)⟩
theorem lw_p76 : lw_okq (⟨"VacuumSequencerModel", "see", "(JJ)I"⟩, 20) := ⟨⟨by decide +kernel, by decide +kernel⟩, List.mem_of_getElem? (i := 1306) (by decide +kernel), List.mem_of_getElem? (i := 1690) (by decide +kernel), List.mem_of_getElem? (i := 1691) (by decide +kernel)⟩
theorem lw_p77 : lw_okq (⟨"VacuumSequencerModel", "must", "(Ljava/lang/String;)V"⟩, 20) := ⟨⟨by decide +kernel, by decide +kernel⟩, List.mem_of_getElem? (i := 1306) (by decide +kernel), List.mem_of_getElem? (i := 1695) (by decide +kernel), List.mem_of_getElem? (i := 1696) (by decide +kernel)⟩
theorem lw_p78 : lw_okq (⟨"VacuumSequencerModel", "readPump", "()V"⟩, 20) := ⟨⟨by decide +kernel, by decide +kernel⟩, List.mem_of_getElem? (i := 1306) (by decide +kernel), List.mem_of_getElem? (i := 1700) (by decide +kernel), List.mem_of_getElem? (i := 1701) (by decide +kernel)⟩
theorem lw_p79 : lw_okq (⟨"VacuumSequencerModel", "chamberHere", "()I"⟩, 20) := ⟨⟨by decide +kernel, by decide +kernel⟩, List.mem_of_getElem? (i := 1306) (by decide +kernel), List.mem_of_getElem? (i := 1704) (by decide +kernel), List.mem_of_getElem? (i := 1705) (by decide +kernel)⟩
def lw_privs_5 : List (MethodName × Nat) := [(⟨"VacuumSequencerModel", "bring", "(I)V"⟩, 20), (⟨"VacuumSequencerModel", "begin", "()V"⟩, 20), (⟨"VacuumSequencerModel", "next", "()V"⟩, 20), (⟨"VacuumSequencerModel", "byteAt", "(I)I"⟩, 20), (⟨"VacuumSequencerModel", "isLetterAt", "(I)Z"⟩, 20), (⟨"VacuumSequencerModel", "isDigitAt", "(I)Z"⟩, 20), (⟨"VacuumSequencerModel", "readChamber", "()V"⟩, 20), (⟨"VacuumSequencerModel", "keyword", "(Ljava/lang/String;II)V"⟩, 20), (⟨"VacuumSequencerModel", "isWord", "(Ljava/lang/String;)Z"⟩, 20), (⟨"VacuumSequencerModel", "wrong", "(I)V"⟩, 20), (⟨"VacuumSequencerModel", "goOn", "()V"⟩, 20), (⟨"VacuumSequencerModel", "number", "(JJ)I"⟩, 20), (⟨"VacuumSequencerModel", "see", "(JJ)I"⟩, 20), (⟨"VacuumSequencerModel", "must", "(Ljava/lang/String;)V"⟩, 20), (⟨"VacuumSequencerModel", "readPump", "()V"⟩, 20), (⟨"VacuumSequencerModel", "chamberHere", "()I"⟩, 20)]
theorem lw_r5 : ∀ q ∈ lw_privs_5, lw_okq q := List.forall_mem_cons.mpr ⟨lw_p64, List.forall_mem_cons.mpr ⟨lw_p65, List.forall_mem_cons.mpr ⟨lw_p66, List.forall_mem_cons.mpr ⟨lw_p67, List.forall_mem_cons.mpr ⟨lw_p68, List.forall_mem_cons.mpr ⟨lw_p69, List.forall_mem_cons.mpr ⟨lw_p70, List.forall_mem_cons.mpr ⟨lw_p71, List.forall_mem_cons.mpr ⟨lw_p72, List.forall_mem_cons.mpr ⟨lw_p73, List.forall_mem_cons.mpr ⟨lw_p74, List.forall_mem_cons.mpr ⟨lw_p75, List.forall_mem_cons.mpr ⟨lw_p76, List.forall_mem_cons.mpr ⟨lw_p77, List.forall_mem_cons.mpr ⟨lw_p78, List.forall_mem_cons.mpr ⟨lw_p79, fun _ h => absurd h List.not_mem_nil⟩⟩⟩⟩⟩⟩⟩⟩⟩⟩⟩⟩⟩⟩⟩⟩
theorem lw_p80 : lw_okq (⟨"VacuumSequencerModel", "otherHere", "(I)I"⟩, 20) := ⟨⟨by decide +kernel, by decide +kernel⟩, List.mem_of_getElem? (i := 1306) (by decide +kernel), List.mem_of_getElem? (i := 1708) (by decide +kernel), List.mem_of_getElem? (i := 1709) (by decide +kernel)⟩
theorem lw_p81 : lw_okq (⟨"VacuumSequencerModel", "readValve", "()V"⟩, 20) := ⟨⟨by decide +kernel, by decide +kernel⟩, List.mem_of_getElem? (i := 1306) (by decide +kernel), List.mem_of_getElem? (i := 1714) (by decide +kernel), List.mem_of_getElem? (i := 1715) (by decide +kernel)⟩
theorem lw_p82 : lw_okq (⟨"VacuumSequencerModel", "readFlange", "()V"⟩, 20) := ⟨⟨by decide +kernel, by decide +kernel⟩, List.mem_of_getElem? (i := 1306) (by decide +kernel), List.mem_of_getElem? (i := 1718) (by decide +kernel), List.mem_of_getElem? (i := 1719) (by decide +kernel)⟩
theorem lw_p83 : lw_okq (⟨"VacuumSequencerModel", "goesThrough", "()V"⟩, 20) := ⟨⟨by decide +kernel, by decide +kernel⟩, List.mem_of_getElem? (i := 1306) (by decide +kernel), List.mem_of_getElem? (i := 1735) (by decide +kernel), List.mem_of_getElem? (i := 1736) (by decide +kernel)⟩
theorem lw_p84 : lw_okq (⟨"VacuumSequencerModel", "operation", "()I"⟩, 20) := ⟨⟨by decide +kernel, by decide +kernel⟩, List.mem_of_getElem? (i := 1306) (by decide +kernel), List.mem_of_getElem? (i := 1739) (by decide +kernel), List.mem_of_getElem? (i := 1740) (by decide +kernel)⟩
theorem lw_p85 : lw_okq (⟨"VacuumSequencerModel", "does", "(I)Z"⟩, 20) := ⟨⟨by decide +kernel, by decide +kernel⟩, List.mem_of_getElem? (i := 1306) (by decide +kernel), List.mem_of_getElem? (i := 1752) (by decide +kernel), List.mem_of_getElem? (i := 1753) (by decide +kernel)⟩
theorem lw_p86 : lw_okq (⟨"VacuumSequencerModel", "valvesOf", "(I)I"⟩, 20) := ⟨⟨by decide +kernel, by decide +kernel⟩, List.mem_of_getElem? (i := 1306) (by decide +kernel), List.mem_of_getElem? (i := 1766) (by decide +kernel), List.mem_of_getElem? (i := 1767) (by decide +kernel)⟩
theorem lw_p87 : lw_okq (⟨"VacuumSequencerModel", "pumpsOf", "(I)I"⟩, 20) := ⟨⟨by decide +kernel, by decide +kernel⟩, List.mem_of_getElem? (i := 1306) (by decide +kernel), List.mem_of_getElem? (i := 1770) (by decide +kernel), List.mem_of_getElem? (i := 1771) (by decide +kernel)⟩
theorem lw_p88 : lw_okq (⟨"VacuumSequencerModel", "isNoTest", "(I)Z"⟩, 20) := ⟨⟨by decide +kernel, by decide +kernel⟩, List.mem_of_getElem? (i := 1306) (by decide +kernel), List.mem_of_getElem? (i := 1794) (by decide +kernel), List.mem_of_getElem? (i := 1795) (by decide +kernel)⟩
theorem lw_p89 : lw_okq (⟨"VacuumSequencerModel", "joinedWith", "(I)I"⟩, 20) := ⟨⟨by decide +kernel, by decide +kernel⟩, List.mem_of_getElem? (i := 1306) (by decide +kernel), List.mem_of_getElem? (i := 1815) (by decide +kernel), List.mem_of_getElem? (i := 1816) (by decide +kernel)⟩
theorem lw_p90 : lw_okq (⟨"VacuumSequencerModel", "beside", "(IZ)I"⟩, 20) := ⟨⟨by decide +kernel, by decide +kernel⟩, List.mem_of_getElem? (i := 1306) (by decide +kernel), List.mem_of_getElem? (i := 1819) (by decide +kernel), List.mem_of_getElem? (i := 1820) (by decide +kernel)⟩
theorem lw_p91 : lw_okq (⟨"VacuumSequencerModel", "leadsOut", "(IZ)Z"⟩, 20) := ⟨⟨by decide +kernel, by decide +kernel⟩, List.mem_of_getElem? (i := 1306) (by decide +kernel), List.mem_of_getElem? (i := 1827) (by decide +kernel), List.mem_of_getElem? (i := 1828) (by decide +kernel)⟩
theorem lw_p92 : lw_okq (⟨"VacuumSequencerModel", "isNoLook", "(II)Z"⟩, 20) := ⟨⟨by decide +kernel, by decide +kernel⟩, List.mem_of_getElem? (i := 1306) (by decide +kernel), List.mem_of_getElem? (i := 1862) (by decide +kernel), List.mem_of_getElem? (i := 1863) (by decide +kernel)⟩
theorem lw_p93 : lw_okq (⟨"VacuumSequencerModel", "think", "()V"⟩, 20) := ⟨⟨by decide +kernel, by decide +kernel⟩, List.mem_of_getElem? (i := 1306) (by decide +kernel), List.mem_of_getElem? (i := 1866) (by decide +kernel), List.mem_of_getElem? (i := 1867) (by decide +kernel)⟩
theorem lw_p94 : lw_okq (⟨"VacuumSequencerModel", "pressureIn", "(II)J"⟩, 20) := ⟨⟨by decide +kernel, by decide +kernel⟩, List.mem_of_getElem? (i := 1306) (by decide +kernel), List.mem_of_getElem? (i := 1870) (by decide +kernel), List.mem_of_getElem? (i := 1871) (by decide +kernel)⟩
theorem lw_p95 : lw_okq (⟨"VacuumSequencerModel", "wake", "()V"⟩, 20) := ⟨⟨by decide +kernel, by decide +kernel⟩, List.mem_of_getElem? (i := 1306) (by decide +kernel), List.mem_of_getElem? (i := 1874) (by decide +kernel), List.mem_of_getElem? (i := 1875) (by decide +kernel)⟩
def lw_privs_6 : List (MethodName × Nat) := [(⟨"VacuumSequencerModel", "otherHere", "(I)I"⟩, 20), (⟨"VacuumSequencerModel", "readValve", "()V"⟩, 20), (⟨"VacuumSequencerModel", "readFlange", "()V"⟩, 20), (⟨"VacuumSequencerModel", "goesThrough", "()V"⟩, 20), (⟨"VacuumSequencerModel", "operation", "()I"⟩, 20), (⟨"VacuumSequencerModel", "does", "(I)Z"⟩, 20), (⟨"VacuumSequencerModel", "valvesOf", "(I)I"⟩, 20), (⟨"VacuumSequencerModel", "pumpsOf", "(I)I"⟩, 20), (⟨"VacuumSequencerModel", "isNoTest", "(I)Z"⟩, 20), (⟨"VacuumSequencerModel", "joinedWith", "(I)I"⟩, 20), (⟨"VacuumSequencerModel", "beside", "(IZ)I"⟩, 20), (⟨"VacuumSequencerModel", "leadsOut", "(IZ)Z"⟩, 20), (⟨"VacuumSequencerModel", "isNoLook", "(II)Z"⟩, 20), (⟨"VacuumSequencerModel", "think", "()V"⟩, 20), (⟨"VacuumSequencerModel", "pressureIn", "(II)J"⟩, 20), (⟨"VacuumSequencerModel", "wake", "()V"⟩, 20)]
theorem lw_r6 : ∀ q ∈ lw_privs_6, lw_okq q := List.forall_mem_cons.mpr ⟨lw_p80, List.forall_mem_cons.mpr ⟨lw_p81, List.forall_mem_cons.mpr ⟨lw_p82, List.forall_mem_cons.mpr ⟨lw_p83, List.forall_mem_cons.mpr ⟨lw_p84, List.forall_mem_cons.mpr ⟨lw_p85, List.forall_mem_cons.mpr ⟨lw_p86, List.forall_mem_cons.mpr ⟨lw_p87, List.forall_mem_cons.mpr ⟨lw_p88, List.forall_mem_cons.mpr ⟨lw_p89, List.forall_mem_cons.mpr ⟨lw_p90, List.forall_mem_cons.mpr ⟨lw_p91, List.forall_mem_cons.mpr ⟨lw_p92, List.forall_mem_cons.mpr ⟨lw_p93, List.forall_mem_cons.mpr ⟨lw_p94, List.forall_mem_cons.mpr ⟨lw_p95, fun _ h => absurd h List.not_mem_nil⟩⟩⟩⟩⟩⟩⟩⟩⟩⟩⟩⟩⟩⟩⟩⟩
theorem lw_p96 : lw_okq (⟨"VacuumSequencerModel", "leaksOf", "(I)J"⟩, 20) := ⟨⟨by decide +kernel, by decide +kernel⟩, List.mem_of_getElem? (i := 1306) (by decide +kernel), List.mem_of_getElem? (i := 1906) (by decide +kernel), List.mem_of_getElem? (i := 1907) (by decide +kernel)⟩
theorem lw_p97 : lw_okq (⟨"VacuumSequencerModel", "isNoHunt", "(II)Z"⟩, 20) := ⟨⟨by decide +kernel, by decide +kernel⟩, List.mem_of_getElem? (i := 1306) (by decide +kernel), List.mem_of_getElem? (i := 1914) (by decide +kernel), List.mem_of_getElem? (i := 1915) (by decide +kernel)⟩
theorem lw_p98 : lw_okq (⟨"VacuumSequencerModel", "hunt", "(II)V"⟩, 20) := ⟨⟨by decide +kernel, by decide +kernel⟩, List.mem_of_getElem? (i := 1306) (by decide +kernel), List.mem_of_getElem? (i := 1918) (by decide +kernel), List.mem_of_getElem? (i := 1919) (by decide +kernel)⟩
theorem lw_p99 : lw_okq (⟨"VacuumSequencerModel", "printChamber", "(I)V"⟩, 20) := ⟨⟨by decide +kernel, by decide +kernel⟩, List.mem_of_getElem? (i := 1306) (by decide +kernel), List.mem_of_getElem? (i := 1940) (by decide +kernel), List.mem_of_getElem? (i := 1941) (by decide +kernel)⟩
theorem lw_p100 : lw_okq (⟨"VacuumSequencerModel", "print", "(I)V"⟩, 20) := ⟨⟨by decide +kernel, by decide +kernel⟩, List.mem_of_getElem? (i := 1306) (by decide +kernel), List.mem_of_getElem? (i := 1945) (by decide +kernel), List.mem_of_getElem? (i := 1946) (by decide +kernel)⟩
theorem lw_p101 : lw_okq (⟨"VacuumSequencerModel", "printNumber", "(J)V"⟩, 20) := ⟨⟨by decide +kernel, by decide +kernel⟩, List.mem_of_getElem? (i := 1306) (by decide +kernel), List.mem_of_getElem? (i := 1949) (by decide +kernel), List.mem_of_getElem? (i := 1950) (by decide +kernel)⟩
theorem lw_p102 : lw_okq (⟨"VacuumSequencerModel", "printMark", "(CI)V"⟩, 20) := ⟨⟨by decide +kernel, by decide +kernel⟩, List.mem_of_getElem? (i := 1306) (by decide +kernel), List.mem_of_getElem? (i := 1953) (by decide +kernel), List.mem_of_getElem? (i := 1954) (by decide +kernel)⟩
def lw_privs_7 : List (MethodName × Nat) := [(⟨"VacuumSequencerModel", "leaksOf", "(I)J"⟩, 20), (⟨"VacuumSequencerModel", "isNoHunt", "(II)Z"⟩, 20), (⟨"VacuumSequencerModel", "hunt", "(II)V"⟩, 20), (⟨"VacuumSequencerModel", "printChamber", "(I)V"⟩, 20), (⟨"VacuumSequencerModel", "print", "(I)V"⟩, 20), (⟨"VacuumSequencerModel", "printNumber", "(J)V"⟩, 20), (⟨"VacuumSequencerModel", "printMark", "(CI)V"⟩, 20)]
theorem lw_r7 : ∀ q ∈ lw_privs_7, lw_okq q := List.forall_mem_cons.mpr ⟨lw_p96, List.forall_mem_cons.mpr ⟨lw_p97, List.forall_mem_cons.mpr ⟨lw_p98, List.forall_mem_cons.mpr ⟨lw_p99, List.forall_mem_cons.mpr ⟨lw_p100, List.forall_mem_cons.mpr ⟨lw_p101, List.forall_mem_cons.mpr ⟨lw_p102, fun _ h => absurd h List.not_mem_nil⟩⟩⟩⟩⟩⟩⟩
def lw_privs : List (MethodName × Nat) := lw_privs_1 ++ (lw_privs_2 ++ (lw_privs_3 ++ (lw_privs_4 ++ (lw_privs_5 ++ (lw_privs_6 ++ (lw_privs_7))))))
def lw_tbl : List Cond := k2_sels lw_privs ++ tables_1
theorem lw_privs_ok : ∀ q ∈ lw_privs, lw_okq q := by
  show ∀ q ∈ lw_privs_1 ++ (lw_privs_2 ++ (lw_privs_3 ++ (lw_privs_4 ++ (lw_privs_5 ++ (lw_privs_6 ++ (lw_privs_7)))))), lw_okq q
  exact List.forall_mem_append.mpr ⟨lw_r1, List.forall_mem_append.mpr ⟨lw_r2, List.forall_mem_append.mpr ⟨lw_r3, List.forall_mem_append.mpr ⟨lw_r4, List.forall_mem_append.mpr ⟨lw_r5, List.forall_mem_append.mpr ⟨lw_r6, lw_r7⟩⟩⟩⟩⟩⟩
/-- the streams that the claim lets the run draw from -/
abbrev lw_cs : List Choice := [Jvm.Choice.named "NaN.bits"]
theorem lw_bits : nanBits ∈ lw_cs := by first | decide | exact List.mem_cons_self | simp [lw_cs, nanBits]
-- ===== end of PART A; then your names; then what follows =====
end
section
/-! ===== BEGIN words of one list among another's, by their places ===== -/
theorem goodIn_r {big : List Cond} (ws : List Cond) (ps : List Nat) (hp : ws = ps.filterMap (fun i => big[i]?)) (h : ws.all goodWord = true) : GoodIn big ws := by
  intro w hw
  have h1 := List.all_eq_true.mp h w hw
  rw [hp] at hw
  obtain ⟨i, -, hi⟩ := List.mem_filterMap.mp hw
  have hm : w ∈ big := by first | exact List.mem_of_getElem? hi | exact List.getElem?_mem hi
  exact ⟨hm, good_of_word h1⟩
theorem goodIn_app {big a b : List Cond} (ha : GoodIn big a) (hb : GoodIn big b) : GoodIn big (a ++ b) := fun w h => (List.mem_append.mp h).elim (ha w) (hb w)
theorem goodIn_ca {big a b : List Cond} {c : Cond} (ha : GoodIn big (c :: a)) (hb : GoodIn big b) : GoodIn big (c :: (a ++ b)) := fun w h => (List.mem_cons.mp h).elim (fun e => ha w (List.mem_cons.mpr (Or.inl e))) (fun h => (List.mem_append.mp h).elim (fun h => ha w (List.mem_cons.mpr (Or.inr h))) (hb w))
theorem goodIn_sub {big ws : List Cond} (hm : ∀ w ∈ ws, w ∈ big) (h : ws.all goodWord = true) : GoodIn big ws := fun w hw => ⟨hm w hw, good_of_word (List.all_eq_true.mp h w hw)⟩
/-! ===== END ===== -/

/-! ===== BEGIN exceptions that leave a method, and their catching by the caller (launches without stack traces) ===== -/
section VXA
/-! The laws vx_back, vx_callV, vx_callS, vx_callSW, vx_throw0, vx_throwS follow proofs of the library, with one case more: JvmDerived/Free/Laws.lean (Back.of_free), Shelf42/LK1.lean (callV, callS), Shelf/KitTraced.lean (throwNew0V, throwNewS). -/
/-- where a method has thrown q: the class by its name, the cell, what was written, the world -/
def vx_T (XC : String → State → State → Prop) (st : State) (q : Addr) (t : State) (mc ms : Nat) (free : Addr → Prop) : Prop :=
  ∃ (E : String) (ce : Cell) (L : List Loc), XC E st t ∧ t.heap[q]? = some ce ∧ ce.vm = .none ∧ st.vm.findClass E = some ce.cls ∧ st.WarmedH t.vm ∧ st.sameButNew ({ t with vm := st.vm } : State) L mc ms ∧ ∀ z ∈ L, free z.base
def vx_Q (Qc : Array Value → State → Outcome → State → Prop) (XC : String → State → State → Prop) (mc ms : Nat) (free : Addr → Prop) : Array Value → State → Outcome → State → Prop := fun a st o t =>
  (Qc a st o t ∧ ∃ L, FrameEnd st o t L mc ms ∧ ∀ q ∈ L, free q.base) ∨ ∃ q, o = .threw q ∧ vx_T XC st q t mc ms free
/-- a callee that returns or throws -/
def vx_Met (l : Launch) (y : MethodName) (ws : List Cond) (rm : Room) (Pc : Array Value → State → Prop) (Qc : Array Value → State → Outcome → State → Prop) (XC : String → State → State → Prop) (mc ms : Nat) (free : Addr → Prop) : Prop :=
  MetFree l y (headSpec ws rm) Pc (fun _ _ _ _ _ => True) (vx_Q Qc XC mc ms free)
def vx_Post (XC : String → State → State → Prop) (mc ms : Nat) (free : Addr → Prop) : Pt → Array Value → Addr → Pt → Prop := fun A a q B =>
  ∃ (g : JFrame) (mk : MethodId) (t : State) (L : List Loc) (E : String) (ce : Cell), B.U.heap = t.heap ∧ B.U.vm = t.vm ∧ XC E (A.U.calling g mk a) t ∧ t.heap[q]? = some ce ∧ ce.vm = .none ∧ A.U.vm.findClass E = some ce.cls ∧ B.locs = A.locs ++ L ∧ (∀ z ∈ L, free z.base) ∧ B.cells = A.cells + mc ∧ B.slots = A.slots + ms
def vx_Back (l : Launch) (R : Room) (p : Program) (e : Env) (below : List Frame) (s : State) (sargs : Array Value) (y : MethodName) (len W9 : Nat)
    (Pre : Pt → Array Value → Prop) (Post : Pt → Array Value → Option Value → Pt → Prop) (PostX : Pt → Array Value → Addr → Pt → Prop) : Prop :=
  ∀ (m : MethodId) (meth : Method) (c : Code) (A : Pt) (g : JFrame) (ig : Instr) (mk : MethodId) (a : Array Value),
    Stand p l e R s m sargs below meth c A.U A.locs A.cells A.slots → g.method = m → g.locals.size = c.maxLocals → decode c.code g.pc = .ok (ig, len) →
    2 * g.monitorRoom + (g.stack.map fun v => v.category).sum ≤ W9 → A.U.methodNamed? y = some mk → Pre A a →
    (∃ (v : Option Value) (B : Pt), Stand p l e R s m sargs below meth c B.U B.locs B.cells B.slots ∧ Post A a v B ∧
      Steps p.tables e below (doInvoke e (A.U.setTop g) [] mk a).1 (B.U.setTop { g with pc := g.pc + len, stack := v.toList ++ g.stack })) ∨
    (∃ (q : Addr) (B : Pt), Stand p l e R s m sargs below meth c B.U B.locs B.cells B.slots ∧ PostX A a q B ∧
      Steps p.tables e below (doInvoke e (A.U.setTop g) [] mk a).1 ((B.U.setTop g).pushFrame (.throwing q)))
section Payer
variable {l : Launch} {R : Room} {p : Program} {e : Env} {below : List Frame} {s : State} {sargs : Array Value} {y : MethodName} {len W9 : Nat}
theorem vx_back {ws : List Cond} {rm : Room} {Pc : Array Value → State → Prop} {Qc : Array Value → State → Outcome → State → Prop} {XC : String → State → State → Prop} {mc ms : Nat} {free : Addr → Prop} {bytes : ByteArray} {maxL : Nat} {ret : Option FieldType}
    (hM : vx_Met l y ws rm Pc Qc XC mc ms free) (hblind : FrameBlind Pc) (hrc : rm.cells = mc) (hrs : rm.slots = ms)
    (hframes : rm.frames + 1 ≤ R.frames) (hlocals : W9 + (maxL + 11) + rm.locals ≤ R.locals)
    (hws : ∀ w ∈ ws, ∀ a' U, s.WarmedH U.vm → w.before a' U = true) (hcode : Cond.code y bytes maxL ret ∈ ws) (hinit : ∀ a' U, s.WarmedH U.vm → (Cond.initialized y.cls).before a' U = true) :
    vx_Back l R p e below s sargs y len W9 (PreOf R mc ms Pc) (PostOf Qc mc ms free) (vx_Post XC mc ms free) := by
  intro m meth c A g ig mk a X hg hsize hdg hW hn hp
  have h1 : (headSpec ws rm).pre.before a A.U = true := atoms_intro fun w hw => hws w hw _ _ X.warmed
  have h2 : (Cond.code y bytes maxL ret).before a A.U = true := hws _ hcode _ _ X.warmed
  have h3 : (Cond.initialized y.cls).before a A.U = true := hinit _ _ X.warmed
  have h4 : A.cells + (headSpec ws rm).room.cells ≤ R.cells := by rw [show (headSpec ws rm).room.cells = mc from hrc]; exact hp.1
  have h5 : A.slots + (headSpec ws rm).room.slots ≤ R.slots := by rw [show (headSpec ws rm).room.slots = ms from hrs]; exact hp.2.1
  have hPc : Pc a (A.U.calling g mk a) := hblind _ _ _ _ hp.2.2
  obtain ⟨U, Ls, c0, s0⟩ := A
  dsimp only [Pt.U, Pt.locs, Pt.cells, Pt.slots] at h1 h2 h3 h4 h5 X hn hPc ⊢
  obtain ⟨methY, cY, hmY, hcY, -, hlY, -, -, -, -⟩ := Cond.code_spec hn h2
  obtain ⟨kY, hkY, -⟩ := className_of_methodNamed hn
  have hinitY : kY.init = .initialized := Cond.initialized_spec (findClass_of_methodNamed hn) hkY h3
  have h : At U g.method c below := by rw [hg]; exact X.here
  have hlocals9 : W9 + (maxL + 11) + (headSpec ws rm).room.locals ≤ R.locals := hlocals
  have happ : (headSpec ws rm).appliesLoose y e.platform (U.calling g mk a) = true :=
    Spec.appliesLoose_calling (g := g) h hdg hn hkY hinitY
      (X.room_calling (g := g) (R' := (headSpec ws rm).room) hsize hmY hcY hframes (by rw [hlY]; omega) h4 h5) h1
  obtain ⟨mid, hmid⟩ := h.above
  have hfr : (U.setTop g).frames = (.java g :: mid) ++ below := by rw [State.frames_setTop' g h.top, hmid]; rfl
  obtain ⟨o, s₂, hsteps, -, hend, hq⟩ := Steps.callFree hM p X.admits X.cas X.clock (acts := []) hfr happ hPc trivial
  have hq' : vx_Q Qc XC mc ms free a (U.calling g mk a) o s₂ := hq
  rw [State.frames_setTop' g h.top] at hend
  obtain ⟨g₀, hg0⟩ := Option.isSome_iff_exists.mp h.top
  obtain ⟨r, hr⟩ := State.topJava?_eq_some.mp hg0
  have hr' : (({ U with heap := s₂.heap, slotsUsed := s₂.slotsUsed } : State).setVm s₂.vm).frames = .java g₀ :: r := hr
  rcases hq' with ⟨hqc, L, hfe, hL⟩ | ⟨q, rfl, E, ce, L, hx, hce, hcv, hcl, hW₂, hsm, hL⟩
  · obtain ⟨⟨v, rfl⟩, hW₂, e2, q2, q3, q4, q5, q6⟩ := id hfe
    have e3 : s₂ = ({ (U.calling g mk a).setFrames s₂.frames with heap := s₂.heap, slotsUsed := s₂.slotsUsed } : State).setVm s₂.vm := by
      have : s₂ = ({ s₂ with vm := (U.calling g mk a).vm } : State).setVm s₂.vm := rfl
      rw [e2] at this
      exact this
    obtain ⟨c₂, i₂, len₂, hc₂, hd₂, hf₂⟩ := hend
    have hW' : U.WarmedH s₂.vm := hW₂
    have hcc : c₂ = c := by
      have h1 : s₂.code? g.method = U.code? g.method := by
        rw [State.code?_eq, State.code?_eq, hW'.alike.method?]
      exact Option.some.inj (hc₂.symm.trans (h1.trans h.code))
    subst hcc
    have hlen : len₂ = len := by rw [hdg] at hd₂; cases hd₂; rfl
    subst hlen
    have hs₂ : s₂ = (({ U with heap := s₂.heap, slotsUsed := s₂.slotsUsed } : State).setVm s₂.vm).setTop { g with pc := g.pc + len₂, stack := v.toList ++ g.stack } := by
      refine e3.trans ?_
      rw [hf₂, State.calling_eq h.top, State.setFrames_setFrames, State.setTop_of_frames _ hr', hr]
      rfl
    have hsame : U.sameButNew ({ U with heap := s₂.heap, slotsUsed := s₂.slotsUsed } : State) L mc ms := by
      refine ⟨?_, q2, q3, q4, q5, q6⟩
      obtain ⟨t, ht, -⟩ := State.frames_cons hr
      show ({ U with heap := s₂.heap, slotsUsed := s₂.slotsUsed } : State) = { U.setFrames U.frames with heap := s₂.heap, slotsUsed := s₂.slotsUsed }
      rw [State.setFrames_self ht]
    subst hg
    refine Or.inl ⟨v, ⟨(({ U with heap := s₂.heap, slotsUsed := s₂.slotsUsed } : State).setVm s₂.vm), Ls ++ L, c0 + mc, s0 + ms⟩,
      ⟨X.admits, X.cas, X.clock, X.frames, X.room, X.hears, X.method, X.code, (X.here.setHeapUsed s₂.heap s₂.slotsUsed).setVm hW'.alike, X.tail, State.WarmedH.trans X.warmed hW', X.limits, X.bytes, X.same.trans (hsame.setVm s.vm)⟩,
      ⟨g, mk, s₂, L, rfl, rfl, hqc, rfl, hL, rfl, rfl⟩, ?_⟩
    show Steps p.tables e below _ ((({ U with heap := s₂.heap, slotsUsed := s₂.slotsUsed } : State).setVm s₂.vm).setTop { g with pc := g.pc + len₂, stack := v.toList ++ g.stack })
    rw [← hs₂]
    exact hsteps
  · obtain ⟨e2, q2, q3, q4, q5, q6⟩ := id hsm
    have e3 : s₂ = ({ (U.calling g mk a).setFrames s₂.frames with heap := s₂.heap, slotsUsed := s₂.slotsUsed } : State).setVm s₂.vm := by
      have : s₂ = ({ s₂ with vm := (U.calling g mk a).vm } : State).setVm s₂.vm := rfl
      rw [e2] at this
      exact this
    have hf₂ : s₂.frames = .throwing q :: .java g :: U.frames.tail := hend
    have hW' : U.WarmedH s₂.vm := hW₂
    have hs₂ : s₂ = ((({ U with heap := s₂.heap, slotsUsed := s₂.slotsUsed } : State).setVm s₂.vm).setTop g).pushFrame (.throwing q) := by
      refine e3.trans ?_
      rw [hf₂, State.calling_eq h.top, State.setFrames_setFrames, State.pushFrame, State.frames_setTop _ hr', State.setTop_of_frames _ hr', State.setFrames_setFrames, hr]
      rfl
    have hsame : U.sameButNew ({ U with heap := s₂.heap, slotsUsed := s₂.slotsUsed } : State) L mc ms := by
      refine ⟨?_, q2, q3, q4, q5, q6⟩
      obtain ⟨t, ht, -⟩ := State.frames_cons hr
      show ({ U with heap := s₂.heap, slotsUsed := s₂.slotsUsed } : State) = { U.setFrames U.frames with heap := s₂.heap, slotsUsed := s₂.slotsUsed }
      rw [State.setFrames_self ht]
    subst hg
    refine Or.inr ⟨q, ⟨(({ U with heap := s₂.heap, slotsUsed := s₂.slotsUsed } : State).setVm s₂.vm), Ls ++ L, c0 + mc, s0 + ms⟩,
      ⟨X.admits, X.cas, X.clock, X.frames, X.room, X.hears, X.method, X.code, (X.here.setHeapUsed s₂.heap s₂.slotsUsed).setVm hW'.alike, X.tail, State.WarmedH.trans X.warmed hW', X.limits, X.bytes, X.same.trans (hsame.setVm s.vm)⟩,
      ⟨g, mk, s₂, L, E, ce, rfl, rfl, hx, hce, hcv, hcl, rfl, hL, rfl, rfl⟩, ?_⟩
    show Steps p.tables e below _ (((({ U with heap := s₂.heap, slotsUsed := s₂.slotsUsed } : State).setVm s₂.vm).setTop g).pushFrame (.throwing q))
    rw [← hs₂]
    exact hsteps
end Payer
section Calls
variable {p : Program} {l : Launch} {e : Env} {R : Room} {s : State} {m : MethodId} {args : Array Value} {below : List Frame} {meth : Method} {c : Code} {T : State} {locs : List Loc} {cells slots : Nat}
theorem vx_callV (X : Stand p l e R s m args below meth c T locs cells slots) (hexec : p.tables.exec = Jvm.exec) {own C : String} {index : Nat} {y : MethodName} {bytes : ByteArray} {maxL : Nat} {ret : Option FieldType}
    (hown : s.vm.findClass own = some m.cls) (hlink : (Cond.methodLink own index y).before args s = true) (hinst : (Cond.instanceMethod y).before args s = true) (hsel : (Cond.selects C y y).before args s = true)
    (hcode : (Cond.code y bytes maxL ret).before args s = true) (hy : y.cls ≠ "java/lang/invoke/MethodHandle" ∧ y.cls ≠ "java/lang/invoke/VarHandle")
    {W9 : Nat} {Pre : Pt → Array Value → Prop} {Post : Pt → Array Value → Option Value → Pt → Prop} {PostX : Pt → Array Value → Addr → Pt → Prop} (hK : vx_Back l R p e below s args y 3 W9 Pre Post PostX)
    {b : Addr} {cellB : Cell} (hcell : T.heap[b]? = some cellB) (hobj : cellB.vm.isStatics = false) (hcls : s.vm.findClass C = some cellB.cls)
    {g : JFrame} (hg : g.method = m) (hsize : g.locals.size = c.maxLocals) {argsL rest : List Value} (hlen : ∀ sig, parseMethodDescriptor y.desc = some sig → argsL.length = sig.parameters.length)
    (hstack : g.stack = argsL.reverse ++ .ref b :: rest) (hW : 2 * g.monitorRoom + (rest.map fun v => v.category).sum ≤ W9) (hdg : decode c.code g.pc = .ok (.invokevirtual index, 3))
    (hpre : ∀ vm₁, s.WarmedH vm₁ → Pre ⟨T.setVm vm₁, locs, cells, slots⟩ (Value.ref b :: argsL).toArray) :
    (∃ (v : Option Value) (vm₁ : Vm) (B : Pt), s.WarmedH vm₁ ∧ Stand p l e R s m args below meth c B.U B.locs B.cells B.slots ∧ Post ⟨T.setVm vm₁, locs, cells, slots⟩ (Value.ref b :: argsL).toArray v B ∧
      ∀ target, Steps p.tables e below (B.U.setTop { g with pc := g.pc + 3, stack := v.toList ++ rest }) target → Steps p.tables e below (T.setTop g) target) ∨
    (∃ (q : Addr) (vm₁ : Vm) (B : Pt), s.WarmedH vm₁ ∧ Stand p l e R s m args below meth c B.U B.locs B.cells B.slots ∧ PostX ⟨T.setVm vm₁, locs, cells, slots⟩ (Value.ref b :: argsL).toArray q B ∧
      Steps p.tables e below (T.setTop g) ((B.U.setTop { g with stack := rest }).pushFrame (.throwing q))) := by
  obtain ⟨mk, methM, hnamed, hmethM, hstM, habM⟩ := Cond.instanceMethod_spec hinst
  obtain ⟨methM', cM, hmethM', -, -, -, -, -, -, hsigM⟩ := Cond.code_spec hnamed hcode
  cases hmethM.symm.trans hmethM'
  obtain ⟨c2, r2, m2, q1, q2, q3, q4, kP, hkP, hkPi⟩ := Cond.selects_spec hsel
  cases hcls.symm.trans q1
  cases (State.methodFound?_of_named hnamed hy).symm.trans q2
  cases hnamed.symm.trans q3
  have hselP : selectMethod e.platform s.vm cellB.cls mk = .method mk := by rw [Launch.admits_selectMethod X.admits]; exact q4
  obtain ⟨vm₁, X₁, hstep₁⟩ := X.invokevirtual hexec hown hlink hnamed hmethM hstM hkP hkPi hy (a := b) (cell := cellB) hcell
    (fun z h => by rw [h] at hobj; cases hobj) hselP hmethM habM hkP hkPi (g := g) hg (argsL := argsL) (rest := rest) (hlen _ hsigM) hstack hdg
  rcases hK m meth c ⟨T.setVm vm₁, locs, cells, slots⟩ { g with stack := rest } (.invokevirtual index) mk (Value.ref b :: argsL).toArray X₁ hg hsize hdg hW (X₁.named hnamed) (hpre vm₁ X₁.warmed) with ⟨v, B, X', hpost, hsteps⟩ | ⟨q, B, X', hpost, hsteps⟩
  · exact Or.inl ⟨v, vm₁, B, X₁.warmed, X', hpost, fun target h => hstep₁ _ fun acts => by rw [doInvoke_state]; exact hsteps.trans h⟩
  · exact Or.inr ⟨q, vm₁, B, X₁.warmed, X', hpost, hstep₁ _ fun acts => by rw [doInvoke_state]; exact hsteps⟩
theorem vx_callS (X : Stand p l e R s m args below meth c T locs cells slots) (hexec : p.tables.exec = Jvm.exec) {own : String} {index : Nat} {y : MethodName} {bytes : ByteArray} {maxL : Nat} {ret : Option FieldType}
    (hown : s.vm.findClass own = some m.cls) (hlink : (Cond.methodLink own index y).before args s = true) (hstat : (Cond.static y).before args s = true) (hinit : (Cond.initialized y.cls).before args s = true)
    (hcode : (Cond.code y bytes maxL ret).before args s = true) (hy : y.cls ≠ "java/lang/invoke/MethodHandle" ∧ y.cls ≠ "java/lang/invoke/VarHandle")
    {W9 : Nat} {Pre : Pt → Array Value → Prop} {Post : Pt → Array Value → Option Value → Pt → Prop} {PostX : Pt → Array Value → Addr → Pt → Prop} (hK : vx_Back l R p e below s args y 3 W9 Pre Post PostX)
    {g : JFrame} (hg : g.method = m) (hsize : g.locals.size = c.maxLocals) {argsL rest : List Value} (hlen : ∀ sig, parseMethodDescriptor y.desc = some sig → argsL.length = sig.parameters.length)
    (hstack : g.stack = argsL.reverse ++ rest) (hW : 2 * g.monitorRoom + (rest.map fun v => v.category).sum ≤ W9) (hdg : decode c.code g.pc = .ok (.invokestatic index, 3))
    (hpre : ∀ vm₁, s.WarmedH vm₁ → Pre ⟨T.setVm vm₁, locs, cells, slots⟩ argsL.toArray) :
    (∃ (v : Option Value) (vm₁ : Vm) (B : Pt), s.WarmedH vm₁ ∧ Stand p l e R s m args below meth c B.U B.locs B.cells B.slots ∧ Post ⟨T.setVm vm₁, locs, cells, slots⟩ argsL.toArray v B ∧
      ∀ target, Steps p.tables e below (B.U.setTop { g with pc := g.pc + 3, stack := v.toList ++ rest }) target → Steps p.tables e below (T.setTop g) target) ∨
    (∃ (q : Addr) (vm₁ : Vm) (B : Pt), s.WarmedH vm₁ ∧ Stand p l e R s m args below meth c B.U B.locs B.cells B.slots ∧ PostX ⟨T.setVm vm₁, locs, cells, slots⟩ argsL.toArray q B ∧
      Steps p.tables e below (T.setTop g) ((B.U.setTop { g with stack := rest }).pushFrame (.throwing q))) := by
  obtain ⟨mk, hnamed⟩ := Cond.code_named hcode
  obtain ⟨methM, cM, hmethM, -, -, -, -, -, -, hsigM⟩ := Cond.code_spec hnamed hcode
  have hstatic : methM.isStatic = true := Cond.static_spec hnamed hmethM hstat
  obtain ⟨kP, hkP, -⟩ := className_of_methodNamed hnamed
  have hinitP : kP.init = .initialized := Cond.initialized_spec (findClass_of_methodNamed hnamed) hkP hinit
  obtain ⟨vm₁, X₁, hstep₁⟩ := X.invokestatic hexec hown hlink hnamed hmethM hstatic hkP hinitP hy (g := g) hg (argsL := argsL) (rest := rest) (hlen _ hsigM) hstack hdg
  rcases hK m meth c ⟨T.setVm vm₁, locs, cells, slots⟩ { g with stack := rest } (.invokestatic index) mk argsL.toArray X₁ hg hsize hdg hW (X₁.named hnamed) (hpre vm₁ X₁.warmed) with ⟨v, B, X', hpost, hsteps⟩ | ⟨q, B, X', hpost, hsteps⟩
  · exact Or.inl ⟨v, vm₁, B, X₁.warmed, X', hpost, fun target h => hstep₁ _ fun acts => by rw [doInvoke_state]; exact hsteps.trans h⟩
  · exact Or.inr ⟨q, vm₁, B, X₁.warmed, X', hpost, hstep₁ _ fun acts => by rw [doInvoke_state]; exact hsteps⟩
end Calls
theorem vx_cls {s : State} {T : State} {vm₁ : Vm} {E : String} {k : ClassId} (hW : s.WarmedH vm₁) (h : (T.setVm vm₁).vm.findClass E = some k) : s.vm.findClass E = some k := by
  have h1 : vm₁.findClass E = some k := h
  rw [hW.alike.findClass] at h1
  exact h1
/-- the method's frame g, with q thrown over it -/
def vx_W (p : Program) (l : Launch) (e : Env) (R : Room) (s : State) (m : MethodId) (args : Array Value) (below : List Frame) (meth : Method) (c : Code) (H : Heap) (locs : List Loc) (cells slots : Nat) (Q : State → Prop) (g : JFrame) (q : Addr) : Prop :=
  ∀ T : State, T.heap = H → Stand p l e R s m args below meth c T locs cells slots → ∃ t, Steps p.tables e below ((T.setTop g).pushFrame (.throwing q)) t ∧ Q t
def vx_Run (p : Program) (l : Launch) (e : Env) (R : Room) (s : State) (m : MethodId) (args : Array Value) (below : List Frame) (meth : Method) (c : Code) (H : Heap) (locs : List Loc) (cells slots mc ms : Nat) (g : JFrame) (rest : List Value) (Qa : State → Outcome → State → Prop) (XC : String → State → State → Prop) (free : Addr → Prop) : Prop :=
  ∀ T : State, T.heap = H → Stand p l e R s m args below meth c T locs cells slots →
    (∃ (v : Option Value) (st₀ t T' : State) (L : List Loc), st₀.heap = H ∧ Stand p l e R s m args below meth c T' (locs ++ L) (cells + mc) (slots + ms) ∧ (∀ q ∈ L, free q.base) ∧ T'.heap = t.heap ∧ T'.vm = t.vm ∧ Qa st₀ (.returned v) t ∧
      Goes p e below T g T' { g with pc := g.pc + 3, stack := v.toList ++ rest }) ∨
    (∃ (q : Addr) (st₀ t T' : State) (L : List Loc) (E : String) (ce : Cell), st₀.heap = H ∧ Stand p l e R s m args below meth c T' (locs ++ L) (cells + mc) (slots + ms) ∧ (∀ z ∈ L, free z.base) ∧ T'.heap = t.heap ∧ T'.vm = t.vm ∧ XC E st₀ t ∧ t.heap[q]? = some ce ∧ ce.vm = .none ∧ s.vm.findClass E = some ce.cls ∧
      Steps p.tables e below (T.setTop g) ((T'.setTop { g with stack := rest }).pushFrame (.throwing q)))
def vx_X {S : Type} (px : S → Prop) (B : String → S → State → Prop) (A : Nat → Prop) : String → State → State → Prop := fun E st t => ∃ u : S, px u ∧ B E u t ∧ va_F A st t
section Runs
variable {p : Program} {l : Launch} {e : Env} {R : Room} {s : State} {m : MethodId} {args : Array Value} {below : List Frame} {meth : Method} {c : Code} {H : Heap} {locs : List Loc} {cells slots : Nat}
variable {y : MethodName} {bytes cc : ByteArray} {maxL nL mc ms n index : Nat} {ret : Option FieldType} {ws : List Cond} {rm : Room} {Pc : Array Value → State → Prop} {Qc : Array Value → State → Outcome → State → Prop} {XC : String → State → State → Prop} {free : Addr → Prop} {Ts : List Cond} {own C : String} {b : Addr} {As rest : List Value} {g : JFrame}
theorem vx_callBack (cb : CallB R s args own index y bytes maxL ret ws rm mc ms n) (hM : vx_Met l y ws rm Pc Qc XC mc ms free) (hbl : FrameBlind Pc) : vx_Back l R p e below s args y 3 8 (PreOf R mc ms Pc) (PostOf Qc mc ms free) (vx_Post XC mc ms free) := by
  obtain ⟨hrc, hrs, hfr, hlo, hws, hcw, -, hini, -⟩ := cb
  exact vx_back (bytes := bytes) (maxL := maxL) (ret := ret) hM hbl hrc hrs hfr hlo hws hcw (fun a' U hW => word_at hW (Or.inl (by first | rfl | simp [Cond.onTables, Cond.keeps, Cond.steady])) hini)
theorem vx_runV (S : CallFix p m c cc nL s args Ts own) (hM : vx_Met l y ws rm Pc Qc XC mc ms free) (cw : CallW R s args own C index y bytes maxL ret ws rm mc ms n) (hp : PreV s H C b Pc As)
    (hg : g.method = m) (hn : As.length = n) (hsize : g.locals.size = nL) (hstack : g.stack = As.reverse ++ .ref b :: rest) (hW : 2 * g.monitorRoom + (rest.map fun v => v.category).sum ≤ 8) (hdg : decode cc g.pc = .ok (.invokevirtual index, 3)) (hf : cells + mc ≤ R.cells ∧ slots + ms ≤ R.slots) :
    vx_Run p l e R s m args below meth c H locs cells slots mc ms g rest (Qc (Value.ref b :: As).toArray) XC free := by
  have hK : vx_Back l R p e below s args y 3 8 (PreOf R mc ms Pc) (PostOf Qc mc ms free) (vx_Post XC mc ms free) := vx_callBack cw.1 hM hp.1
  obtain ⟨⟨-, -, -, -, -, -, hcode, -, hy, hlen, hl⟩, hin, hse⟩ := cw
  obtain ⟨hx, hb, hml, ho, -⟩ := S
  obtain ⟨-, ⟨cellB, hcB, hoB, hclB⟩, hPc⟩ := hp
  intro T hT X
  rcases vx_callV X hx (C := C) (bytes := bytes) (maxL := maxL) (ret := ret) ho hl hin hse hcode hy hK (by rw [hT]; exact hcB) hoB hclB hg (hsize.trans hml.symm) (argsL := As) (rest := rest) (fun sig h => hn.trans (hlen sig h)) hstack hW (by rw [hb]; exact hdg)
    (fun vm₁ hW₁ => ⟨hf.1, hf.2, hPc (T.setVm vm₁) hT hW₁⟩) with ⟨v, vm₁, ⟨U', l2, c2, s2⟩, hW₁, X', ⟨g', mk, t, L, e1, e2, hq, h1, hL, h2, h3⟩, st⟩ | ⟨q, vm₁, ⟨U', l2, c2, s2⟩, hW₁, X', ⟨g', mk, t, L, E, ce, e1, e2, hq, hce, hcv, hcl, h1, hL, h2, h3⟩, st⟩
  · dsimp only [Pt.U, Pt.locs, Pt.cells, Pt.slots] at X' e1 e2 h1 h2 h3 st
    subst h1; subst h2; subst h3
    exact Or.inl ⟨v, (T.setVm vm₁).calling g' mk (Value.ref b :: As).toArray, t, U', L, hT, X', hL, e1, e2, hq, st⟩
  · dsimp only [Pt.U, Pt.locs, Pt.cells, Pt.slots] at X' e1 e2 h1 h2 h3 st hcl
    subst h1; subst h2; subst h3
    exact Or.inr ⟨q, (T.setVm vm₁).calling g' mk (Value.ref b :: As).toArray, t, U', L, E, ce, hT, X', hL, e1, e2, hq, hce, hcv, vx_cls hW₁ hcl, st⟩
theorem vx_runS (S : CallFix p m c cc nL s args Ts own) (hM : vx_Met l y ws rm Pc Qc XC mc ms free) (cw : CallB R s args own index y bytes maxL ret ws rm mc ms n ∧ (Cond.static y).before args s = true) (hp : PreS s H Pc As)
    (hg : g.method = m) (hn : As.length = n) (hsize : g.locals.size = nL) (hstack : g.stack = As.reverse ++ rest) (hW : 2 * g.monitorRoom + (rest.map fun v => v.category).sum ≤ 8) (hdg : decode cc g.pc = .ok (.invokestatic index, 3)) (hf : cells + mc ≤ R.cells ∧ slots + ms ≤ R.slots) :
    vx_Run p l e R s m args below meth c H locs cells slots mc ms g rest (Qc As.toArray) XC free := by
  have hK : vx_Back l R p e below s args y 3 8 (PreOf R mc ms Pc) (PostOf Qc mc ms free) (vx_Post XC mc ms free) := vx_callBack cw.1 hM hp.1
  obtain ⟨⟨-, -, -, -, -, -, hcode, hini, hy, hlen, hl⟩, hstt⟩ := cw
  obtain ⟨hx, hb, hml, ho, -⟩ := S
  intro T hT X
  rcases vx_callS X hx (bytes := bytes) (maxL := maxL) (ret := ret) ho hl hstt hini hcode hy hK hg (hsize.trans hml.symm) (argsL := As) (rest := rest) (fun sig h => hn.trans (hlen sig h)) hstack hW (by rw [hb]; exact hdg)
    (fun vm₁ hW₁ => ⟨hf.1, hf.2, hp.2 (T.setVm vm₁) hT hW₁⟩) with ⟨v, vm₁, ⟨U', l2, c2, s2⟩, hW₁, X', ⟨g', mk, t, L, e1, e2, hq, h1, hL, h2, h3⟩, st⟩ | ⟨q, vm₁, ⟨U', l2, c2, s2⟩, hW₁, X', ⟨g', mk, t, L, E, ce, e1, e2, hq, hce, hcv, hcl, h1, hL, h2, h3⟩, st⟩
  · dsimp only [Pt.U, Pt.locs, Pt.cells, Pt.slots] at X' e1 e2 h1 h2 h3 st
    subst h1; subst h2; subst h3
    exact Or.inl ⟨v, (T.setVm vm₁).calling g' mk As.toArray, t, U', L, hT, X', hL, e1, e2, hq, st⟩
  · dsimp only [Pt.U, Pt.locs, Pt.cells, Pt.slots] at X' e1 e2 h1 h2 h3 st hcl
    subst h1; subst h2; subst h3
    exact Or.inr ⟨q, (T.setVm vm₁).calling g' mk As.toArray, t, U', L, E, ce, hT, X', hL, e1, e2, hq, hce, hcv, vx_cls hW₁ hcl, st⟩
end Runs
section Rows
variable {p : Program} {l : Launch} {e : Env} {R : Room} {s : State} {m : MethodId} {args : Array Value} {below : List Frame} {meth : Method} {c : Code} {H : Heap} {locs : List Loc} {cells slots : Nat} {Q : State → Prop}
variable {mc ms : Nat} {free : Addr → Prop} {A0 A1 : Nat → Prop} {H0 : Heap} {a : Array Value} {pc : Nat} {ls : Array Slot} {st0 rest : List Value}
theorem vx_keep {st₀ t T' : State} {L : List Loc} (h0 : st₀.heap = H) (e1 : T'.heap = t.heap) (hS : va_S A0 H0 H locs) (hA : ∀ q, q < H.size → A1 q → A0 q) (hf : ∀ q, free q → A0 q) (hL : ∀ q ∈ L, free q.base) (hF : va_F A1 st₀ t) :
    H.size ≤ T'.heap.size ∧ (∀ q : Nat, q < H.size → ¬ A1 q → T'.heap[q]? = H[q]?) ∧ va_S A0 H0 T'.heap (locs ++ L) := by
  obtain ⟨hz, hk⟩ := hF
  rw [h0] at hz hk
  exact ⟨by rw [e1]; exact hz, fun q h1 h2 => by rw [e1]; exact hk q h1 h2,
    ⟨Nat.le_trans hS.1 (by rw [e1]; exact hz), fun q h1 h2 => by rw [e1, hk q (Nat.lt_of_lt_of_le h1 hS.1) (fun z => h2 (hA q (Nat.lt_of_lt_of_le h1 hS.1) z))]; exact hS.2.1 q h1 h2, fun q hq => by
      rcases List.mem_append.mp hq with h | h
      · exact hS.2.2 q h
      · exact hf _ (hL q h)⟩⟩
theorem vx_calli {S SX : Type} {post : Int32 → S → Prop} {px : SX → Prop} {B : S → State → Prop} {BX : String → SX → State → Prop} {AX : Nat → Prop} (hr : vx_Run p l e R s m args below meth c H locs cells slots mc ms (F0 m pc ls st0) rest (va_Qi post B A1 a) (vx_X px BX AX) free) (hS : va_S A0 H0 H locs) (hA : ∀ q, q < H.size → A1 q → A0 q) (hf : ∀ q, free q → A0 q) (hAX : ∀ q, q < H.size → AX q → A0 q)
    (kx : ∀ (E : String) (ce : Cell) (q9 : Addr) (u : SX) (t : State) (H1 : Heap) (locs1 : List Loc), t.heap = H1 → s.vm.Alike t.vm → px u → BX E u t → H.size ≤ H1.size → (∀ q : Nat, q < H.size → ¬ AX q → H1[q]? = H[q]?) → va_S A0 H0 H1 locs1 → H1[q9]? = some ce → ce.vm = .none → s.vm.findClass E = some ce.cls → vx_W p l e R s m args below meth c H1 locs1 (cells + mc) (slots + ms) Q (F0 m pc ls rest) q9)
    (kk : ∀ (r : Int32) (u : S) (t : State) (H1 : Heap) (locs1 : List Loc), t.heap = H1 → s.vm.Alike t.vm → post r u → B u t → H.size ≤ H1.size → (∀ q : Nat, q < H.size → ¬ A1 q → H1[q]? = H[q]?) → va_S A0 H0 H1 locs1 → W p l e R s m args below meth c H1 locs1 (cells + mc) (slots + ms) Q (F0 m (pc + 3) ls (.int r :: rest))) : W p l e R s m args below meth c H locs cells slots Q (F0 m pc ls st0) := by
  intro T hT X
  rcases hr T hT X with ⟨v, st₀, t, T', L, h0, X', hL, e1, e2, ⟨⟨r, u, hv, hp, hb⟩, hF⟩, st⟩ | ⟨q, st₀, t, T', L, E, ce, h0, X', hL, e1, e2, ⟨u, hp, hb, hF⟩, hce, hcv, hcl, st⟩
  · cases hv
    obtain ⟨k1, k2, k3⟩ := vx_keep h0 e1 hS hA hf hL hF
    obtain ⟨t2, a1, b1⟩ := kk r u t T'.heap (locs ++ L) e1.symm (by rw [← e2]; exact X'.warmed.alike) hp hb k1 k2 k3 T' rfl X'
    exact ⟨t2, st t2 a1, b1⟩
  · obtain ⟨k1, k2, k3⟩ := vx_keep h0 e1 hS hAX hf hL hF
    obtain ⟨t2, a1, b1⟩ := kx E ce q u t T'.heap (locs ++ L) e1.symm (by rw [← e2]; exact X'.warmed.alike) hp hb k1 k2 k3 (by rw [e1]; exact hce) hcv hcl T' rfl X'
    exact ⟨t2, st.trans a1, b1⟩
theorem vx_calll {S SX : Type} {post : Int64 → S → Prop} {px : SX → Prop} {B : S → State → Prop} {BX : String → SX → State → Prop} {AX : Nat → Prop} (hr : vx_Run p l e R s m args below meth c H locs cells slots mc ms (F0 m pc ls st0) rest (va_Ql post B A1 a) (vx_X px BX AX) free) (hS : va_S A0 H0 H locs) (hA : ∀ q, q < H.size → A1 q → A0 q) (hf : ∀ q, free q → A0 q) (hAX : ∀ q, q < H.size → AX q → A0 q)
    (kx : ∀ (E : String) (ce : Cell) (q9 : Addr) (u : SX) (t : State) (H1 : Heap) (locs1 : List Loc), t.heap = H1 → s.vm.Alike t.vm → px u → BX E u t → H.size ≤ H1.size → (∀ q : Nat, q < H.size → ¬ AX q → H1[q]? = H[q]?) → va_S A0 H0 H1 locs1 → H1[q9]? = some ce → ce.vm = .none → s.vm.findClass E = some ce.cls → vx_W p l e R s m args below meth c H1 locs1 (cells + mc) (slots + ms) Q (F0 m pc ls rest) q9)
    (kk : ∀ (r : Int64) (u : S) (t : State) (H1 : Heap) (locs1 : List Loc), t.heap = H1 → s.vm.Alike t.vm → post r u → B u t → H.size ≤ H1.size → (∀ q : Nat, q < H.size → ¬ A1 q → H1[q]? = H[q]?) → va_S A0 H0 H1 locs1 → W p l e R s m args below meth c H1 locs1 (cells + mc) (slots + ms) Q (F0 m (pc + 3) ls (.long r :: rest))) : W p l e R s m args below meth c H locs cells slots Q (F0 m pc ls st0) := by
  intro T hT X
  rcases hr T hT X with ⟨v, st₀, t, T', L, h0, X', hL, e1, e2, ⟨⟨r, u, hv, hp, hb⟩, hF⟩, st⟩ | ⟨q, st₀, t, T', L, E, ce, h0, X', hL, e1, e2, ⟨u, hp, hb, hF⟩, hce, hcv, hcl, st⟩
  · cases hv
    obtain ⟨k1, k2, k3⟩ := vx_keep h0 e1 hS hA hf hL hF
    obtain ⟨t2, a1, b1⟩ := kk r u t T'.heap (locs ++ L) e1.symm (by rw [← e2]; exact X'.warmed.alike) hp hb k1 k2 k3 T' rfl X'
    exact ⟨t2, st t2 a1, b1⟩
  · obtain ⟨k1, k2, k3⟩ := vx_keep h0 e1 hS hAX hf hL hF
    obtain ⟨t2, a1, b1⟩ := kx E ce q u t T'.heap (locs ++ L) e1.symm (by rw [← e2]; exact X'.warmed.alike) hp hb k1 k2 k3 (by rw [e1]; exact hce) hcv hcl T' rfl X'
    exact ⟨t2, st.trans a1, b1⟩
theorem vx_callf {S SX : Type} {post : UInt32 → S → Prop} {px : SX → Prop} {B : S → State → Prop} {BX : String → SX → State → Prop} {AX : Nat → Prop} (hr : vx_Run p l e R s m args below meth c H locs cells slots mc ms (F0 m pc ls st0) rest (va_Qf post B A1 a) (vx_X px BX AX) free) (hS : va_S A0 H0 H locs) (hA : ∀ q, q < H.size → A1 q → A0 q) (hf : ∀ q, free q → A0 q) (hAX : ∀ q, q < H.size → AX q → A0 q)
    (kx : ∀ (E : String) (ce : Cell) (q9 : Addr) (u : SX) (t : State) (H1 : Heap) (locs1 : List Loc), t.heap = H1 → s.vm.Alike t.vm → px u → BX E u t → H.size ≤ H1.size → (∀ q : Nat, q < H.size → ¬ AX q → H1[q]? = H[q]?) → va_S A0 H0 H1 locs1 → H1[q9]? = some ce → ce.vm = .none → s.vm.findClass E = some ce.cls → vx_W p l e R s m args below meth c H1 locs1 (cells + mc) (slots + ms) Q (F0 m pc ls rest) q9)
    (kk : ∀ (r : UInt32) (u : S) (t : State) (H1 : Heap) (locs1 : List Loc), t.heap = H1 → s.vm.Alike t.vm → post r u → B u t → H.size ≤ H1.size → (∀ q : Nat, q < H.size → ¬ A1 q → H1[q]? = H[q]?) → va_S A0 H0 H1 locs1 → W p l e R s m args below meth c H1 locs1 (cells + mc) (slots + ms) Q (F0 m (pc + 3) ls (.float r :: rest))) : W p l e R s m args below meth c H locs cells slots Q (F0 m pc ls st0) := by
  intro T hT X
  rcases hr T hT X with ⟨v, st₀, t, T', L, h0, X', hL, e1, e2, ⟨⟨r, u, hv, hp, hb⟩, hF⟩, st⟩ | ⟨q, st₀, t, T', L, E, ce, h0, X', hL, e1, e2, ⟨u, hp, hb, hF⟩, hce, hcv, hcl, st⟩
  · cases hv
    obtain ⟨k1, k2, k3⟩ := vx_keep h0 e1 hS hA hf hL hF
    obtain ⟨t2, a1, b1⟩ := kk r u t T'.heap (locs ++ L) e1.symm (by rw [← e2]; exact X'.warmed.alike) hp hb k1 k2 k3 T' rfl X'
    exact ⟨t2, st t2 a1, b1⟩
  · obtain ⟨k1, k2, k3⟩ := vx_keep h0 e1 hS hAX hf hL hF
    obtain ⟨t2, a1, b1⟩ := kx E ce q u t T'.heap (locs ++ L) e1.symm (by rw [← e2]; exact X'.warmed.alike) hp hb k1 k2 k3 (by rw [e1]; exact hce) hcv hcl T' rfl X'
    exact ⟨t2, st.trans a1, b1⟩
theorem vx_calld {S SX : Type} {post : UInt64 → S → Prop} {px : SX → Prop} {B : S → State → Prop} {BX : String → SX → State → Prop} {AX : Nat → Prop} (hr : vx_Run p l e R s m args below meth c H locs cells slots mc ms (F0 m pc ls st0) rest (va_Qd post B A1 a) (vx_X px BX AX) free) (hS : va_S A0 H0 H locs) (hA : ∀ q, q < H.size → A1 q → A0 q) (hf : ∀ q, free q → A0 q) (hAX : ∀ q, q < H.size → AX q → A0 q)
    (kx : ∀ (E : String) (ce : Cell) (q9 : Addr) (u : SX) (t : State) (H1 : Heap) (locs1 : List Loc), t.heap = H1 → s.vm.Alike t.vm → px u → BX E u t → H.size ≤ H1.size → (∀ q : Nat, q < H.size → ¬ AX q → H1[q]? = H[q]?) → va_S A0 H0 H1 locs1 → H1[q9]? = some ce → ce.vm = .none → s.vm.findClass E = some ce.cls → vx_W p l e R s m args below meth c H1 locs1 (cells + mc) (slots + ms) Q (F0 m pc ls rest) q9)
    (kk : ∀ (r : UInt64) (u : S) (t : State) (H1 : Heap) (locs1 : List Loc), t.heap = H1 → s.vm.Alike t.vm → post r u → B u t → H.size ≤ H1.size → (∀ q : Nat, q < H.size → ¬ A1 q → H1[q]? = H[q]?) → va_S A0 H0 H1 locs1 → W p l e R s m args below meth c H1 locs1 (cells + mc) (slots + ms) Q (F0 m (pc + 3) ls (.double r :: rest))) : W p l e R s m args below meth c H locs cells slots Q (F0 m pc ls st0) := by
  intro T hT X
  rcases hr T hT X with ⟨v, st₀, t, T', L, h0, X', hL, e1, e2, ⟨⟨r, u, hv, hp, hb⟩, hF⟩, st⟩ | ⟨q, st₀, t, T', L, E, ce, h0, X', hL, e1, e2, ⟨u, hp, hb, hF⟩, hce, hcv, hcl, st⟩
  · cases hv
    obtain ⟨k1, k2, k3⟩ := vx_keep h0 e1 hS hA hf hL hF
    obtain ⟨t2, a1, b1⟩ := kk r u t T'.heap (locs ++ L) e1.symm (by rw [← e2]; exact X'.warmed.alike) hp hb k1 k2 k3 T' rfl X'
    exact ⟨t2, st t2 a1, b1⟩
  · obtain ⟨k1, k2, k3⟩ := vx_keep h0 e1 hS hAX hf hL hF
    obtain ⟨t2, a1, b1⟩ := kx E ce q u t T'.heap (locs ++ L) e1.symm (by rw [← e2]; exact X'.warmed.alike) hp hb k1 k2 k3 (by rw [e1]; exact hce) hcv hcl T' rfl X'
    exact ⟨t2, st.trans a1, b1⟩
theorem vx_callv {S SX : Type} {post : S → Prop} {px : SX → Prop} {B : S → State → Prop} {BX : String → SX → State → Prop} {AX : Nat → Prop} (hr : vx_Run p l e R s m args below meth c H locs cells slots mc ms (F0 m pc ls st0) rest (va_Qv post B A1 a) (vx_X px BX AX) free) (hS : va_S A0 H0 H locs) (hA : ∀ q, q < H.size → A1 q → A0 q) (hf : ∀ q, free q → A0 q) (hAX : ∀ q, q < H.size → AX q → A0 q)
    (kx : ∀ (E : String) (ce : Cell) (q9 : Addr) (u : SX) (t : State) (H1 : Heap) (locs1 : List Loc), t.heap = H1 → s.vm.Alike t.vm → px u → BX E u t → H.size ≤ H1.size → (∀ q : Nat, q < H.size → ¬ AX q → H1[q]? = H[q]?) → va_S A0 H0 H1 locs1 → H1[q9]? = some ce → ce.vm = .none → s.vm.findClass E = some ce.cls → vx_W p l e R s m args below meth c H1 locs1 (cells + mc) (slots + ms) Q (F0 m pc ls rest) q9)
    (kk : ∀ (u : S) (t : State) (H1 : Heap) (locs1 : List Loc), t.heap = H1 → s.vm.Alike t.vm → post u → B u t → H.size ≤ H1.size → (∀ q : Nat, q < H.size → ¬ A1 q → H1[q]? = H[q]?) → va_S A0 H0 H1 locs1 → W p l e R s m args below meth c H1 locs1 (cells + mc) (slots + ms) Q (F0 m (pc + 3) ls (rest))) : W p l e R s m args below meth c H locs cells slots Q (F0 m pc ls st0) := by
  intro T hT X
  rcases hr T hT X with ⟨v, st₀, t, T', L, h0, X', hL, e1, e2, ⟨⟨u, hv, hp, hb⟩, hF⟩, st⟩ | ⟨q, st₀, t, T', L, E, ce, h0, X', hL, e1, e2, ⟨u, hp, hb, hF⟩, hce, hcv, hcl, st⟩
  · cases hv
    obtain ⟨k1, k2, k3⟩ := vx_keep h0 e1 hS hA hf hL hF
    obtain ⟨t2, a1, b1⟩ := kk u t T'.heap (locs ++ L) e1.symm (by rw [← e2]; exact X'.warmed.alike) hp hb k1 k2 k3 T' rfl X'
    exact ⟨t2, st t2 a1, b1⟩
  · obtain ⟨k1, k2, k3⟩ := vx_keep h0 e1 hS hAX hf hL hF
    obtain ⟨t2, a1, b1⟩ := kx E ce q u t T'.heap (locs ++ L) e1.symm (by rw [← e2]; exact X'.warmed.alike) hp hb k1 k2 k3 (by rw [e1]; exact hce) hcv hcl T' rfl X'
    exact ⟨t2, st.trans a1, b1⟩
/-- caught by the row x of this method's table; the rows ahead don't take it -/
theorem vx_catch {own name : String} {E : String} {ce : Cell} {q : Addr} (hown : s.vm.findClass own = some m.cls) (pre : List ExceptionTableEntry) (x : ExceptionTableEntry) (suf : List ExceptionTableEntry) (hsplit : c.exceptionTable.toList = pre ++ x :: suf)
    (hpass : ∀ z ∈ pre, covers z pc = false ∨ (z.catchType ≠ 0 ∧ ∃ nm : String, (Cond.classLink own z.catchType nm).before args s = true ∧ va_Nc E nm s)) (hx : covers x pc = true) (h0 : x.catchType ≠ 0)
    (hlink : (Cond.classLink own x.catchType name).before args s = true) (hcast : (Cond.castable E name).before args s = true) (hcell : H[q]? = some ce) (hv : ce.vm = .none) (hcl : s.vm.findClass E = some ce.cls)
    (kk : W p l e R s m args below meth c H locs cells slots Q (F0 m x.handlerPc ls [.ref q])) : vx_W p l e R s m args below meth c H locs cells slots Q (F0 m pc ls rest) q := by
  intro T hT X
  have hpl : e.platform.magicAccessors = ({} : Platform).magicAccessors := by rw [X.admits.platform]
  obtain ⟨c3, c4, hc3, hc4, hasg⟩ := Cond.castable_spec hcast
  cases Option.some.inj (hc3.symm.trans hcl)
  obtain ⟨c5, hc5, hcl5⟩ := Cond.classLink_spec hown hlink e.platform hpl
  cases Option.some.inj (hc4.symm.trans hc5)
  obtain ⟨vm', X', st⟩ := X.thenCaughtThrough q (g := F0 m pc ls rest) rfl (Steps.refl _) (by rw [hT]; exact hcell) (by rw [hv]; rfl) (by obtain ⟨k9, h9, -⟩ := Vm.findClass_spec hcl; exact ⟨k9, h9⟩) pre x suf hsplit
    (fun z hz => by
      rcases hpass z hz with h | ⟨hz0, nm, hl1, hn1⟩
      · exact Or.inl h
      · obtain ⟨c6, hc6, hcl6⟩ := Cond.classLink_spec hown hl1 e.platform hpl
        obtain ⟨a8, b8, h1, h2, h3⟩ := hn1
        cases Option.some.inj (h1.symm.trans hcl)
        cases Option.some.inj (h2.symm.trans hc6)
        exact Or.inr ⟨hz0, _, hcl6, h3⟩) hx (Or.inr ⟨h0, c4, hcl5, hasg⟩)
  obtain ⟨t, a1, b1⟩ := kk (T.setVm vm') hT X'
  exact ⟨t, st.trans a1, b1⟩
end Rows
section Ends
variable {p : Program} {l : Launch} {e : Env} {R : Room} {s : State} {m : MethodId} {args : Array Value} {below : List Frame} {meth : Method} {c : Code} {H : Heap} {locs : List Loc} {cells slots : Nat} {Q : State → Prop}
variable {mc ms : Nat} {free : Addr → Prop} {A0 A1 : Nat → Prop} {H0 : Heap} {a : Array Value} {ls : Array Slot} {st0 rest : List Value}
variable {Qc : Array Value → State → Outcome → State → Prop} {XC : String → State → State → Prop}
/-- what a body that may throw owes at its end -/
def vx_MQ (below : List Frame) (Qc : Array Value → State → Outcome → State → Prop) (XC : String → State → State → Prop) (a : Array Value) (s : State) (mc ms : Nat) (free : Addr → Prop) : State → Prop := fun t =>
  ∃ o, t.status = .running ∧ Ended t below o ∧ vx_Q Qc XC mc ms free a s o t
theorem vx_ret {g : JFrame} {mc ms : Nat} (k : W p l e R s m args below meth c H locs cells slots (MQ below Qc args s mc ms free) g) : W p l e R s m args below meth c H locs cells slots (vx_MQ below Qc XC args s mc ms free) g := by
  intro T hT X
  obtain ⟨t, a1, o, b1, b2, b3, b4⟩ := k T hT X
  exact ⟨t, a1, o, b1, b2, Or.inl ⟨b3, b4⟩⟩
/-- not caught here: it goes on to the caller -/
theorem vx_widen {g : JFrame} {q : Addr} {k n : Nat} (h1 : cells ≤ k) (h2 : slots ≤ n) (kk : vx_W p l e R s m args below meth c H locs k n Q g q) : vx_W p l e R s m args below meth c H locs cells slots Q g q := fun T hT X => kk T hT (stand_widen X h1 h2)
theorem vx_out {pc : Nat} {E : String} {ce : Cell} {q : Addr} {mc ms : Nat} (hout : ∀ x ∈ c.exceptionTable.toList, covers x pc = false) (hlocks : meth.locks = false) (hcell : H[q]? = some ce) (hv : ce.vm = .none) (hcl : s.vm.findClass E = some ce.cls)
    (hx : ∀ t : State, t.heap = H → s.vm.Alike t.vm → XC E s t) (hf : ∀ z ∈ locs, free z.base) (hc : cells ≤ mc) (hs : slots ≤ ms) :
    vx_W p l e R s m args below meth c H locs cells slots (vx_MQ below Qc XC args s mc ms free) (F0 m pc ls rest) q := by
  intro T hT X
  obtain ⟨st1, hrun, hend, hW, hsm⟩ := X.leaveThrown q (g := F0 m pc ls rest) rfl rfl rfl hout hlocks
  have hcell9 : (T.setFrames (.throwing q :: below)).heap[q]? = some ce := by
    show T.heap[q]? = some ce
    rw [hT]; exact hcell
  exact ⟨_, st1, .threw q, hrun, hend, Or.inr ⟨q, rfl, E, ce, locs, hx _ hT hW.alike, hcell9, hv, hcl, hW, hsm.mono hc hs, hf⟩⟩
theorem vx_frame {U : State} {k n : Nat} (h : s.sameButNew ({ U with vm := s.vm } : State) locs k n) : s.heap.size ≤ U.heap.size ∧ ∀ q : Nat, q < s.heap.size → (∀ z ∈ locs, z.base ≠ q) → U.heap[q]? = s.heap[q]? := by
  obtain ⟨-, h2, -, -, -, h6⟩ := h
  refine ⟨h2, fun q hq hz => ?_⟩
  obtain ⟨c9, e1, e2, e3, e4⟩ := h6 q _ (Array.getElem?_eq_getElem hq)
  have hs : c9.slots = (s.heap[q]).slots := Array.ext_getElem? fun i => e4 i fun hm => hz _ hm rfl
  have h9 : c9 = s.heap[q] := by
    rw [hs] at e2
    exact e2
  have e5 : U.heap[q]? = some c9 := e1
  rw [e5, h9, Array.getElem?_eq_getElem hq]
/-- the words of a throw but the four that speak of the heap -/
def vx_no (w : Cond) : Bool := decide (w ≠ .isRef (.static Bundle.tN "UNASSIGNED_STACK" Bundle.steD)) && decide (w ≠ .isRef (.static Bundle.tN "SUPPRESSED_SENTINEL" Bundle.listD)) && decide (w ≠ .laysStatic Bundle.tN "UNASSIGNED_STACK" Bundle.steD) && decide (w ≠ .laysStatic Bundle.tN "SUPPRESSED_SENTINEL" Bundle.listD)
def vx_at0 (own : String) (ic : Nat) (X : String) (names : List String) : List Cond := (Bundle.ownAtoms0 own ic X names).filter vx_no
def vx_atS (own : String) (ic : Nat) (X : String) (names : List String) : List Cond := (Bundle.ownAtoms own ic X names).filter vx_no
/-- a word that the tables alone decide, or a good one -/
def vx_ot (w : Cond) : Bool := w.onTables || goodWord w
theorem vx_ot_at {args a' : Array Value} {s U : State} {w : Cond} (hW : s.WarmedH U.vm) (hvm : s.vm = U.vm) (hg : vx_ot w = true) (h : w.before args s = true) : w.before a' U = true := by
  simp only [vx_ot, Bool.or_eq_true] at hg
  rcases hg with hg | hg
  · exact va_tabs hg hvm h
  · exact word_at hW (good_of_word hg) h
/-- a list's words: the good ones out of the method's own list, the others by premises of their own -/
theorem vx_hat {args : Array Value} {s : State} {L B : List Cond} (h1 : ∀ w ∈ L.filter goodWord, w.before args s = true) (h2 : ∀ w ∈ L.filter (fun w => !goodWord w), w ∈ B) (h3 : ∀ w ∈ B, w.before args s = true) : ∀ w ∈ L, w.before args s = true := by
  intro w hw
  by_cases g : goodWord w = true
  · exact h1 w (List.mem_filter.mpr ⟨hw, g⟩)
  · refine h3 w (h2 w (List.mem_filter.mpr ⟨hw, ?_⟩))
    show (!goodWord w) = true
    cases hgw : goodWord w
    · rfl
    · exact absurd hgw g
theorem vx_c {args : Array Value} {s : State} {w : Cond} {B : List Cond} (h : w.before args s = true) (t : ∀ w ∈ B, w.before args s = true) : ∀ w' ∈ w :: B, w'.before args s = true := fun w' h' => (List.mem_cons.mp h').elim (fun e => by rw [e]; exact h) (t w')
theorem vx_n {args : Array Value} {s : State} : ∀ w ∈ ([] : List Cond), w.before args s = true := fun _ h => nomatch h
theorem vx_own {args : Array Value} {s : State} {L : List Cond} (h1 : ∀ w ∈ L.filter vx_no, w.before args s = true)
    (hU : (Cond.isRef (.static Bundle.tN "UNASSIGNED_STACK" Bundle.steD)).before args s = true) (hN : (Cond.isRef (.static Bundle.tN "SUPPRESSED_SENTINEL" Bundle.listD)).before args s = true)
    (lU : (Cond.laysStatic Bundle.tN "UNASSIGNED_STACK" Bundle.steD).before args s = true) (lN : (Cond.laysStatic Bundle.tN "SUPPRESSED_SENTINEL" Bundle.listD).before args s = true) : ∀ w ∈ L, w.before args s = true := by
  intro w hw
  by_cases e1 : w = .isRef (.static Bundle.tN "UNASSIGNED_STACK" Bundle.steD)
  · rw [e1]; exact hU
  · by_cases e2 : w = .isRef (.static Bundle.tN "SUPPRESSED_SENTINEL" Bundle.listD)
    · rw [e2]; exact hN
    · by_cases e3 : w = .laysStatic Bundle.tN "UNASSIGNED_STACK" Bundle.steD
      · rw [e3]; exact lU
      · by_cases e4 : w = .laysStatic Bundle.tN "SUPPRESSED_SENTINEL" Bundle.listD
        · rw [e4]; exact lN
        · exact h1 w (List.mem_filter.mpr ⟨hw, by unfold vx_no; rw [decide_eq_true e1, decide_eq_true e2, decide_eq_true e3, decide_eq_true e4]; rfl⟩)
/-- where a static field lies, its class's statics cell in H -/
def vx_L (C n d : String) (A : Nat → Prop) (U : State) (H : Heap) : Prop := ∃ (c : ClassId) (k : Class) (i : Nat) (f : Field) (a : Nat) (cell : Cell), U.vm.findClass C = some c ∧ U.fieldFound? C n d = some (c, k, i, f) ∧ f.isStatic = true ∧ k.statics = some a ∧ H[a]? = some cell ∧ cell.vm.isStatics = true ∧ cell.cls = c ∧ f.slot < cell.slots.size ∧ k.staticTypes[f.slot]? = some f.type ∧ ¬ A a
theorem vx_L.moved {C n d : String} {A : Nat → Prop} {u U : State} {H : Heap} (hvm : u.vm.Alike U.vm) (h : vx_L C n d A u H) : vx_L C n d A U H := by
  obtain ⟨c, k, i, f, a, cell, h1, h2, h3, h4, h5, h6, h7, h8, h9, h10⟩ := h
  obtain ⟨k', hi', he⟩ := State.fieldFound?_setVm hvm h2
  exact ⟨c, k', i, f, a, cell, by rw [hvm.findClass]; exact h1, hi', h3, by rw [he]; exact h4, h5, h6, h7, h8, by rw [he]; exact h9, h10⟩
theorem vx_L.kept {C n d : String} {A : Nat → Prop} {U : State} {H H1 : Heap} (h : vx_L C n d A U H) (hq : ∀ a : Nat, a < H.size → ¬ A a → H1[a]? = H[a]?) : vx_L C n d A U H1 := by
  obtain ⟨c, k, i, f, a, cell, h1, h2, h3, h4, h5, h6, h7, h8, h9, h10⟩ := h
  exact ⟨c, k, i, f, a, cell, h1, h2, h3, h4, by rw [hq a (Array.getElem?_eq_some_iff.mp h5).1 h10]; exact h5, h6, h7, h8, h9, h10⟩
theorem vx_L.narrow {C n d : String} {A B : Nat → Prop} {U : State} {H : Heap} (h : vx_L C n d A U H) (hAB : ∀ q, B q → A q) : vx_L C n d B U H := by
  obtain ⟨c, k, i, f, a, cell, h1, h2, h3, h4, h5, h6, h7, h8, h9, h10⟩ := h
  exact ⟨c, k, i, f, a, cell, h1, h2, h3, h4, h5, h6, h7, h8, h9, fun z => h10 (hAB _ z)⟩
theorem vx_L.word {C n d : String} {A : Nat → Prop} {s : State} {args : Array Value} (h : vx_L C n d A s s.heap) : (Cond.laysStatic C n d).before args s = true := by
  obtain ⟨c, k, i, f, a, cell, h1, h2, h3, h4, h5, h6, h7, h8, h9, -⟩ := h
  show (Cond.laysStatic C n d).holds args s none s [] = true
  exact Cond.laysStatic_of h1 h2 h3 h4 h5 h6 h7 h8 h9
/-- .. and what it holds: null or some reference -/
def vx_Zq (C n d : String) (A : Nat → Prop) (U : State) (H : Heap) : Prop := va_Zq C n d A U H ∧ vx_L C n d A U H
theorem vx_Zq.moved {C n d : String} {A : Nat → Prop} {u U : State} {H : Heap} (hvm : u.vm.Alike U.vm) (h : vx_Zq C n d A u H) : vx_Zq C n d A U H := ⟨va_Zq.moved hvm h.1, vx_L.moved hvm h.2⟩
theorem vx_Zq.kept {C n d : String} {A : Nat → Prop} {U : State} {H H1 : Heap} (h : vx_Zq C n d A U H) (hq : ∀ a : Nat, a < H.size → ¬ A a → H1[a]? = H[a]?) : vx_Zq C n d A U H1 := ⟨va_Zq.kept h.1 hq, vx_L.kept h.2 hq⟩
theorem vx_Zq.narrow {C n d : String} {A B : Nat → Prop} {U : State} {H : Heap} (h : vx_Zq C n d A U H) (hAB : ∀ q, B q → A q) : vx_Zq C n d B U H := ⟨va_Zq.narrow h.1 hAB, vx_L.narrow h.2 hAB⟩
theorem vx_Zqof {args : Array Value} {s : State} {C n d : String} {A : Nat → Prop} (hl : (Cond.laysStatic C n d).before args s = true) (hini : (Cond.initialized C).before args s = true) (h : (Cond.isRef (.static C n d)).before args s = true) (hA : ∀ a : Nat, a < s.heap.size → ¬ A a) : vx_Zq C n d A s s.heap := by
  refine ⟨va_Zqof hl hini h hA, ?_⟩
  obtain ⟨c, k, i, f, a, cell, h1, h2, h3, h4, h5, h6, h7, h8, h9⟩ := Cond.laysStatic_spec hl
  exact ⟨c, k, i, f, a, cell, h1, h2, h3, h4, h5, h6, h7, h8, h9, hA a (Array.getElem?_eq_some_iff.mp h5).1⟩
theorem vx_isRef {C n d : String} {v : Value} {A : Nat → Prop} {s : State} {args : Array Value} (h : va_Z C n d v A s s.heap) (hv : v.isRef = true) : (Cond.isRef (.static C n d)).before args s = true := by
  obtain ⟨cf, kf, fi, f, a, cell, h1, h2, h3, h4, h5, h6, h7, -⟩ := h
  have he : (Term.static C n d).eval args s none [] s = some v := by
    simp [Term.eval, State.fieldNamed?, h1, h2, h4, h5, h6, h7]
  simp only [Cond.before, Cond.holds, Cond.value, he]
  cases v <;> simp_all [Value.isRef]
theorem vx_isRefq {C n d : String} {A : Nat → Prop} {s : State} {args : Array Value} (h : va_Zq C n d A s s.heap) : (Cond.isRef (.static C n d)).before args s = true := by
  rcases h with h | ⟨t, h⟩
  · exact vx_isRef h rfl
  · exact vx_isRef h rfl
/-- the same frame, seen from here: as if the method were called anew in this heap -/
theorem vx_rebase {T : State} (X : Stand p l e R s m args below meth c T locs cells slots) {R' : Room} (hf : R'.frames ≤ R.frames) (hl : R'.locals ≤ R.locals) (hc : cells + R'.cells ≤ R.cells) (hs : slots + R'.slots ≤ R.slots) :
    Stand p l e R' ((T.setVm s.vm).setFrames (.invoking m args :: below)) m args below meth c T [] 0 0 := by
  have htop : (T.setVm s.vm).topJava?.isSome := X.here.top
  have hF : ((T.setVm s.vm).setFrames (.invoking m args :: below)).frames = .invoking m args :: below := State.frames_setFrames _ (State.cur_lt_of_top htop)
  obtain ⟨g₀, hg0⟩ := Option.isSome_iff_exists.mp htop
  obtain ⟨r, hr⟩ := State.topJava?_eq_some.mp hg0
  have hl9 : e.platform.stackLimits (T.setVm s.vm).me = e.platform.stackLimits s.me := X.limits
  have hb9 : (T.setVm s.vm).me.stackBytes = s.me.stackBytes := X.bytes
  refine ⟨X.admits, X.cas, X.clock, hF, ?_, X.hears, X.method, X.code, X.here, X.tail, X.warmed, ?_, ?_, ?_⟩
  · have h := X.room
    have hU : ((T.setVm s.vm).setFrames (.invoking m args :: below)).localsInUse = s.localsInUse := by
      rw [State.localsInUse_invoking hF (meth := meth) (c := c) X.method X.code, State.localsInUse_invoking X.frames X.method X.code]
    simp only [State.hasRoom, Bool.and_eq_true, decide_eq_true_eq] at h ⊢
    obtain ⟨⟨⟨⟨h1, h2, h3, h4, h5, h6⟩, h7⟩, h8⟩, h9⟩ := h
    rw [X.frames, List.length_cons] at h2 h3
    have q1 := X.heapSize
    have q2 := X.used
    simp only [hF, hU, List.length_cons, State.stackLimits_setFrames, State.stackBytes_setFrames, hl9, hb9]
    refine ⟨⟨⟨⟨by omega, by omega, by omega, by omega, by omega, h6⟩, ?_⟩, ?_⟩, X.book⟩
    · show T.heap.size + R'.cells ≤ e.platform.maxCells
      omega
    · show T.slotsUsed + R'.slots ≤ e.platform.maxSlots
      omega
  · rw [State.stackLimits_setFrames]; rfl
  · rw [State.stackBytes_setFrames]; rfl
  · refine ⟨?_, Nat.le_refl _, Nat.le_refl _, ?_, ?_, fun a c9 h9 => ⟨c9, h9, rfl, rfl, fun _ _ => rfl⟩⟩
    · obtain ⟨t, ht, -⟩ := State.frames_cons hr
      show T.setVm s.vm = { ((T.setVm s.vm).setFrames (.invoking m args :: below)).setFrames (T.setVm s.vm).frames with heap := T.heap, slotsUsed := T.slotsUsed }
      rw [State.setFrames_setFrames, State.setFrames_self ht]
      rfl
    · show T.slotsUsed = T.slotsUsed + ((T.heap.toList.drop T.heap.size).map (·.slots.size)).sum
      rw [List.drop_eq_nil_of_le (Nat.le_of_eq Array.length_toList)]
      rfl
    · show ((T.heap.toList.drop T.heap.size).map (·.slots.size)).sum ≤ 0
      rw [List.drop_eq_nil_of_le (Nat.le_of_eq Array.length_toList)]
      exact Nat.le_refl _
/-- 'throw new E()': new; dup; invokespecial; athrow -/
theorem vx_throw0 {cc : ByteArray} {pc : Nat} (hexec : p.tables.exec = Jvm.exec) (hb : c.code = cc) (hl : l.stackTraces = false) {own cls : String} {names : List String} {ik ic mc ms : Nat} {A : Nat → Prop}
    (hown : s.vm.findClass own = some m.cls) (hcls : Bundle.fit cls = true) (hnames : ∀ n ∈ names, Bundle.fit n = true)
    (hk : (Cond.classLink own ik cls).before args s = true) (hini : (Cond.initialized cls).before args s = true) (hat : ∀ w ∈ vx_at0 own ic cls names, w.before args s = true)
    (hgood : ∀ w ∈ Cond.classLink own ik cls :: Cond.initialized cls :: vx_at0 own ic cls names, vx_ot w = true)
    (hU : vx_Zq Bundle.tN "UNASSIGNED_STACK" Bundle.steD A s s.heap) (hN : vx_Zq Bundle.tN "SUPPRESSED_SENTINEL" Bundle.listD A s s.heap) (hS : va_S A s.heap H locs) (hsize : ls.size = c.maxLocals)
    (d0 : decode cc pc = .ok (.new ik, 3)) (d3 : decode cc (pc + 3) = .ok (.dup, 1)) (d4 : decode cc (pc + 4) = .ok (.invokespecial ic, 3)) (d7 : decode cc (pc + 7) = .ok (.athrow, 1))
    (hout : ∀ x ∈ c.exceptionTable.toList, covers x (pc + 7) = false)
    (hRframes : names.length + 3 < R.frames) (hRlocals : (rest.map fun v => v.category).sum + (13 * (names.length + 1) + 42) ≤ R.locals) (hRcells : cells + 1 ≤ R.cells) (hRslots : slots + 6 ≤ R.slots) (hlocks : meth.locks = false)
    (hx : ∀ t : State, s.vm.Alike t.vm → H.size ≤ t.heap.size → (∀ q : Nat, q < H.size → t.heap[q]? = H[q]?) → XC cls s t)
    (hf : ∀ z ∈ locs, free z.base) (hc : cells + 1 ≤ mc) (hs : slots + 6 ≤ ms) :
    W p l e R s m args below meth c H locs cells slots (vx_MQ below Qc XC args s mc ms free) (F0 m pc ls rest) := by
  intro T hT X
  have htr : e.platform.stackTraces = false := (show e.platform.stackTraces = l.stackTraces by rw [X.admits.platform]).trans hl
  have Y := vx_rebase X (R' := { frames := R.frames, locals := R.locals, cells := 1, slots := 6 }) (Nat.le_refl _) (Nat.le_refl _) hRcells hRslots
  obtain ⟨s', hA⟩ : ∃ z, z = (T.setVm s.vm).setFrames (.invoking m args :: below) := ⟨_, rfl⟩
  rw [← hA] at Y
  have hvm : s'.vm = s.vm := by rw [hA]; rfl
  have hhp : s'.heap = H := by rw [hA]; exact hT
  have hW0 : s.WarmedH s'.vm := by rw [hvm]; exact State.WarmedH.refl s
  have hat' : ∀ w ∈ vx_at0 own ic cls names, w.before args s' = true := fun w hw => vx_ot_at hW0 hvm.symm (hgood w (List.mem_cons_of_mem _ (List.mem_cons_of_mem _ hw))) (hat w hw)
  have hk' : (Cond.classLink own ik cls).before args s' = true := vx_ot_at hW0 hvm.symm (hgood _ List.mem_cons_self) hk
  have hini' : (Cond.initialized cls).before args s' = true := vx_ot_at hW0 hvm.symm (hgood _ (List.mem_cons_of_mem _ List.mem_cons_self)) hini
  have hU' : vx_Zq Bundle.tN "UNASSIGNED_STACK" Bundle.steD A s' s'.heap := by rw [hhp]; exact vx_Zq.moved hW0.alike (hU.kept hS.2.1)
  have hN' : vx_Zq Bundle.tN "SUPPRESSED_SENTINEL" Bundle.listD A s' s'.heap := by rw [hhp]; exact vx_Zq.moved hW0.alike (hN.kept hS.2.1)
  have h : ∀ w ∈ Bundle.ownAtoms0 own ic cls names, w.before args s' = true := vx_own hat' (vx_isRefq hU'.1) (vx_isRefq hN'.1) hU'.2.word hN'.2.word
  have hown' : s'.vm.findClass own = some m.cls := by rw [hvm]; exact hown
  have hins : (Cond.instantiable cls 6).before args s' = true := h _ (by simp [Bundle.ownAtoms0])
  obtain ⟨vm₁, cX, kX, hfX, hkX, -, -, X₁, st1⟩ := Y.newCold hexec (own := own) (C := cls) (index := ik) (n := 6) hown' hk' hins hini'
    (g := F0 m pc ls rest) rfl (by rw [hb]; exact d0) (Nat.le_refl _) (Nat.le_refl _)
  generalize hT1 : (T.setVm vm₁).pushCell { cls := cX, slots := kX.instanceTypes.map defaultValue, vm := .none } = T1 at X₁ st1
  have hcat : (Value.ref T.heap.size).category = 1 := rfl
  have hcellA : T1.heap[T.heap.size]? = some (freshCell cX kX) := by rw [← hT1]; exact State.heap_pushCell_size _ _
  have d3' : decode c.code (pc + 3) = .ok (.dup, 1) := by rw [hb]; exact d3
  obtain ⟨U, hsteps, hrun, hend, hW, hsame, ce, hce, hO⟩ := X₁.ctorThrow0 hexec htr (own := own) (cls := cls) (names := names) (ic := ic) hown' hcls hnames h (fun x hx => nomatch hx) hfX hkX hcellA (by rw [hhp, hT]; exact Nat.le_refl _)
    (g := { method := m, pc := pc + 4, locals := ls, stack := .ref T.heap.size :: .ref T.heap.size :: rest, locked := none }) rfl hsize rfl rfl (rest := rest) rfl
    (by rw [hb]; exact d4) (by rw [hb]; exact d7) hout hRframes (by simp only [List.map_cons, List.sum_cons, hcat]; omega) hlocks
  obtain ⟨f1, f2⟩ := vx_frame hsame
  rw [hhp] at f1 f2
  have hWs : s.WarmedH U.vm := State.WarmedH.trans hW0 hW
  have hcl : s.vm.findClass cls = some ce.cls := by
    have h9 := hO.cls
    rw [hvm] at h9
    exact h9
  have hall : s.sameButNew ({ U with vm := s.vm } : State) locs mc ms := by
    subst hA
    obtain ⟨e1, e2⟩ := hsame
    rw [State.setFrames_setFrames] at e1
    have h2 : (T.setVm s.vm).sameButNew ({ U with vm := s.vm } : State) [] (0 + 1) (0 + 6) := ⟨e1, e2⟩
    have h3 := X.same.trans h2
    rw [List.append_nil] at h3
    exact h3.mono hc hs
  refine ⟨U, ?_, .threw T.heap.size, hrun, hend, Or.inr ⟨T.heap.size, rfl, cls, ce, locs, hx U hWs.alike f1 (fun q hq => f2 q hq (fun z hz => nomatch hz)), hce, hO.vm, hcl, hWs, hall, hf⟩⟩
  refine st1 _ ?_
  show Steps p.tables e below (T1.setTop { method := m, pc := pc + 3, locals := ls, stack := .ref T.heap.size :: rest, locked := none }) _
  jvm_step X₁.here [X₁.here.top, hexec, d3', Value.category]
  exact hsteps
/-- 'throw new E("text")': new; dup; ldc; invokespecial; athrow -/
theorem vx_throwS {cc : ByteArray} {pc : Nat} (hexec : p.tables.exec = Jvm.exec) (hb : c.code = cc) (hl : l.stackTraces = false) {own cls text : String} {names : List String} {ik is ic mc ms sa : Nat} {A : Nat → Prop}
    (hown : s.vm.findClass own = some m.cls) (hcls : Bundle.fit cls = true) (hnames : ∀ n ∈ names, Bundle.fit n = true)
    (hk : (Cond.classLink own ik cls).before args s = true) (hini : (Cond.initialized cls).before args s = true) (hstr : vk_R own is text sa s) (hat : ∀ w ∈ vx_atS own ic cls names, w.before args s = true)
    (hgood : ∀ w ∈ Cond.classLink own ik cls :: Cond.initialized cls :: vx_atS own ic cls names, vx_ot w = true)
    (hU : vx_Zq Bundle.tN "UNASSIGNED_STACK" Bundle.steD A s s.heap) (hN : vx_Zq Bundle.tN "SUPPRESSED_SENTINEL" Bundle.listD A s s.heap) (hS : va_S A s.heap H locs) (hsize : ls.size = c.maxLocals)
    (d0 : decode cc pc = .ok (.new ik, 3)) (d3 : decode cc (pc + 3) = .ok (.dup, 1)) (d4 : decode cc (pc + 4) = .ok (.ldc is, 2)) (d6 : decode cc (pc + 6) = .ok (.invokespecial ic, 3)) (d9 : decode cc (pc + 9) = .ok (.athrow, 1))
    (hout : ∀ x ∈ c.exceptionTable.toList, covers x (pc + 9) = false)
    (hRframes : names.length + 3 < R.frames) (hRlocals : (rest.map fun v => v.category).sum + (13 * (names.length + 1) + 43) ≤ R.locals) (hRcells : cells + 1 ≤ R.cells) (hRslots : slots + 6 ≤ R.slots) (hlocks : meth.locks = false)
    (hx : ∀ t : State, s.vm.Alike t.vm → H.size ≤ t.heap.size → (∀ q : Nat, q < H.size → t.heap[q]? = H[q]?) → XC cls s t)
    (hf : ∀ z ∈ locs, free z.base) (hc : cells + 1 ≤ mc) (hs : slots + 6 ≤ ms) :
    W p l e R s m args below meth c H locs cells slots (vx_MQ below Qc XC args s mc ms free) (F0 m pc ls rest) := by
  intro T hT X
  have htr : e.platform.stackTraces = false := (show e.platform.stackTraces = l.stackTraces by rw [X.admits.platform]).trans hl
  have Y := vx_rebase X (R' := { frames := R.frames, locals := R.locals, cells := 1, slots := 6 }) (Nat.le_refl _) (Nat.le_refl _) hRcells hRslots
  obtain ⟨s', hA⟩ : ∃ z, z = (T.setVm s.vm).setFrames (.invoking m args :: below) := ⟨_, rfl⟩
  rw [← hA] at Y
  have hvm : s'.vm = s.vm := by rw [hA]; rfl
  have hhp : s'.heap = H := by rw [hA]; exact hT
  have hW0 : s.WarmedH s'.vm := by rw [hvm]; exact State.WarmedH.refl s
  have hat' : ∀ w ∈ vx_atS own ic cls names, w.before args s' = true := fun w hw => vx_ot_at hW0 hvm.symm (hgood w (List.mem_cons_of_mem _ (List.mem_cons_of_mem _ hw))) (hat w hw)
  have hk' : (Cond.classLink own ik cls).before args s' = true := vx_ot_at hW0 hvm.symm (hgood _ List.mem_cons_self) hk
  have hini' : (Cond.initialized cls).before args s' = true := vx_ot_at hW0 hvm.symm (hgood _ (List.mem_cons_of_mem _ List.mem_cons_self)) hini
  have hU' : vx_Zq Bundle.tN "UNASSIGNED_STACK" Bundle.steD A s' s'.heap := by rw [hhp]; exact vx_Zq.moved hW0.alike (hU.kept hS.2.1)
  have hN' : vx_Zq Bundle.tN "SUPPRESSED_SENTINEL" Bundle.listD A s' s'.heap := by rw [hhp]; exact vx_Zq.moved hW0.alike (hN.kept hS.2.1)
  have h : ∀ w ∈ Bundle.ownAtoms own ic cls names, w.before args s' = true := vx_own hat' (vx_isRefq hU'.1) (vx_isRefq hN'.1) hU'.2.word hN'.2.word
  have hown' : s'.vm.findClass own = some m.cls := by rw [hvm]; exact hown
  have hins : (Cond.instantiable cls 6).before args s' = true := h _ (by simp [Bundle.ownAtoms])
  obtain ⟨vm₁, cX, kX, hfX, hkX, -, -, X₁, st1⟩ := Y.newCold hexec (own := own) (C := cls) (index := ik) (n := 6) hown' hk' hins hini'
    (g := F0 m pc ls rest) rfl (by rw [hb]; exact d0) (Nat.le_refl _) (Nat.le_refl _)
  generalize hT1 : (T.setVm vm₁).pushCell { cls := cX, slots := kX.instanceTypes.map defaultValue, vm := .none } = T1 at X₁ st1
  have hcat : (Value.ref T.heap.size).category = 1 := rfl
  have hcellA : T1.heap[T.heap.size]? = some (freshCell cX kX) := by rw [← hT1]; exact State.heap_pushCell_size _ _
  have d3' : decode c.code (pc + 3) = .ok (.dup, 1) := by rw [hb]; exact d3
  have d4' : decode c.code (pc + 4) = .ok (.ldc is, 2) := by rw [hb]; exact d4
  have hstr' : vk_R own is text sa s' := vk_R.warm hW0 hstr
  obtain ⟨U, hsteps, hrun, hend, hW, hsame, ce, hce, hO⟩ := X₁.ctorThrowS hexec htr (own := own) (cls := cls) (names := names) (ic := ic) hown' hcls hnames h (fun x hx => nomatch hx) hfX hkX hcellA (by rw [hhp, hT]; exact Nat.le_refl _) (msg := .ref sa) rfl
    (g := { method := m, pc := pc + 6, locals := ls, stack := .ref sa :: .ref T.heap.size :: .ref T.heap.size :: rest, locked := none }) rfl hsize rfl rfl (rest := rest) rfl
    (by rw [hb]; exact d6) (by rw [hb]; exact d9) hout hRframes (by simp only [List.map_cons, List.sum_cons, hcat]; omega) hlocks
  obtain ⟨f1, f2⟩ := vx_frame hsame
  rw [hhp] at f1 f2
  have hWs : s.WarmedH U.vm := State.WarmedH.trans hW0 hW
  have hcl : s.vm.findClass cls = some ce.cls := by
    have h9 := hO.cls
    rw [hvm] at h9
    exact h9
  have hall : s.sameButNew ({ U with vm := s.vm } : State) locs mc ms := by
    subst hA
    obtain ⟨e1, e2⟩ := hsame
    rw [State.setFrames_setFrames] at e1
    have h2 : (T.setVm s.vm).sameButNew ({ U with vm := s.vm } : State) [] (0 + 1) (0 + 6) := ⟨e1, e2⟩
    have h3 := X.same.trans h2
    rw [List.append_nil] at h3
    exact h3.mono hc hs
  refine ⟨U, ?_, .threw T.heap.size, hrun, hend, Or.inr ⟨T.heap.size, rfl, cls, ce, locs, hx U hWs.alike f1 (fun q hq => f2 q hq (fun z hz => nomatch hz)), hce, hO.vm, hcl, hWs, hall, hf⟩⟩
  refine st1 _ ?_
  show Steps p.tables e below (T1.setTop { method := m, pc := pc + 3, locals := ls, stack := .ref T.heap.size :: rest, locked := none }) _
  jvm_step X₁.here [X₁.here.top, hexec, d3', Value.category]
  exact X₁.ldcString hexec (own := own) (text := text) (index := is) (a := sa) hown' hstr'.1 hstr'.2
    (g := { method := m, pc := pc + 4, locals := ls, stack := .ref T.heap.size :: .ref T.heap.size :: rest, locked := none }) rfl d4' _ hsteps
/-- 'throw new E("text")', the text by a wide index -/
theorem vx_throwSW {cc : ByteArray} {pc : Nat} (hexec : p.tables.exec = Jvm.exec) (hb : c.code = cc) (hl : l.stackTraces = false) {own cls text : String} {names : List String} {ik is ic mc ms sa : Nat} {A : Nat → Prop}
    (hown : s.vm.findClass own = some m.cls) (hcls : Bundle.fit cls = true) (hnames : ∀ n ∈ names, Bundle.fit n = true)
    (hk : (Cond.classLink own ik cls).before args s = true) (hini : (Cond.initialized cls).before args s = true) (hstr : vk_R own is text sa s) (hat : ∀ w ∈ vx_atS own ic cls names, w.before args s = true)
    (hgood : ∀ w ∈ Cond.classLink own ik cls :: Cond.initialized cls :: vx_atS own ic cls names, vx_ot w = true)
    (hU : vx_Zq Bundle.tN "UNASSIGNED_STACK" Bundle.steD A s s.heap) (hN : vx_Zq Bundle.tN "SUPPRESSED_SENTINEL" Bundle.listD A s s.heap) (hS : va_S A s.heap H locs) (hsize : ls.size = c.maxLocals)
    (d0 : decode cc pc = .ok (.new ik, 3)) (d3 : decode cc (pc + 3) = .ok (.dup, 1)) (d4 : decode cc (pc + 4) = .ok (.ldc_w is, 3)) (d7 : decode cc (pc + 7) = .ok (.invokespecial ic, 3)) (d10 : decode cc (pc + 10) = .ok (.athrow, 1))
    (hout : ∀ x ∈ c.exceptionTable.toList, covers x (pc + 10) = false)
    (hRframes : names.length + 3 < R.frames) (hRlocals : (rest.map fun v => v.category).sum + (13 * (names.length + 1) + 43) ≤ R.locals) (hRcells : cells + 1 ≤ R.cells) (hRslots : slots + 6 ≤ R.slots) (hlocks : meth.locks = false)
    (hx : ∀ t : State, s.vm.Alike t.vm → H.size ≤ t.heap.size → (∀ q : Nat, q < H.size → t.heap[q]? = H[q]?) → XC cls s t)
    (hf : ∀ z ∈ locs, free z.base) (hc : cells + 1 ≤ mc) (hs : slots + 6 ≤ ms) :
    W p l e R s m args below meth c H locs cells slots (vx_MQ below Qc XC args s mc ms free) (F0 m pc ls rest) := by
  intro T hT X
  have htr : e.platform.stackTraces = false := (show e.platform.stackTraces = l.stackTraces by rw [X.admits.platform]).trans hl
  have Y := vx_rebase X (R' := { frames := R.frames, locals := R.locals, cells := 1, slots := 6 }) (Nat.le_refl _) (Nat.le_refl _) hRcells hRslots
  obtain ⟨s', hA⟩ : ∃ z, z = (T.setVm s.vm).setFrames (.invoking m args :: below) := ⟨_, rfl⟩
  rw [← hA] at Y
  have hvm : s'.vm = s.vm := by rw [hA]; rfl
  have hhp : s'.heap = H := by rw [hA]; exact hT
  have hW0 : s.WarmedH s'.vm := by rw [hvm]; exact State.WarmedH.refl s
  have hat' : ∀ w ∈ vx_atS own ic cls names, w.before args s' = true := fun w hw => vx_ot_at hW0 hvm.symm (hgood w (List.mem_cons_of_mem _ (List.mem_cons_of_mem _ hw))) (hat w hw)
  have hk' : (Cond.classLink own ik cls).before args s' = true := vx_ot_at hW0 hvm.symm (hgood _ List.mem_cons_self) hk
  have hini' : (Cond.initialized cls).before args s' = true := vx_ot_at hW0 hvm.symm (hgood _ (List.mem_cons_of_mem _ List.mem_cons_self)) hini
  have hU' : vx_Zq Bundle.tN "UNASSIGNED_STACK" Bundle.steD A s' s'.heap := by rw [hhp]; exact vx_Zq.moved hW0.alike (hU.kept hS.2.1)
  have hN' : vx_Zq Bundle.tN "SUPPRESSED_SENTINEL" Bundle.listD A s' s'.heap := by rw [hhp]; exact vx_Zq.moved hW0.alike (hN.kept hS.2.1)
  have h : ∀ w ∈ Bundle.ownAtoms own ic cls names, w.before args s' = true := vx_own hat' (vx_isRefq hU'.1) (vx_isRefq hN'.1) hU'.2.word hN'.2.word
  have hown' : s'.vm.findClass own = some m.cls := by rw [hvm]; exact hown
  have hins : (Cond.instantiable cls 6).before args s' = true := h _ (by simp [Bundle.ownAtoms])
  obtain ⟨vm₁, cX, kX, hfX, hkX, -, -, X₁, st1⟩ := Y.newCold hexec (own := own) (C := cls) (index := ik) (n := 6) hown' hk' hins hini'
    (g := F0 m pc ls rest) rfl (by rw [hb]; exact d0) (Nat.le_refl _) (Nat.le_refl _)
  generalize hT1 : (T.setVm vm₁).pushCell { cls := cX, slots := kX.instanceTypes.map defaultValue, vm := .none } = T1 at X₁ st1
  have hcat : (Value.ref T.heap.size).category = 1 := rfl
  have hcellA : T1.heap[T.heap.size]? = some (freshCell cX kX) := by rw [← hT1]; exact State.heap_pushCell_size _ _
  have d3' : decode c.code (pc + 3) = .ok (.dup, 1) := by rw [hb]; exact d3
  have d4' : decode c.code (pc + 4) = .ok (.ldc_w is, 3) := by rw [hb]; exact d4
  have hstr' : vk_R own is text sa s' := vk_R.warm hW0 hstr
  obtain ⟨U, hsteps, hrun, hend, hW, hsame, ce, hce, hO⟩ := X₁.ctorThrowS hexec htr (own := own) (cls := cls) (names := names) (ic := ic) hown' hcls hnames h (fun x hx => nomatch hx) hfX hkX hcellA (by rw [hhp, hT]; exact Nat.le_refl _) (msg := .ref sa) rfl
    (g := { method := m, pc := pc + 7, locals := ls, stack := .ref sa :: .ref T.heap.size :: .ref T.heap.size :: rest, locked := none }) rfl hsize rfl rfl (rest := rest) rfl
    (by rw [hb]; exact d7) (by rw [hb]; exact d10) hout hRframes (by simp only [List.map_cons, List.sum_cons, hcat]; omega) hlocks
  obtain ⟨f1, f2⟩ := vx_frame hsame
  rw [hhp] at f1 f2
  have hWs : s.WarmedH U.vm := State.WarmedH.trans hW0 hW
  have hcl : s.vm.findClass cls = some ce.cls := by
    have h9 := hO.cls
    rw [hvm] at h9
    exact h9
  have hall : s.sameButNew ({ U with vm := s.vm } : State) locs mc ms := by
    subst hA
    obtain ⟨e1, e2⟩ := hsame
    rw [State.setFrames_setFrames] at e1
    have h2 : (T.setVm s.vm).sameButNew ({ U with vm := s.vm } : State) [] (0 + 1) (0 + 6) := ⟨e1, e2⟩
    have h3 := X.same.trans h2
    rw [List.append_nil] at h3
    exact h3.mono hc hs
  refine ⟨U, ?_, .threw T.heap.size, hrun, hend, Or.inr ⟨T.heap.size, rfl, cls, ce, locs, hx U hWs.alike f1 (fun q hq => f2 q hq (fun z hz => nomatch hz)), hce, hO.vm, hcl, hWs, hall, hf⟩⟩
  refine st1 _ ?_
  show Steps p.tables e below (T1.setTop { method := m, pc := pc + 3, locals := ls, stack := .ref T.heap.size :: rest, locked := none }) _
  jvm_step X₁.here [X₁.here.top, hexec, d3', Value.category]
  exact X₁.ldcStringW hexec (own := own) (text := text) (index := is) (a := sa) hown' hstr'.1 hstr'.2
    (g := { method := m, pc := pc + 4, locals := ls, stack := .ref T.heap.size :: .ref T.heap.size :: rest, locked := none }) rfl d4' _ hsteps
end Ends
section Bodies
variable {l : Launch}
theorem vx_ofW {y : MethodName} {ws ws' : List Cond} {rm : Room} {Pc : Array Value → State → Prop} {Qc : Array Value → State → Outcome → State → Prop} {XC : String → State → State → Prop} {mc ms : Nat} {free : Addr → Prop} {cc : ByteArray} {maxL : Nat} {ret : Option FieldType}
    (hy : plainName y.cls = true) (hw : ws = Cond.code y cc maxL ret :: ws')
    (body : ∀ p e s m args below meth c s₁, BodyLoose p l y (headSpec ws rm) cc maxL ret e s m args below meth c s₁ → c.maxLocals = maxL → (∀ x ∈ c.exceptionTable.toList, False) → Pc args s →
      W p l e (headSpec ws rm).room s m args below meth c s.heap [] 0 0 (vx_MQ below Qc XC args s mc ms free) (entryFrame m args maxL)) : vx_Met l y ws rm Pc Qc XC mc ms free := by
  refine MetFree.of_bodyS (code := cc) (maxLocals := maxL) (ret := ret) hy ?_ ?_
  · intro args s m h hn
    obtain ⟨meth, c, h1, h2, h3, h4, h5, h6, -, -⟩ := Cond.code_spec hn (atoms_spec (ws := ws) h _ (by rw [hw]; exact List.mem_cons_self))
    exact ⟨meth, c, h1, h2, h3, h4, h5, h6⟩
  · intro p e s m args below meth c s₁ B hml hP _
    have hh0 : s₁.heap = s.heap := by rw [B.state]; rfl
    have ht : ∀ x ∈ c.exceptionTable.toList, False := by
      obtain ⟨meth9, c9, h1, h2, -, -, -, -, h7, -⟩ := Cond.code_spec B.named (atoms_spec (ws := ws) B.pre _ (by rw [hw]; exact List.mem_cons_self))
      cases Option.some.inj (h1.symm.trans B.method)
      cases Option.some.inj (h2.symm.trans (Stand.of_body B).code)
      intro x hx
      rw [Array.isEmpty_iff.mp h7] at hx
      cases hx
    obtain ⟨t, a1, o, b1, b2, b3⟩ := body p e s m args below meth c s₁ B hml ht hP s₁ hh0 (Stand.of_body B)
    exact ⟨t, o, a1, b1, b2, b3⟩
/-- the table of a body with handlers -/
theorem vx_table {p : Program} {x y : MethodName} {S : Spec} {cc bytes : ByteArray} {maxL maxL' : Nat} {ret ret' : Option FieldType} {e : Env} {s s₁ : State} {m : MethodId} {args : Array Value} {below : List Frame} {meth : Method} {c : Code} {hh : List (Nat × Nat × Nat × Nat)}
    (B : BodyLoose p l y S cc maxL ret e s m args below meth c s₁) (h : (Cond.codeWith y bytes maxL' ret' hh).before args s = true) : c.exceptionTable.toList = tableOf hh := by
  obtain ⟨m9, meth9, c9, hn9, h1, h2, -, -, h6, -⟩ := Cond.codeWith_spec h
  cases Option.some.inj (hn9.symm.trans B.named)
  cases Option.some.inj (h1.symm.trans B.method)
  cases Option.some.inj (h2.symm.trans (Stand.of_body B).code)
  rw [← h6, table_eq]
end Bodies
end VXA
/-! ===== END ===== -/
/-! ===== BEGIN a static call of a method with an exception table ===== -/
section VXS
variable {p : Program} {l : Launch} {e : Env} {R : Room} {s : State} {m : MethodId} {args : Array Value} {below : List Frame} {meth : Method} {c : Code} {T : State} {H : Heap} {locs : List Loc} {cells slots : Nat}
abbrev vx_CSW (R : Room) (s : State) (args : Array Value) (own : String) (index : Nat) (y : MethodName) (bytes : ByteArray) (maxL : Nat) (ret : Option FieldType) (hh : List (Nat × Nat × Nat × Nat)) (ws : List Cond) (rm : Room) (mc ms n : Nat) : Prop :=
  (rm.cells = mc ∧ rm.slots = ms ∧ rm.frames + 1 ≤ R.frames ∧ 8 + (maxL + 11) + rm.locals ≤ R.locals ∧ (∀ w ∈ ws, ∀ (a' : Array Value) (U : State), s.WarmedH U.vm → w.before a' U = true) ∧ Cond.codeWith y bytes maxL ret hh ∈ ws) ∧
  (Cond.codeWith y bytes maxL ret hh).before args s = true ∧ (Cond.initialized y.cls).before args s = true ∧ (y.cls ≠ "java/lang/invoke/MethodHandle" ∧ y.cls ≠ "java/lang/invoke/VarHandle") ∧
  (∀ sig, parseMethodDescriptor y.desc = some sig → n = sig.parameters.length) ∧ (Cond.methodLink own index y).before args s = true ∧ (Cond.static y).before args s = true
theorem vx_cwSW {own : String} {index maxL mc ms : Nat} {y : MethodName} {bytes : ByteArray} {ret : Option FieldType} {hh : List (Nat × Nat × Nat × Nat)} {Ts ws ws' : List Cond} {rm : Room} (n : Nat) (ht : ∀ w ∈ Ts, w.before args s = true) (hT : GoodIn Ts (va_wsS own index y ws)) (hw : ws = Cond.codeWith y bytes maxL ret hh :: ws') (hrc : rm.cells = mc) (hrs : rm.slots = ms)
    (hd : y.cls ≠ "java/lang/invoke/MethodHandle" ∧ y.cls ≠ "java/lang/invoke/VarHandle" ∧ (parseMethodDescriptor y.desc).map (fun d => d.parameters.length) = some n) (hR : rm.frames + 1 ≤ R.frames ∧ 8 + (maxL + 11) + rm.locals ≤ R.locals) :
    vx_CSW R s args own index y bytes maxL ret hh ws rm mc ms n := by
  have ok : ∀ w ∈ va_wsS own index y ws, w.before args s = true := fun w h => ht w (hT w h).1
  have hG : GoodIn Ts ws := fun w h => hT w (by unfold va_wsS; exact List.mem_append_right _ h)
  have hc : Cond.codeWith y bytes maxL ret hh ∈ ws := by rw [hw]; exact List.mem_cons_self
  refine ⟨⟨hrc, hrs, hR.1, hR.2, pay_in ht hG, hc⟩, ht _ (hG _ hc).1, ok _ (by simp [va_wsS]), ⟨hd.1, hd.2.1⟩, fun sig h => ?_, ok _ (by simp [va_wsS]), ok _ (by simp [va_wsS])⟩
  have h2 := hd.2.2
  rw [h] at h2
  exact (Option.some.inj h2).symm
theorem vx_callSW (X : Stand p l e R s m args below meth c T locs cells slots) (hexec : p.tables.exec = Jvm.exec) {own : String} {index : Nat} {y : MethodName} {bytes : ByteArray} {maxL : Nat} {ret : Option FieldType} {hh : List (Nat × Nat × Nat × Nat)}
    (hown : s.vm.findClass own = some m.cls) (hlink : (Cond.methodLink own index y).before args s = true) (hstat : (Cond.static y).before args s = true) (hinit : (Cond.initialized y.cls).before args s = true)
    (hcode : (Cond.codeWith y bytes maxL ret hh).before args s = true) (hy : y.cls ≠ "java/lang/invoke/MethodHandle" ∧ y.cls ≠ "java/lang/invoke/VarHandle")
    {W9 : Nat} {Pre : Pt → Array Value → Prop} {Post : Pt → Array Value → Option Value → Pt → Prop} (hK : Back l R p e below s args y 3 W9 Pre Post)
    {g : JFrame} (hg : g.method = m) (hsize : g.locals.size = c.maxLocals) {argsL rest : List Value} (hlen : ∀ sig, parseMethodDescriptor y.desc = some sig → argsL.length = sig.parameters.length)
    (hstack : g.stack = argsL.reverse ++ rest) (hW : 2 * g.monitorRoom + (rest.map fun v => v.category).sum ≤ W9) (hdg : decode c.code g.pc = .ok (.invokestatic index, 3))
    (hpre : ∀ vm₁, s.WarmedH vm₁ → Pre ⟨T.setVm vm₁, locs, cells, slots⟩ argsL.toArray) :
    ∃ (v : Option Value) (vm₁ : Vm) (B : Pt), s.WarmedH vm₁ ∧ Stand p l e R s m args below meth c B.U B.locs B.cells B.slots ∧ Post ⟨T.setVm vm₁, locs, cells, slots⟩ argsL.toArray v B ∧
      ∀ target, Steps p.tables e below (B.U.setTop { g with pc := g.pc + 3, stack := v.toList ++ rest }) target → Steps p.tables e below (T.setTop g) target := by
  obtain ⟨mk, methM, cM, hnamed, hmethM, -, -, -, -, -, -, hsigM⟩ := Cond.codeWith_spec hcode
  have hstatic : methM.isStatic = true := Cond.static_spec hnamed hmethM hstat
  obtain ⟨kP, hkP, -⟩ := className_of_methodNamed hnamed
  have hinitP : kP.init = .initialized := Cond.initialized_spec (findClass_of_methodNamed hnamed) hkP hinit
  obtain ⟨vm₁, X₁, hstep₁⟩ := X.invokestatic hexec hown hlink hnamed hmethM hstatic hkP hinitP hy (g := g) hg (argsL := argsL) (rest := rest) (hlen _ hsigM) hstack hdg
  obtain ⟨v, B, X', hpost, hsteps⟩ := hK m meth c ⟨T.setVm vm₁, locs, cells, slots⟩ { g with stack := rest } (.invokestatic index) mk argsL.toArray X₁ hg hsize hdg hW (X₁.named hnamed) (hpre vm₁ X₁.warmed)
  exact ⟨v, vm₁, B, X₁.warmed, X', hpost, fun target h => hstep₁ _ fun acts => by rw [doInvoke_state]; exact hsteps.trans h⟩
theorem vx_runSW {y : MethodName} {bytes cc : ByteArray} {maxL nL mc ms n index : Nat} {ret : Option FieldType} {hh : List (Nat × Nat × Nat × Nat)} {ws : List Cond} {rm : Room} {Pc : Array Value → State → Prop} {Qc : Array Value → State → Outcome → State → Prop} {free : Addr → Prop} {Ts : List Cond} {own : String} {As rest : List Value} {g : JFrame}
    (S : CallFix p m c cc nL s args Ts own) (hM : Met l y ws rm Pc Qc mc ms free) (cw : vx_CSW R s args own index y bytes maxL ret hh ws rm mc ms n) (hp : PreS s H Pc As)
    (hg : g.method = m) (hn : As.length = n) (hsize : g.locals.size = nL) (hstack : g.stack = As.reverse ++ rest) (hW : 2 * g.monitorRoom + (rest.map fun v => v.category).sum ≤ 8) (hdg : decode cc g.pc = .ok (.invokestatic index, 3)) (hf : cells + mc ≤ R.cells ∧ slots + ms ≤ R.slots) :
    va_Run p l e R s m args below meth c H locs cells slots mc ms g rest (Qc As.toArray) (free) := by
  obtain ⟨⟨hrc, hrs, hfr, hlo, hws, hcw⟩, hcode, hini, hy, hlen, hl, hstt⟩ := cw
  have hK : Back l R p e below s args y 3 8 (PreOf R mc ms Pc) (PostOf Qc mc ms free) := va_backW (hh := hh) (bytes := bytes) (maxL := maxL) (ret := ret) hM hp.1 hrc hrs hfr hlo hws hcw (fun a' U hW => word_at hW (Or.inl (by first | rfl | simp [Cond.onTables, Cond.keeps, Cond.steady])) hini)
  obtain ⟨hx, hb, hml, ho, -⟩ := S
  intro T hT X
  obtain ⟨v, vm₁, ⟨U', l2, c2, s2⟩, hW₁, X', ⟨g', mk, t, L, e1, e2, hq, h1, hL, h2, h3⟩, st⟩ := vx_callSW X hx (hh := hh) (bytes := bytes) (maxL := maxL) (ret := ret) ho hl hstt hini hcode hy hK hg (hsize.trans hml.symm) (argsL := As) (rest := rest) (fun sig h => hn.trans (hlen sig h)) hstack hW (by rw [hb]; exact hdg)
    (fun vm₁ hW₁ => ⟨hf.1, hf.2, hp.2 (T.setVm vm₁) hT hW₁⟩)
  dsimp only [Pt.U, Pt.locs, Pt.cells, Pt.slots] at X' e1 e2 h1 h2 h3 st
  subst h1; subst h2; subst h3
  exact ⟨v, (T.setVm vm₁).calling g' mk As.toArray, t, U', L, hT, X', hL, e1, e2, hq, st⟩
/-- not caught here, past rows that name other classes: it goes on to the caller -/
theorem vx_outP {p : Program} {l : Launch} {e : Env} {R : Room} {s : State} {m : MethodId} {args : Array Value} {below : List Frame} {meth : Method} {c : Code} {H : Heap} {locs : List Loc} {cells slots : Nat} {free : Addr → Prop} {ls : Array Slot} {rest : List Value} {Qc : Array Value → State → Outcome → State → Prop} {XC : String → State → State → Prop}
    {pc : Nat} {own E : String} {ce : Cell} {q : Addr} {mc ms : Nat} (hown : s.vm.findClass own = some m.cls) (hlocks : meth.locks = false)
    (hpass : ∀ z ∈ c.exceptionTable.toList, covers z pc = false ∨ (z.catchType ≠ 0 ∧ ∃ nm : String, (Cond.classLink own z.catchType nm).before args s = true ∧ va_Nc E nm s)) (hcell : H[q]? = some ce) (hv : ce.vm = .none) (hcl : s.vm.findClass E = some ce.cls)
    (hx : ∀ t : State, t.heap = H → s.vm.Alike t.vm → XC E s t) (hf : ∀ z ∈ locs, free z.base) (hc : cells ≤ mc) (hs : slots ≤ ms) :
    vx_W p l e R s m args below meth c H locs cells slots (vx_MQ below Qc XC args s mc ms free) (F0 m pc ls rest) q := by
  intro T hT X
  have hpl : e.platform.magicAccessors = ({} : Platform).magicAccessors := by rw [X.admits.platform]
  obtain ⟨vm', hW', X', st⟩ := X.outThrough hlocks q (g := F0 m pc ls rest) rfl rfl rfl (cell := ce) (by rw [hT]; exact hcell) (by rw [hv]; rfl)
    (by obtain ⟨k9, h9, -⟩ := Vm.findClass_spec hcl; exact ⟨k9, h9⟩) (fun z hz => by
      rcases hpass z hz with h | ⟨hz0, nm, hl1, hn1⟩
      · exact Or.inl h
      · obtain ⟨c6, hc6, hcl6⟩ := Cond.classLink_spec hown hl1 e.platform hpl
        obtain ⟨a8, b8, h1, h2, h3⟩ := hn1
        cases Option.some.inj (h1.symm.trans hcl)
        cases Option.some.inj (h2.symm.trans hc6)
        exact Or.inr ⟨hz0, _, hcl6, h3⟩)
  obtain ⟨g₀, hfr⟩ := X'.frames_eq
  have hcell9 : ((T.setVm vm').setFrames (.throwing q :: below)).heap[q]? = some ce := by
    show T.heap[q]? = some ce
    rw [hT]; exact hcell
  have hend : Ended ((T.setVm vm').setFrames (.throwing q :: below)) below (.threw q) := State.frames_setFrames _ (State.cur_lt_of_frames hfr)
  refine ⟨(T.setVm vm').setFrames (.throwing q :: below), ?_, .threw q, X'.here.running, hend, Or.inr ⟨q, rfl, E, ce, locs, hx _ hT (X'.ends _).1.alike, hcell9, hv, hcl, (X'.ends _).1, (X'.ends _).2.mono hc hs, hf⟩⟩
  rw [X.pushThrowing_eq]
  exact st
/-- a thing of a world lies in the heap -/
theorem vx_lt {D : va_G} {cl : List vw_C} {ws : va_W} {H1 : Heap} (h : va_P D cl ws H1) {k : Nat} {q : Nat × va_E} (hk : ws[k]? = some q) : q.1 < H1.size := (h k q hk).lt
end VXS
/-! ===== END ===== -/
/-! ===== BEGIN methods with a table of their own: called by a name, returning or throwing ===== -/
section VXH
/-! vx_backW, vx_callVX, vx_callSX, vx_callVW, vx_runVW, vx_runVX, vx_runSX, vx_ofWH follow the same proofs as their sisters above (Free/Laws.lean, Shelf42/LK1.lean); vx_outP calls Shelf42/NT130.lean (outThrough). -/
section
variable {l : Launch} {R : Room} {p : Program} {e : Env} {below : List Frame} {s : State} {sargs : Array Value} {y : MethodName} {len W9 : Nat}
theorem vx_backW {ws : List Cond} {rm : Room} {Pc : Array Value → State → Prop} {Qc : Array Value → State → Outcome → State → Prop} {XC : String → State → State → Prop} {mc ms : Nat} {free : Addr → Prop} {bytes : ByteArray} {maxL : Nat} {ret : Option FieldType} {hh : List (Nat × Nat × Nat × Nat)}
    (hM : vx_Met l y ws rm Pc Qc XC mc ms free) (hblind : FrameBlind Pc) (hrc : rm.cells = mc) (hrs : rm.slots = ms)
    (hframes : rm.frames + 1 ≤ R.frames) (hlocals : W9 + (maxL + 11) + rm.locals ≤ R.locals)
    (hws : ∀ w ∈ ws, ∀ a' U, s.WarmedH U.vm → w.before a' U = true) (hcode : Cond.codeWith y bytes maxL ret hh ∈ ws) (hinit : ∀ a' U, s.WarmedH U.vm → (Cond.initialized y.cls).before a' U = true) :
    vx_Back l R p e below s sargs y len W9 (PreOf R mc ms Pc) (PostOf Qc mc ms free) (vx_Post XC mc ms free) := by
  intro m meth c A g ig mk a X hg hsize hdg hW hn hp
  have h1 : (headSpec ws rm).pre.before a A.U = true := atoms_intro fun w hw => hws w hw _ _ X.warmed
  have h2 : (Cond.codeWith y bytes maxL ret hh).before a A.U = true := hws _ hcode _ _ X.warmed
  have h3 : (Cond.initialized y.cls).before a A.U = true := hinit _ _ X.warmed
  have h4 : A.cells + (headSpec ws rm).room.cells ≤ R.cells := by rw [show (headSpec ws rm).room.cells = mc from hrc]; exact hp.1
  have h5 : A.slots + (headSpec ws rm).room.slots ≤ R.slots := by rw [show (headSpec ws rm).room.slots = ms from hrs]; exact hp.2.1
  have hPc : Pc a (A.U.calling g mk a) := hblind _ _ _ _ hp.2.2
  obtain ⟨U, Ls, c0, s0⟩ := A
  dsimp only [Pt.U, Pt.locs, Pt.cells, Pt.slots] at h1 h2 h3 h4 h5 X hn hPc ⊢
  obtain ⟨m9, methY, cY, hn9, hmY, hcY, -, hlY, -⟩ := Cond.codeWith_spec h2
  cases Option.some.inj (hn9.symm.trans hn)
  obtain ⟨kY, hkY, -⟩ := className_of_methodNamed hn
  have hinitY : kY.init = .initialized := Cond.initialized_spec (findClass_of_methodNamed hn) hkY h3
  have h : At U g.method c below := by rw [hg]; exact X.here
  have hlocals9 : W9 + (maxL + 11) + (headSpec ws rm).room.locals ≤ R.locals := hlocals
  have happ : (headSpec ws rm).appliesLoose y e.platform (U.calling g mk a) = true :=
    Spec.appliesLoose_calling (g := g) h hdg hn hkY hinitY
      (X.room_calling (g := g) (R' := (headSpec ws rm).room) hsize hmY hcY hframes (by rw [hlY]; omega) h4 h5) h1
  obtain ⟨mid, hmid⟩ := h.above
  have hfr : (U.setTop g).frames = (.java g :: mid) ++ below := by rw [State.frames_setTop' g h.top, hmid]; rfl
  obtain ⟨o, s₂, hsteps, -, hend, hq⟩ := Steps.callFree hM p X.admits X.cas X.clock (acts := []) hfr happ hPc trivial
  have hq' : vx_Q Qc XC mc ms free a (U.calling g mk a) o s₂ := hq
  rw [State.frames_setTop' g h.top] at hend
  obtain ⟨g₀, hg0⟩ := Option.isSome_iff_exists.mp h.top
  obtain ⟨r, hr⟩ := State.topJava?_eq_some.mp hg0
  have hr' : (({ U with heap := s₂.heap, slotsUsed := s₂.slotsUsed } : State).setVm s₂.vm).frames = .java g₀ :: r := hr
  rcases hq' with ⟨hqc, L, hfe, hL⟩ | ⟨q, rfl, E, ce, L, hx, hce, hcv, hcl, hW₂, hsm, hL⟩
  · obtain ⟨⟨v, rfl⟩, hW₂, e2, q2, q3, q4, q5, q6⟩ := id hfe
    have e3 : s₂ = ({ (U.calling g mk a).setFrames s₂.frames with heap := s₂.heap, slotsUsed := s₂.slotsUsed } : State).setVm s₂.vm := by
      have : s₂ = ({ s₂ with vm := (U.calling g mk a).vm } : State).setVm s₂.vm := rfl
      rw [e2] at this
      exact this
    obtain ⟨c₂, i₂, len₂, hc₂, hd₂, hf₂⟩ := hend
    have hW' : U.WarmedH s₂.vm := hW₂
    have hcc : c₂ = c := by
      have h1 : s₂.code? g.method = U.code? g.method := by
        rw [State.code?_eq, State.code?_eq, hW'.alike.method?]
      exact Option.some.inj (hc₂.symm.trans (h1.trans h.code))
    subst hcc
    have hlen : len₂ = len := by rw [hdg] at hd₂; cases hd₂; rfl
    subst hlen
    have hs₂ : s₂ = (({ U with heap := s₂.heap, slotsUsed := s₂.slotsUsed } : State).setVm s₂.vm).setTop { g with pc := g.pc + len₂, stack := v.toList ++ g.stack } := by
      refine e3.trans ?_
      rw [hf₂, State.calling_eq h.top, State.setFrames_setFrames, State.setTop_of_frames _ hr', hr]
      rfl
    have hsame : U.sameButNew ({ U with heap := s₂.heap, slotsUsed := s₂.slotsUsed } : State) L mc ms := by
      refine ⟨?_, q2, q3, q4, q5, q6⟩
      obtain ⟨t, ht, -⟩ := State.frames_cons hr
      show ({ U with heap := s₂.heap, slotsUsed := s₂.slotsUsed } : State) = { U.setFrames U.frames with heap := s₂.heap, slotsUsed := s₂.slotsUsed }
      rw [State.setFrames_self ht]
    subst hg
    refine Or.inl ⟨v, ⟨(({ U with heap := s₂.heap, slotsUsed := s₂.slotsUsed } : State).setVm s₂.vm), Ls ++ L, c0 + mc, s0 + ms⟩,
      ⟨X.admits, X.cas, X.clock, X.frames, X.room, X.hears, X.method, X.code, (X.here.setHeapUsed s₂.heap s₂.slotsUsed).setVm hW'.alike, X.tail, State.WarmedH.trans X.warmed hW', X.limits, X.bytes, X.same.trans (hsame.setVm s.vm)⟩,
      ⟨g, mk, s₂, L, rfl, rfl, hqc, rfl, hL, rfl, rfl⟩, ?_⟩
    show Steps p.tables e below _ ((({ U with heap := s₂.heap, slotsUsed := s₂.slotsUsed } : State).setVm s₂.vm).setTop { g with pc := g.pc + len₂, stack := v.toList ++ g.stack })
    rw [← hs₂]
    exact hsteps
  · obtain ⟨e2, q2, q3, q4, q5, q6⟩ := id hsm
    have e3 : s₂ = ({ (U.calling g mk a).setFrames s₂.frames with heap := s₂.heap, slotsUsed := s₂.slotsUsed } : State).setVm s₂.vm := by
      have : s₂ = ({ s₂ with vm := (U.calling g mk a).vm } : State).setVm s₂.vm := rfl
      rw [e2] at this
      exact this
    have hf₂ : s₂.frames = .throwing q :: .java g :: U.frames.tail := hend
    have hW' : U.WarmedH s₂.vm := hW₂
    have hs₂ : s₂ = ((({ U with heap := s₂.heap, slotsUsed := s₂.slotsUsed } : State).setVm s₂.vm).setTop g).pushFrame (.throwing q) := by
      refine e3.trans ?_
      rw [hf₂, State.calling_eq h.top, State.setFrames_setFrames, State.pushFrame, State.frames_setTop _ hr', State.setTop_of_frames _ hr', State.setFrames_setFrames, hr]
      rfl
    have hsame : U.sameButNew ({ U with heap := s₂.heap, slotsUsed := s₂.slotsUsed } : State) L mc ms := by
      refine ⟨?_, q2, q3, q4, q5, q6⟩
      obtain ⟨t, ht, -⟩ := State.frames_cons hr
      show ({ U with heap := s₂.heap, slotsUsed := s₂.slotsUsed } : State) = { U.setFrames U.frames with heap := s₂.heap, slotsUsed := s₂.slotsUsed }
      rw [State.setFrames_self ht]
    subst hg
    refine Or.inr ⟨q, ⟨(({ U with heap := s₂.heap, slotsUsed := s₂.slotsUsed } : State).setVm s₂.vm), Ls ++ L, c0 + mc, s0 + ms⟩,
      ⟨X.admits, X.cas, X.clock, X.frames, X.room, X.hears, X.method, X.code, (X.here.setHeapUsed s₂.heap s₂.slotsUsed).setVm hW'.alike, X.tail, State.WarmedH.trans X.warmed hW', X.limits, X.bytes, X.same.trans (hsame.setVm s.vm)⟩,
      ⟨g, mk, s₂, L, E, ce, rfl, rfl, hx, hce, hcv, hcl, rfl, hL, rfl, rfl⟩, ?_⟩
    show Steps p.tables e below _ (((({ U with heap := s₂.heap, slotsUsed := s₂.slotsUsed } : State).setVm s₂.vm).setTop g).pushFrame (.throwing q))
    rw [← hs₂]
    exact hsteps
end
variable {p : Program} {l : Launch} {e : Env} {R : Room} {s : State} {m : MethodId} {args : Array Value} {below : List Frame} {meth : Method} {c : Code} {T : State} {H : Heap} {locs : List Loc} {cells slots : Nat}
theorem vx_callVX (X : Stand p l e R s m args below meth c T locs cells slots) (hexec : p.tables.exec = Jvm.exec) {own C : String} {index : Nat} {y : MethodName} {bytes : ByteArray} {maxL : Nat} {ret : Option FieldType} {hh : List (Nat × Nat × Nat × Nat)}
    (hown : s.vm.findClass own = some m.cls) (hlink : (Cond.methodLink own index y).before args s = true) (hinst : (Cond.instanceMethod y).before args s = true) (hsel : (Cond.selects C y y).before args s = true)
    (hcode : (Cond.codeWith y bytes maxL ret hh).before args s = true) (hy : y.cls ≠ "java/lang/invoke/MethodHandle" ∧ y.cls ≠ "java/lang/invoke/VarHandle")
    {W9 : Nat} {Pre : Pt → Array Value → Prop} {Post : Pt → Array Value → Option Value → Pt → Prop} {PostX : Pt → Array Value → Addr → Pt → Prop} (hK : vx_Back l R p e below s args y 3 W9 Pre Post PostX)
    {b : Addr} {cellB : Cell} (hcell : T.heap[b]? = some cellB) (hobj : cellB.vm.isStatics = false) (hcls : s.vm.findClass C = some cellB.cls)
    {g : JFrame} (hg : g.method = m) (hsize : g.locals.size = c.maxLocals) {argsL rest : List Value} (hlen : ∀ sig, parseMethodDescriptor y.desc = some sig → argsL.length = sig.parameters.length)
    (hstack : g.stack = argsL.reverse ++ .ref b :: rest) (hW : 2 * g.monitorRoom + (rest.map fun v => v.category).sum ≤ W9) (hdg : decode c.code g.pc = .ok (.invokevirtual index, 3))
    (hpre : ∀ vm₁, s.WarmedH vm₁ → Pre ⟨T.setVm vm₁, locs, cells, slots⟩ (Value.ref b :: argsL).toArray) :
    (∃ (v : Option Value) (vm₁ : Vm) (B : Pt), s.WarmedH vm₁ ∧ Stand p l e R s m args below meth c B.U B.locs B.cells B.slots ∧ Post ⟨T.setVm vm₁, locs, cells, slots⟩ (Value.ref b :: argsL).toArray v B ∧
      ∀ target, Steps p.tables e below (B.U.setTop { g with pc := g.pc + 3, stack := v.toList ++ rest }) target → Steps p.tables e below (T.setTop g) target) ∨
    (∃ (q : Addr) (vm₁ : Vm) (B : Pt), s.WarmedH vm₁ ∧ Stand p l e R s m args below meth c B.U B.locs B.cells B.slots ∧ PostX ⟨T.setVm vm₁, locs, cells, slots⟩ (Value.ref b :: argsL).toArray q B ∧
      Steps p.tables e below (T.setTop g) ((B.U.setTop { g with stack := rest }).pushFrame (.throwing q))) := by
  obtain ⟨mk, methM, hnamed, hmethM, hstM, habM⟩ := Cond.instanceMethod_spec hinst
  obtain ⟨m8, methM', cM, hn8, hmethM', -, -, -, -, -, -, hsigM⟩ := Cond.codeWith_spec hcode
  cases Option.some.inj (hn8.symm.trans hnamed)
  cases hmethM.symm.trans hmethM'
  obtain ⟨c2, r2, m2, q1, q2, q3, q4, kP, hkP, hkPi⟩ := Cond.selects_spec hsel
  cases hcls.symm.trans q1
  cases (State.methodFound?_of_named hnamed hy).symm.trans q2
  cases hnamed.symm.trans q3
  have hselP : selectMethod e.platform s.vm cellB.cls mk = .method mk := by rw [Launch.admits_selectMethod X.admits]; exact q4
  obtain ⟨vm₁, X₁, hstep₁⟩ := X.invokevirtual hexec hown hlink hnamed hmethM hstM hkP hkPi hy (a := b) (cell := cellB) hcell
    (fun z h => by rw [h] at hobj; cases hobj) hselP hmethM habM hkP hkPi (g := g) hg (argsL := argsL) (rest := rest) (hlen _ hsigM) hstack hdg
  rcases hK m meth c ⟨T.setVm vm₁, locs, cells, slots⟩ { g with stack := rest } (.invokevirtual index) mk (Value.ref b :: argsL).toArray X₁ hg hsize hdg hW (X₁.named hnamed) (hpre vm₁ X₁.warmed) with ⟨v, B, X', hpost, hsteps⟩ | ⟨q, B, X', hpost, hsteps⟩
  · exact Or.inl ⟨v, vm₁, B, X₁.warmed, X', hpost, fun target h => hstep₁ _ fun acts => by rw [doInvoke_state]; exact hsteps.trans h⟩
  · exact Or.inr ⟨q, vm₁, B, X₁.warmed, X', hpost, hstep₁ _ fun acts => by rw [doInvoke_state]; exact hsteps⟩
theorem vx_callSX (X : Stand p l e R s m args below meth c T locs cells slots) (hexec : p.tables.exec = Jvm.exec) {own : String} {index : Nat} {y : MethodName} {bytes : ByteArray} {maxL : Nat} {ret : Option FieldType} {hh : List (Nat × Nat × Nat × Nat)}
    (hown : s.vm.findClass own = some m.cls) (hlink : (Cond.methodLink own index y).before args s = true) (hstat : (Cond.static y).before args s = true) (hinit : (Cond.initialized y.cls).before args s = true)
    (hcode : (Cond.codeWith y bytes maxL ret hh).before args s = true) (hy : y.cls ≠ "java/lang/invoke/MethodHandle" ∧ y.cls ≠ "java/lang/invoke/VarHandle")
    {W9 : Nat} {Pre : Pt → Array Value → Prop} {Post : Pt → Array Value → Option Value → Pt → Prop} {PostX : Pt → Array Value → Addr → Pt → Prop} (hK : vx_Back l R p e below s args y 3 W9 Pre Post PostX)
    {g : JFrame} (hg : g.method = m) (hsize : g.locals.size = c.maxLocals) {argsL rest : List Value} (hlen : ∀ sig, parseMethodDescriptor y.desc = some sig → argsL.length = sig.parameters.length)
    (hstack : g.stack = argsL.reverse ++ rest) (hW : 2 * g.monitorRoom + (rest.map fun v => v.category).sum ≤ W9) (hdg : decode c.code g.pc = .ok (.invokestatic index, 3))
    (hpre : ∀ vm₁, s.WarmedH vm₁ → Pre ⟨T.setVm vm₁, locs, cells, slots⟩ argsL.toArray) :
    (∃ (v : Option Value) (vm₁ : Vm) (B : Pt), s.WarmedH vm₁ ∧ Stand p l e R s m args below meth c B.U B.locs B.cells B.slots ∧ Post ⟨T.setVm vm₁, locs, cells, slots⟩ argsL.toArray v B ∧
      ∀ target, Steps p.tables e below (B.U.setTop { g with pc := g.pc + 3, stack := v.toList ++ rest }) target → Steps p.tables e below (T.setTop g) target) ∨
    (∃ (q : Addr) (vm₁ : Vm) (B : Pt), s.WarmedH vm₁ ∧ Stand p l e R s m args below meth c B.U B.locs B.cells B.slots ∧ PostX ⟨T.setVm vm₁, locs, cells, slots⟩ argsL.toArray q B ∧
      Steps p.tables e below (T.setTop g) ((B.U.setTop { g with stack := rest }).pushFrame (.throwing q))) := by
  obtain ⟨mk, methM, cM, hnamed, hmethM, -, -, -, -, -, -, hsigM⟩ := Cond.codeWith_spec hcode
  have hstatic : methM.isStatic = true := Cond.static_spec hnamed hmethM hstat
  obtain ⟨kP, hkP, -⟩ := className_of_methodNamed hnamed
  have hinitP : kP.init = .initialized := Cond.initialized_spec (findClass_of_methodNamed hnamed) hkP hinit
  obtain ⟨vm₁, X₁, hstep₁⟩ := X.invokestatic hexec hown hlink hnamed hmethM hstatic hkP hinitP hy (g := g) hg (argsL := argsL) (rest := rest) (hlen _ hsigM) hstack hdg
  rcases hK m meth c ⟨T.setVm vm₁, locs, cells, slots⟩ { g with stack := rest } (.invokestatic index) mk argsL.toArray X₁ hg hsize hdg hW (X₁.named hnamed) (hpre vm₁ X₁.warmed) with ⟨v, B, X', hpost, hsteps⟩ | ⟨q, B, X', hpost, hsteps⟩
  · exact Or.inl ⟨v, vm₁, B, X₁.warmed, X', hpost, fun target h => hstep₁ _ fun acts => by rw [doInvoke_state]; exact hsteps.trans h⟩
  · exact Or.inr ⟨q, vm₁, B, X₁.warmed, X', hpost, hstep₁ _ fun acts => by rw [doInvoke_state]; exact hsteps⟩
theorem vx_callVW (X : Stand p l e R s m args below meth c T locs cells slots) (hexec : p.tables.exec = Jvm.exec) {own C : String} {index : Nat} {y : MethodName} {bytes : ByteArray} {maxL : Nat} {ret : Option FieldType} {hh : List (Nat × Nat × Nat × Nat)}
    (hown : s.vm.findClass own = some m.cls) (hlink : (Cond.methodLink own index y).before args s = true) (hinst : (Cond.instanceMethod y).before args s = true) (hsel : (Cond.selects C y y).before args s = true)
    (hcode : (Cond.codeWith y bytes maxL ret hh).before args s = true) (hy : y.cls ≠ "java/lang/invoke/MethodHandle" ∧ y.cls ≠ "java/lang/invoke/VarHandle")
    {W9 : Nat} {Pre : Pt → Array Value → Prop} {Post : Pt → Array Value → Option Value → Pt → Prop} (hK : Back l R p e below s args y 3 W9 Pre Post)
    {b : Addr} {cellB : Cell} (hcell : T.heap[b]? = some cellB) (hobj : cellB.vm.isStatics = false) (hcls : s.vm.findClass C = some cellB.cls)
    {g : JFrame} (hg : g.method = m) (hsize : g.locals.size = c.maxLocals) {argsL rest : List Value} (hlen : ∀ sig, parseMethodDescriptor y.desc = some sig → argsL.length = sig.parameters.length)
    (hstack : g.stack = argsL.reverse ++ .ref b :: rest) (hW : 2 * g.monitorRoom + (rest.map fun v => v.category).sum ≤ W9) (hdg : decode c.code g.pc = .ok (.invokevirtual index, 3))
    (hpre : ∀ vm₁, s.WarmedH vm₁ → Pre ⟨T.setVm vm₁, locs, cells, slots⟩ (Value.ref b :: argsL).toArray) :
    ∃ (v : Option Value) (vm₁ : Vm) (B : Pt), s.WarmedH vm₁ ∧ Stand p l e R s m args below meth c B.U B.locs B.cells B.slots ∧ Post ⟨T.setVm vm₁, locs, cells, slots⟩ (Value.ref b :: argsL).toArray v B ∧
      ∀ target, Steps p.tables e below (B.U.setTop { g with pc := g.pc + 3, stack := v.toList ++ rest }) target → Steps p.tables e below (T.setTop g) target := by
  obtain ⟨mk, methM, hnamed, hmethM, hstM, habM⟩ := Cond.instanceMethod_spec hinst
  obtain ⟨m8, methM', cM, hn8, hmethM', -, -, -, -, -, -, hsigM⟩ := Cond.codeWith_spec hcode
  cases Option.some.inj (hn8.symm.trans hnamed)
  cases hmethM.symm.trans hmethM'
  obtain ⟨c2, r2, m2, q1, q2, q3, q4, kP, hkP, hkPi⟩ := Cond.selects_spec hsel
  cases hcls.symm.trans q1
  cases (State.methodFound?_of_named hnamed hy).symm.trans q2
  cases hnamed.symm.trans q3
  have hselP : selectMethod e.platform s.vm cellB.cls mk = .method mk := by rw [Launch.admits_selectMethod X.admits]; exact q4
  obtain ⟨vm₁, X₁, hstep₁⟩ := X.invokevirtual hexec hown hlink hnamed hmethM hstM hkP hkPi hy (a := b) (cell := cellB) hcell
    (fun z h => by rw [h] at hobj; cases hobj) hselP hmethM habM hkP hkPi (g := g) hg (argsL := argsL) (rest := rest) (hlen _ hsigM) hstack hdg
  obtain ⟨v, B, X', hpost, hsteps⟩ := hK m meth c ⟨T.setVm vm₁, locs, cells, slots⟩ { g with stack := rest } (.invokevirtual index) mk (Value.ref b :: argsL).toArray X₁ hg hsize hdg hW (X₁.named hnamed) (hpre vm₁ X₁.warmed)
  exact ⟨v, vm₁, B, X₁.warmed, X', hpost, fun target h => hstep₁ _ fun acts => by rw [doInvoke_state]; exact hsteps.trans h⟩
abbrev vx_CVW (R : Room) (s : State) (args : Array Value) (own C : String) (index : Nat) (y : MethodName) (bytes : ByteArray) (maxL : Nat) (ret : Option FieldType) (hh : List (Nat × Nat × Nat × Nat)) (ws : List Cond) (rm : Room) (mc ms n : Nat) : Prop :=
  (rm.cells = mc ∧ rm.slots = ms ∧ rm.frames + 1 ≤ R.frames ∧ 8 + (maxL + 11) + rm.locals ≤ R.locals ∧ (∀ w ∈ ws, ∀ (a' : Array Value) (U : State), s.WarmedH U.vm → w.before a' U = true) ∧ Cond.codeWith y bytes maxL ret hh ∈ ws) ∧
  (Cond.codeWith y bytes maxL ret hh).before args s = true ∧ (Cond.initialized y.cls).before args s = true ∧ (y.cls ≠ "java/lang/invoke/MethodHandle" ∧ y.cls ≠ "java/lang/invoke/VarHandle") ∧
  (∀ sig, parseMethodDescriptor y.desc = some sig → n = sig.parameters.length) ∧ (Cond.methodLink own index y).before args s = true ∧ (Cond.instanceMethod y).before args s = true ∧ (Cond.selects C y y).before args s = true
theorem vx_cwVW {own C : String} {index maxL mc ms : Nat} {y : MethodName} {bytes : ByteArray} {ret : Option FieldType} {hh : List (Nat × Nat × Nat × Nat)} {Ts ws ws' : List Cond} {rm : Room} (n : Nat) (ht : ∀ w ∈ Ts, w.before args s = true) (hT : GoodIn Ts (wsV own index C y ws)) (hw : ws = Cond.codeWith y bytes maxL ret hh :: ws') (hrc : rm.cells = mc) (hrs : rm.slots = ms)
    (hd : y.cls = C ∧ y.cls ≠ "java/lang/invoke/MethodHandle" ∧ y.cls ≠ "java/lang/invoke/VarHandle" ∧ (parseMethodDescriptor y.desc).map (fun d => d.parameters.length) = some n) (hR : rm.frames + 1 ≤ R.frames ∧ 8 + (maxL + 11) + rm.locals ≤ R.locals) :
    vx_CVW R s args own C index y bytes maxL ret hh ws rm mc ms n := by
  obtain ⟨hC, hd⟩ := hd
  subst hC
  have ok : ∀ w ∈ wsV own index y.cls y ws, w.before args s = true := fun w h => ht w (hT w h).1
  have hG : GoodIn Ts ws := fun w h => hT w (by unfold wsV; exact List.mem_append_right _ h)
  have hc : Cond.codeWith y bytes maxL ret hh ∈ ws := by rw [hw]; exact List.mem_cons_self
  refine ⟨⟨hrc, hrs, hR.1, hR.2, pay_in ht hG, hc⟩, ht _ (hG _ hc).1, ok _ (by simp [wsV]), ⟨hd.1, hd.2.1⟩, fun sig h => ?_, ok _ (by simp [wsV]), ok _ (by simp [wsV]), ok _ (by simp [wsV])⟩
  have h2 := hd.2.2
  rw [h] at h2
  exact (Option.some.inj h2).symm
theorem vx_runVW {y : MethodName} {bytes cc : ByteArray} {maxL nL mc ms n index : Nat} {ret : Option FieldType} {hh : List (Nat × Nat × Nat × Nat)} {ws : List Cond} {rm : Room} {Pc : Array Value → State → Prop} {Qc : Array Value → State → Outcome → State → Prop} {free : Addr → Prop} {Ts : List Cond} {own C : String} {b : Addr} {As rest : List Value} {g : JFrame}
    (S : CallFix p m c cc nL s args Ts own) (hM : Met l y ws rm Pc Qc mc ms free) (cw : vx_CVW R s args own C index y bytes maxL ret hh ws rm mc ms n) (hp : PreV s H C b Pc As)
    (hg : g.method = m) (hn : As.length = n) (hsize : g.locals.size = nL) (hstack : g.stack = As.reverse ++ .ref b :: rest) (hW : 2 * g.monitorRoom + (rest.map fun v => v.category).sum ≤ 8) (hdg : decode cc g.pc = .ok (.invokevirtual index, 3)) (hf : cells + mc ≤ R.cells ∧ slots + ms ≤ R.slots) :
    va_Run p l e R s m args below meth c H locs cells slots mc ms g rest (Qc (Value.ref b :: As).toArray) free := by
  obtain ⟨⟨hrc, hrs, hfr, hlo, hws, hcw⟩, hcode, hini, hy, hlen, hl, hin, hse⟩ := cw
  have hK : Back l R p e below s args y 3 8 (PreOf R mc ms Pc) (PostOf Qc mc ms free) := va_backW (hh := hh) (bytes := bytes) (maxL := maxL) (ret := ret) hM hp.1 hrc hrs hfr hlo hws hcw (fun a' U hW => word_at hW (Or.inl (by first | rfl | simp [Cond.onTables, Cond.keeps, Cond.steady])) hini)
  obtain ⟨hx, hb, hml, ho, -⟩ := S
  obtain ⟨-, ⟨cellB, hcB, hoB, hclB⟩, hPc⟩ := hp
  intro T hT X
  obtain ⟨v, vm₁, ⟨U', l2, c2, s2⟩, hW₁, X', ⟨g', mk, t, L, e1, e2, hq, h1, hL, h2, h3⟩, st⟩ := vx_callVW X hx (C := C) (hh := hh) (bytes := bytes) (maxL := maxL) (ret := ret) ho hl hin hse hcode hy hK (by rw [hT]; exact hcB) hoB hclB hg (hsize.trans hml.symm) (argsL := As) (rest := rest) (fun sig h => hn.trans (hlen sig h)) hstack hW (by rw [hb]; exact hdg)
    (fun vm₁ hW₁ => ⟨hf.1, hf.2, hPc (T.setVm vm₁) hT hW₁⟩)
  dsimp only [Pt.U, Pt.locs, Pt.cells, Pt.slots] at X' e1 e2 h1 h2 h3 st
  subst h1; subst h2; subst h3
  exact ⟨v, (T.setVm vm₁).calling g' mk (Value.ref b :: As).toArray, t, U', L, hT, X', hL, e1, e2, hq, st⟩
section
variable {y : MethodName} {bytes cc : ByteArray} {maxL nL mc ms n index : Nat} {ret : Option FieldType} {ws : List Cond} {rm : Room} {Pc : Array Value → State → Prop} {Qc : Array Value → State → Outcome → State → Prop} {XC : String → State → State → Prop} {free : Addr → Prop} {Ts : List Cond} {own C : String} {b : Addr} {As rest : List Value} {g : JFrame}
theorem vx_runVX {hh : List (Nat × Nat × Nat × Nat)} (S : CallFix p m c cc nL s args Ts own) (hM : vx_Met l y ws rm Pc Qc XC mc ms free) (cw : vx_CVW R s args own C index y bytes maxL ret hh ws rm mc ms n) (hp : PreV s H C b Pc As)
    (hg : g.method = m) (hn : As.length = n) (hsize : g.locals.size = nL) (hstack : g.stack = As.reverse ++ .ref b :: rest) (hW : 2 * g.monitorRoom + (rest.map fun v => v.category).sum ≤ 8) (hdg : decode cc g.pc = .ok (.invokevirtual index, 3)) (hf : cells + mc ≤ R.cells ∧ slots + ms ≤ R.slots) :
    vx_Run p l e R s m args below meth c H locs cells slots mc ms g rest (Qc (Value.ref b :: As).toArray) XC free := by
  obtain ⟨⟨hrc, hrs, hfr, hlo, hws, hcw⟩, hcode, hini, hy, hlen, hl, hin, hse⟩ := cw
  have hK : vx_Back l R p e below s args y 3 8 (PreOf R mc ms Pc) (PostOf Qc mc ms free) (vx_Post XC mc ms free) := vx_backW (hh := hh) (bytes := bytes) (maxL := maxL) (ret := ret) hM hp.1 hrc hrs hfr hlo hws hcw (fun a' U hW => word_at hW (Or.inl (by first | rfl | simp [Cond.onTables, Cond.keeps, Cond.steady])) hini)
  obtain ⟨hx, hb, hml, ho, -⟩ := S
  obtain ⟨-, ⟨cellB, hcB, hoB, hclB⟩, hPc⟩ := hp
  intro T hT X
  rcases vx_callVX X hx (C := C) (hh := hh) (bytes := bytes) (maxL := maxL) (ret := ret) ho hl hin hse hcode hy hK (by rw [hT]; exact hcB) hoB hclB hg (hsize.trans hml.symm) (argsL := As) (rest := rest) (fun sig h => hn.trans (hlen sig h)) hstack hW (by rw [hb]; exact hdg)
    (fun vm₁ hW₁ => ⟨hf.1, hf.2, hPc (T.setVm vm₁) hT hW₁⟩) with ⟨v, vm₁, ⟨U', l2, c2, s2⟩, hW₁, X', ⟨g', mk, t, L, e1, e2, hq, h1, hL, h2, h3⟩, st⟩ | ⟨q, vm₁, ⟨U', l2, c2, s2⟩, hW₁, X', ⟨g', mk, t, L, E, ce, e1, e2, hq, hce, hcv, hcl, h1, hL, h2, h3⟩, st⟩
  · dsimp only [Pt.U, Pt.locs, Pt.cells, Pt.slots] at X' e1 e2 h1 h2 h3 st
    subst h1; subst h2; subst h3
    exact Or.inl ⟨v, (T.setVm vm₁).calling g' mk (Value.ref b :: As).toArray, t, U', L, hT, X', hL, e1, e2, hq, st⟩
  · dsimp only [Pt.U, Pt.locs, Pt.cells, Pt.slots] at X' e1 e2 h1 h2 h3 st hcl
    subst h1; subst h2; subst h3
    exact Or.inr ⟨q, (T.setVm vm₁).calling g' mk (Value.ref b :: As).toArray, t, U', L, E, ce, hT, X', hL, e1, e2, hq, hce, hcv, vx_cls hW₁ hcl, st⟩
theorem vx_runSX {hh : List (Nat × Nat × Nat × Nat)} (S : CallFix p m c cc nL s args Ts own) (hM : vx_Met l y ws rm Pc Qc XC mc ms free) (cw : vx_CSW R s args own index y bytes maxL ret hh ws rm mc ms n) (hp : PreS s H Pc As)
    (hg : g.method = m) (hn : As.length = n) (hsize : g.locals.size = nL) (hstack : g.stack = As.reverse ++ rest) (hW : 2 * g.monitorRoom + (rest.map fun v => v.category).sum ≤ 8) (hdg : decode cc g.pc = .ok (.invokestatic index, 3)) (hf : cells + mc ≤ R.cells ∧ slots + ms ≤ R.slots) :
    vx_Run p l e R s m args below meth c H locs cells slots mc ms g rest (Qc As.toArray) XC free := by
  obtain ⟨⟨hrc, hrs, hfr, hlo, hws, hcw⟩, hcode, hini, hy, hlen, hl, hstt⟩ := cw
  have hK : vx_Back l R p e below s args y 3 8 (PreOf R mc ms Pc) (PostOf Qc mc ms free) (vx_Post XC mc ms free) := vx_backW (hh := hh) (bytes := bytes) (maxL := maxL) (ret := ret) hM hp.1 hrc hrs hfr hlo hws hcw (fun a' U hW => word_at hW (Or.inl (by first | rfl | simp [Cond.onTables, Cond.keeps, Cond.steady])) hini)
  obtain ⟨hx, hb, hml, ho, -⟩ := S
  intro T hT X
  rcases vx_callSX X hx (hh := hh) (bytes := bytes) (maxL := maxL) (ret := ret) ho hl hstt hini hcode hy hK hg (hsize.trans hml.symm) (argsL := As) (rest := rest) (fun sig h => hn.trans (hlen sig h)) hstack hW (by rw [hb]; exact hdg)
    (fun vm₁ hW₁ => ⟨hf.1, hf.2, hp.2 (T.setVm vm₁) hT hW₁⟩) with ⟨v, vm₁, ⟨U', l2, c2, s2⟩, hW₁, X', ⟨g', mk, t, L, e1, e2, hq, h1, hL, h2, h3⟩, st⟩ | ⟨q, vm₁, ⟨U', l2, c2, s2⟩, hW₁, X', ⟨g', mk, t, L, E, ce, e1, e2, hq, hce, hcv, hcl, h1, hL, h2, h3⟩, st⟩
  · dsimp only [Pt.U, Pt.locs, Pt.cells, Pt.slots] at X' e1 e2 h1 h2 h3 st
    subst h1; subst h2; subst h3
    exact Or.inl ⟨v, (T.setVm vm₁).calling g' mk As.toArray, t, U', L, hT, X', hL, e1, e2, hq, st⟩
  · dsimp only [Pt.U, Pt.locs, Pt.cells, Pt.slots] at X' e1 e2 h1 h2 h3 st hcl
    subst h1; subst h2; subst h3
    exact Or.inr ⟨q, (T.setVm vm₁).calling g' mk As.toArray, t, U', L, E, ce, hT, X', hL, e1, e2, hq, hce, hcv, vx_cls hW₁ hcl, st⟩
end
end VXH
theorem vx_ofWH {l : Launch} {y : MethodName} {ws ws' : List Cond} {rm : Room} {Pc : Array Value → State → Prop} {Qc : Array Value → State → Outcome → State → Prop} {XC : String → State → State → Prop} {mc ms : Nat} {free : Addr → Prop} {cc : ByteArray} {maxL : Nat} {ret : Option FieldType} {hh : List (Nat × Nat × Nat × Nat)}
    (hy : plainName y.cls = true) (hw : ws = Cond.codeWith y cc maxL ret hh :: ws')
    (body : ∀ p e s m args below meth c s₁, BodyLoose p l y (headSpec ws rm) cc maxL ret e s m args below meth c s₁ → c.maxLocals = maxL → Pc args s →
      W p l e (headSpec ws rm).room s m args below meth c s.heap [] 0 0 (vx_MQ below Qc XC args s mc ms free) (entryFrame m args maxL)) : vx_Met l y ws rm Pc Qc XC mc ms free := by
  refine MetFree.of_bodyS (code := cc) (maxLocals := maxL) (ret := ret) hy ?_ ?_
  · intro args s m h hn
    obtain ⟨m9, meth, c, hn9, h1, h2, h3, h4, -, h5, h6, -⟩ := Cond.codeWith_spec (atoms_spec (ws := ws) h _ (by rw [hw]; exact List.mem_cons_self))
    cases hn.symm.trans hn9
    exact ⟨meth, c, h1, h2, h3, h4, h5, h6⟩
  · intro p e s m args below meth c s₁ B hml hP _
    have hh0 : s₁.heap = s.heap := by rw [B.state]; rfl
    obtain ⟨t, a1, o, b1, b2, b3⟩ := body p e s m args below meth c s₁ B hml hP s₁ hh0 (Stand.of_body B)
    exact ⟨t, o, a1, b1, b2, b3⟩
/-! ===== END ===== -/
end
section
/-! names, fields -/
def RX0 : String := "VacuumSequencer$Hunt"
def TX0 : u_T := fun k => match k with
  | 0 => ("VacuumSequencer$Hunt", "numbers", "[I", true)
  | 1 => ("VacuumSequencer$Hunt", "froms", "[I", true)
  | 2 => ("VacuumSequencer$Hunt", "sizes", "[I", true)
  | 3 => ("VacuumSequencer$Hunt", "groups", "I", false)
  | 4 => ("VacuumSequencer$Hunt", "sprayed", "I", false)
  | _ => ("VacuumSequencer$Hunt", "foundSet", "I", false)
def tyX0 : Nat → FieldType := fun k => match k with
  | 0 => .array .int
  | 1 => .array .int
  | 2 => .array .int
  | 3 => .int
  | 4 => .int
  | _ => .int
abbrev wsX00 : List Cond := u_ws RX0 TX0 6
theorem nmX0 : ∀ a, a < 6 → ∀ b, b < 6 → a ≠ b → (TX0 a).2.1 ≠ (TX0 b).2.1 := by decide +kernel
theorem tyX0_ok : ∀ k, k < 6 → parseFieldDescriptor (TX0 k).2.2.1 = some (tyX0 k) := by decide +kernel
abbrev cX0_init : ByteArray := prog_2_method_1_code
def yX0_init : MethodName := ⟨RX0, "<init>", "()V"⟩
abbrev cX0_run : ByteArray := prog_2_method_2_code
def yX0_run : MethodName := ⟨RX0, "run", "(LVacuumSequencer$State;II)V"⟩
abbrev cX0_collect : ByteArray := prog_2_method_3_code
def yX0_collect : MethodName := ⟨RX0, "collect", "(LVacuumSequencer$Layout;I)I"⟩
abbrev cX0_addGroup : ByteArray := prog_2_method_4_code
def yX0_addGroup : MethodName := ⟨RX0, "addGroup", "(II)V"⟩
abbrev cX0_sumOf : ByteArray := prog_2_method_5_code
def yX0_sumOf : MethodName := ⟨RX0, "sumOf", "([II)I"⟩
def RX1 : String := "VacuumSequencer$Layout"
def TX1 : u_T := fun k => match k with
  | 0 => ("VacuumSequencer$Layout", "chambers", "I", false)
  | 1 => ("VacuumSequencer$Layout", "pumps", "I", false)
  | 2 => ("VacuumSequencer$Layout", "valves", "I", false)
  | 3 => ("VacuumSequencer$Layout", "flanges", "I", false)
  | 4 => ("VacuumSequencer$Layout", "volume", "[I", true)
  | 5 => ("VacuumSequencer$Layout", "firstOutgassing", "[I", true)
  | 6 => ("VacuumSequencer$Layout", "decay", "[I", true)
  | 7 => ("VacuumSequencer$Layout", "pumpChamber", "[I", true)
  | 8 => ("VacuumSequencer$Layout", "exhaust", "[I", true)
  | 9 => ("VacuumSequencer$Layout", "speed", "[I", true)
  | 10 => ("VacuumSequencer$Layout", "low", "[I", true)
  | 11 => ("VacuumSequencer$Layout", "high", "[I", true)
  | 12 => ("VacuumSequencer$Layout", "backing", "[I", true)
  | 13 => ("VacuumSequencer$Layout", "valveChamber", "[I", true)
  | 14 => ("VacuumSequencer$Layout", "otherSide", "[I", true)
  | 15 => ("VacuumSequencer$Layout", "conductance", "[I", true)
  | 16 => ("VacuumSequencer$Layout", "firstRule", "[I", true)
  | 17 => ("VacuumSequencer$Layout", "flangeChamber", "[I", true)
  | _ => ("VacuumSequencer$Layout", "firstLeak", "[I", true)
def tyX1 : Nat → FieldType := fun k => match k with
  | 0 => .int
  | 1 => .int
  | 2 => .int
  | 3 => .int
  | 4 => .array .int
  | 5 => .array .int
  | 6 => .array .int
  | 7 => .array .int
  | 8 => .array .int
  | 9 => .array .int
  | 10 => .array .int
  | 11 => .array .int
  | 12 => .array .int
  | 13 => .array .int
  | 14 => .array .int
  | 15 => .array .int
  | 16 => .array .int
  | 17 => .array .int
  | _ => .array .int
abbrev wsX10 : List Cond := u_ws RX1 TX1 19
theorem nmX1 : ∀ a, a < 19 → ∀ b, b < 19 → a ≠ b → (TX1 a).2.1 ≠ (TX1 b).2.1 := by decide +kernel
theorem tyX1_ok : ∀ k, k < 19 → parseFieldDescriptor (TX1 k).2.2.1 = some (tyX1 k) := by decide +kernel
abbrev cX1_init : ByteArray := prog_3_method_1_code
def yX1_init : MethodName := ⟨RX1, "<init>", "()V"⟩
abbrev cX1_clear : ByteArray := prog_3_method_2_code
def yX1_clear : MethodName := ⟨RX1, "clear", "()V"⟩
abbrev cX1_copyFrom : ByteArray := prog_3_method_3_code
def yX1_copyFrom : MethodName := ⟨RX1, "copyFrom", "(LVacuumSequencer$Layout;)V"⟩
abbrev cX1_hasChamber : ByteArray := prog_3_method_4_code
def yX1_hasChamber : MethodName := ⟨RX1, "hasChamber", "(I)Z"⟩
abbrev cX1_hasPump : ByteArray := prog_3_method_5_code
def yX1_hasPump : MethodName := ⟨RX1, "hasPump", "(I)Z"⟩
abbrev cX1_hasValve : ByteArray := prog_3_method_6_code
def yX1_hasValve : MethodName := ⟨RX1, "hasValve", "(I)Z"⟩
abbrev cX1_hasFlange : ByteArray := prog_3_method_7_code
def yX1_hasFlange : MethodName := ⟨RX1, "hasFlange", "(I)Z"⟩
abbrev cX1_allValves : ByteArray := prog_3_method_8_code
def yX1_allValves : MethodName := ⟨RX1, "allValves", "()I"⟩
abbrev cX1_allFlanges : ByteArray := prog_3_method_9_code
def yX1_allFlanges : MethodName := ⟨RX1, "allFlanges", "()I"⟩
abbrev cX1_valvesOf : ByteArray := prog_3_method_10_code
def yX1_valvesOf : MethodName := ⟨RX1, "valvesOf", "(I)I"⟩
abbrev cX1_pumpsOf : ByteArray := prog_3_method_11_code
def yX1_pumpsOf : MethodName := ⟨RX1, "pumpsOf", "(I)I"⟩
abbrev cX1_grown : ByteArray := prog_3_method_12_code
def yX1_grown : MethodName := ⟨RX1, "grown", "(II)I"⟩
abbrev cX1_addChamber : ByteArray := prog_3_method_13_code
def yX1_addChamber : MethodName := ⟨RX1, "addChamber", "(III)V"⟩
abbrev cX1_addPump : ByteArray := prog_3_method_14_code
def yX1_addPump : MethodName := ⟨RX1, "addPump", "(IIIIII)V"⟩
abbrev cX1_addValve : ByteArray := prog_3_method_15_code
def yX1_addValve : MethodName := ⟨RX1, "addValve", "(IIII)V"⟩
abbrev cX1_addFlange : ByteArray := prog_3_method_16_code
def yX1_addFlange : MethodName := ⟨RX1, "addFlange", "(II)V"⟩
def RX2 : String := "VacuumSequencer$Reader"
def TX2 : u_T := fun k => match k with
  | 0 => ("VacuumSequencer$Reader", "text", "LVacuumSequencer$Text;", true)
  | 1 => ("VacuumSequencer$Reader", "kind", "I", false)
  | 2 => ("VacuumSequencer$Reader", "start", "I", false)
  | 3 => ("VacuumSequencer$Reader", "end", "I", false)
  | 4 => ("VacuumSequencer$Reader", "value", "I", false)
  | 5 => ("VacuumSequencer$Reader", "errorCode", "I", false)
  | _ => ("VacuumSequencer$Reader", "errorPosition", "I", false)
def tyX2 : Nat → FieldType := fun k => match k with
  | 0 => .object "VacuumSequencer$Text"
  | 1 => .int
  | 2 => .int
  | 3 => .int
  | 4 => .int
  | 5 => .int
  | _ => .int
abbrev wsX20 : List Cond := u_ws RX2 TX2 7
theorem nmX2 : ∀ a, a < 7 → ∀ b, b < 7 → a ≠ b → (TX2 a).2.1 ≠ (TX2 b).2.1 := by decide +kernel
theorem tyX2_ok : ∀ k, k < 7 → parseFieldDescriptor (TX2 k).2.2.1 = some (tyX2 k) := by decide +kernel
abbrev cX2_init : ByteArray := prog_4_method_1_code
def yX2_init : MethodName := ⟨RX2, "<init>", "(LVacuumSequencer$Text;)V"⟩
abbrev cX2_begin : ByteArray := prog_4_method_2_code
def yX2_begin : MethodName := ⟨RX2, "begin", "()V"⟩
abbrev cX2_advance : ByteArray := prog_4_method_3_code
def yX2_advance : MethodName := ⟨RX2, "advance", "()V"⟩
abbrev cX2_kindOf : ByteArray := prog_4_method_4_code
def yX2_kindOf : MethodName := ⟨RX2, "kindOf", "(I)I"⟩
abbrev cX2_fail : ByteArray := prog_4_method_5_code
def yX2_fail : MethodName := ⟨RX2, "fail", "(II)V"⟩
abbrev cX2_isWord : ByteArray := prog_4_method_6_code
def yX2_isWord : MethodName := ⟨RX2, "isWord", "(Ljava/lang/String;)Z"⟩
abbrev cX2_readNumber : ByteArray := prog_4_method_7_code
def yX2_readNumber : MethodName := ⟨RX2, "readNumber", "(II)I"⟩
abbrev cX2_readSemicolon : ByteArray := prog_4_method_8_code
def yX2_readSemicolon : MethodName := ⟨RX2, "readSemicolon", "()V"⟩
def RX3 : String := "VacuumSequencer$Recipe"
def TX3 : u_T := fun k => match k with
  | 0 => ("VacuumSequencer$Recipe", "reader", "LVacuumSequencer$Reader;", true)
  | 1 => ("VacuumSequencer$Recipe", "parts", "LVacuumSequencer$Layout;", true)
  | 2 => ("VacuumSequencer$Recipe", "first", "I", false)
  | _ => ("VacuumSequencer$Recipe", "second", "I", false)
def tyX3 : Nat → FieldType := fun k => match k with
  | 0 => .object "VacuumSequencer$Reader"
  | 1 => .object "VacuumSequencer$Layout"
  | 2 => .int
  | _ => .int
abbrev wsX30 : List Cond := u_ws RX3 TX3 4
theorem nmX3 : ∀ a, a < 4 → ∀ b, b < 4 → a ≠ b → (TX3 a).2.1 ≠ (TX3 b).2.1 := by decide +kernel
theorem tyX3_ok : ∀ k, k < 4 → parseFieldDescriptor (TX3 k).2.2.1 = some (tyX3 k) := by decide +kernel
abbrev cX3_init : ByteArray := prog_5_method_1_code
def yX3_init : MethodName := ⟨RX3, "<init>", "(LVacuumSequencer$Reader;LVacuumSequencer$Layout;)V"⟩
abbrev cX3_run : ByteArray := prog_5_method_2_code
def yX3_run : MethodName := ⟨RX3, "run", "(LVacuumSequencer$State;)I"⟩
abbrev cX3_readStep : ByteArray := prog_5_method_3_code
def yX3_readStep : MethodName := ⟨RX3, "readStep", "()I"⟩
abbrev cX3_step : ByteArray := prog_5_method_4_code
def yX3_step : MethodName := ⟨RX3, "step", "()I"⟩
abbrev cX3_execute : ByteArray := prog_5_method_5_code
def yX3_execute : MethodName := ⟨RX3, "execute", "(LVacuumSequencer$State;I)Z"⟩
abbrev cX3_turnValve : ByteArray := prog_5_method_6_code
def yX3_turnValve : MethodName := ⟨RX3, "turnValve", "(LVacuumSequencer$State;ZI)Z"⟩
abbrev cX3_switchPump : ByteArray := prog_5_method_7_code
def yX3_switchPump : MethodName := ⟨RX3, "switchPump", "(LVacuumSequencer$State;ZI)Z"⟩
def RX4 : String := "VacuumSequencer$Report"
def TX4 : u_T := fun k => match k with
  | 0 => ("VacuumSequencer$Report", "bytes", "[B", true)
  | _ => ("VacuumSequencer$Report", "length", "I", false)
def tyX4 : Nat → FieldType := fun k => match k with
  | 0 => .array .byte
  | _ => .int
abbrev wsX40 : List Cond := u_ws RX4 TX4 2
theorem nmX4 : ∀ a, a < 2 → ∀ b, b < 2 → a ≠ b → (TX4 a).2.1 ≠ (TX4 b).2.1 := by decide +kernel
theorem tyX4_ok : ∀ k, k < 2 → parseFieldDescriptor (TX4 k).2.2.1 = some (tyX4 k) := by decide +kernel
abbrev cX4_init : ByteArray := prog_6_method_1_code
def yX4_init : MethodName := ⟨RX4, "<init>", "()V"⟩
abbrev cX4_addText : ByteArray := prog_6_method_2_code
def yX4_addText : MethodName := ⟨RX4, "addText", "(Ljava/lang/String;)V"⟩
abbrev cX4_addNumber : ByteArray := prog_6_method_3_code
def yX4_addNumber : MethodName := ⟨RX4, "addNumber", "(I)V"⟩
abbrev cX4_addSet : ByteArray := prog_6_method_4_code
def yX4_addSet : MethodName := ⟨RX4, "addSet", "(Ljava/lang/String;II)V"⟩
abbrev cX4_addByte : ByteArray := prog_6_method_5_code
def yX4_addByte : MethodName := ⟨RX4, "addByte", "(I)V"⟩
def RX5 : String := "VacuumSequencer$State"
def TX5 : u_T := fun k => match k with
  | 0 => ("VacuumSequencer$State", "parts", "LVacuumSequencer$Layout;", true)
  | 1 => ("VacuumSequencer$State", "time", "I", false)
  | 2 => ("VacuumSequencer$State", "openValves", "I", false)
  | 3 => ("VacuumSequencer$State", "runningPumps", "I", false)
  | 4 => ("VacuumSequencer$State", "gas", "[J", true)
  | 5 => ("VacuumSequencer$State", "pressure", "[I", true)
  | 6 => ("VacuumSequencer$State", "outgassing", "[I", true)
  | 7 => ("VacuumSequencer$State", "leakSum", "[I", true)
  | 8 => ("VacuumSequencer$State", "rule", "[I", true)
  | 9 => ("VacuumSequencer$State", "valveTrips", "[I", true)
  | 10 => ("VacuumSequencer$State", "pumpTrips", "[I", true)
  | 11 => ("VacuumSequencer$State", "leak", "[I", true)
  | _ => ("VacuumSequencer$State", "tests", "LVacuumSequencer$TestLog;", true)
def tyX5 : Nat → FieldType := fun k => match k with
  | 0 => .object "VacuumSequencer$Layout"
  | 1 => .int
  | 2 => .int
  | 3 => .int
  | 4 => .array .long
  | 5 => .array .int
  | 6 => .array .int
  | 7 => .array .int
  | 8 => .array .int
  | 9 => .array .int
  | 10 => .array .int
  | 11 => .array .int
  | _ => .object "VacuumSequencer$TestLog"
abbrev wsX50 : List Cond := u_ws RX5 TX5 13
theorem nmX5 : ∀ a, a < 13 → ∀ b, b < 13 → a ≠ b → (TX5 a).2.1 ≠ (TX5 b).2.1 := by decide +kernel
theorem tyX5_ok : ∀ k, k < 13 → parseFieldDescriptor (TX5 k).2.2.1 = some (tyX5 k) := by decide +kernel
abbrev cX5_init : ByteArray := prog_7_method_1_code
def yX5_init : MethodName := ⟨RX5, "<init>", "(LVacuumSequencer$Layout;)V"⟩
abbrev cX5_reset : ByteArray := prog_7_method_2_code
def yX5_reset : MethodName := ⟨RX5, "reset", "()V"⟩
abbrev cX5_copyFrom : ByteArray := prog_7_method_3_code
def yX5_copyFrom : MethodName := ⟨RX5, "copyFrom", "(LVacuumSequencer$State;)V"⟩
abbrev cX5_isOpen : ByteArray := prog_7_method_4_code
def yX5_isOpen : MethodName := ⟨RX5, "isOpen", "(I)Z"⟩
abbrev cX5_isRunning : ByteArray := prog_7_method_5_code
def yX5_isRunning : MethodName := ⟨RX5, "isRunning", "(I)Z"⟩
abbrev cX5_openValve : ByteArray := prog_7_method_6_code
def yX5_openValve : MethodName := ⟨RX5, "openValve", "(I)V"⟩
abbrev cX5_closeValve : ByteArray := prog_7_method_7_code
def yX5_closeValve : MethodName := ⟨RX5, "closeValve", "(I)V"⟩
abbrev cX5_startPump : ByteArray := prog_7_method_8_code
def yX5_startPump : MethodName := ⟨RX5, "startPump", "(I)V"⟩
abbrev cX5_stopPump : ByteArray := prog_7_method_9_code
def yX5_stopPump : MethodName := ⟨RX5, "stopPump", "(I)V"⟩
abbrev cX5_putLeak : ByteArray := prog_7_method_10_code
def yX5_putLeak : MethodName := ⟨RX5, "putLeak", "(II)V"⟩
abbrev cX5_difference : ByteArray := prog_7_method_11_code
def yX5_difference : MethodName := ⟨RX5, "difference", "(I)I"⟩
abbrev cX5_openingBar : ByteArray := prog_7_method_12_code
def yX5_openingBar : MethodName := ⟨RX5, "openingBar", "(I)I"⟩
abbrev cX5_startingBar : ByteArray := prog_7_method_13_code
def yX5_startingBar : MethodName := ⟨RX5, "startingBar", "(I)I"⟩
abbrev cX5_conditionBar : ByteArray := prog_7_method_14_code
def yX5_conditionBar : MethodName := ⟨RX5, "conditionBar", "(I)I"⟩
abbrev cX5_isShutOff : ByteArray := prog_7_method_15_code
def yX5_isShutOff : MethodName := ⟨RX5, "isShutOff", "(I)Z"⟩
abbrev cX5_reach : ByteArray := prog_7_method_16_code
def yX5_reach : MethodName := ⟨RX5, "reach", "(I)I"⟩
abbrev cX5_passTicks : ByteArray := prog_7_method_17_code
def yX5_passTicks : MethodName := ⟨RX5, "passTicks", "(I)I"⟩
abbrev cX5_passUntilAtMost : ByteArray := prog_7_method_18_code
def yX5_passUntilAtMost : MethodName := ⟨RX5, "passUntilAtMost", "(II)I"⟩
abbrev cX5_makeTest : ByteArray := prog_7_method_19_code
def yX5_makeTest : MethodName := ⟨RX5, "makeTest", "(II)I"⟩
abbrev cX5_tick : ByteArray := prog_7_method_20_code
def yX5_tick : MethodName := ⟨RX5, "tick", "()I"⟩
abbrev cX5_tripValves : ByteArray := prog_7_method_21_code
def yX5_tripValves : MethodName := ⟨RX5, "tripValves", "()I"⟩
abbrev cX5_letGasIn : ByteArray := prog_7_method_22_code
def yX5_letGasIn : MethodName := ⟨RX5, "letGasIn", "()V"⟩
abbrev cX5_moveThroughValves : ByteArray := prog_7_method_23_code
def yX5_moveThroughValves : MethodName := ⟨RX5, "moveThroughValves", "()V"⟩
abbrev cX5_flow : ByteArray := prog_7_method_24_code
def yX5_flow : MethodName := ⟨RX5, "flow", "(IJ)J"⟩
abbrev cX5_runPumps : ByteArray := prog_7_method_25_code
def yX5_runPumps : MethodName := ⟨RX5, "runPumps", "()I"⟩
abbrev cX5_addGas : ByteArray := prog_7_method_26_code
def yX5_addGas : MethodName := ⟨RX5, "addGas", "(IJ)V"⟩
def RX6 : String := "VacuumSequencer$SystemParser"
def TX6 : u_T := fun k => match k with
  | 0 => ("VacuumSequencer$SystemParser", "reader", "LVacuumSequencer$Reader;", true)
  | _ => ("VacuumSequencer$SystemParser", "draft", "LVacuumSequencer$Layout;", true)
def tyX6 : Nat → FieldType := fun k => match k with
  | 0 => .object "VacuumSequencer$Reader"
  | _ => .object "VacuumSequencer$Layout"
abbrev wsX60 : List Cond := u_ws RX6 TX6 2
theorem nmX6 : ∀ a, a < 2 → ∀ b, b < 2 → a ≠ b → (TX6 a).2.1 ≠ (TX6 b).2.1 := by decide +kernel
theorem tyX6_ok : ∀ k, k < 2 → parseFieldDescriptor (TX6 k).2.2.1 = some (tyX6 k) := by decide +kernel
abbrev cX6_init : ByteArray := prog_8_method_1_code
def yX6_init : MethodName := ⟨RX6, "<init>", "(LVacuumSequencer$Reader;)V"⟩
abbrev cX6_parse : ByteArray := prog_8_method_2_code
def yX6_parse : MethodName := ⟨RX6, "parse", "()Z"⟩
abbrev cX6_section : ByteArray := prog_8_method_3_code
def yX6_section : MethodName := ⟨RX6, "section", "()I"⟩
abbrev cX6_isFull : ByteArray := prog_8_method_4_code
def yX6_isFull : MethodName := ⟨RX6, "isFull", "(I)Z"⟩
abbrev cX6_readChamber : ByteArray := prog_8_method_5_code
def yX6_readChamber : MethodName := ⟨RX6, "readChamber", "()V"⟩
abbrev cX6_readPump : ByteArray := prog_8_method_6_code
def yX6_readPump : MethodName := ⟨RX6, "readPump", "()V"⟩
abbrev cX6_readValve : ByteArray := prog_8_method_7_code
def yX6_readValve : MethodName := ⟨RX6, "readValve", "()V"⟩
abbrev cX6_readFlange : ByteArray := prog_8_method_8_code
def yX6_readFlange : MethodName := ⟨RX6, "readFlange", "()V"⟩
abbrev cX6_readOtherSide : ByteArray := prog_8_method_9_code
def yX6_readOtherSide : MethodName := ⟨RX6, "readOtherSide", "(I)I"⟩
def RX7 : String := "VacuumSequencer$TestLog"
def TX7 : u_T := fun k => match k with
  | 0 => ("VacuumSequencer$TestLog", "kept", "I", false)
  | 1 => ("VacuumSequencer$TestLog", "next", "I", false)
  | 2 => ("VacuumSequencer$TestLog", "facts", "[I", true)
  | _ => ("VacuumSequencer$TestLog", "rises", "[J", true)
def tyX7 : Nat → FieldType := fun k => match k with
  | 0 => .int
  | 1 => .int
  | 2 => .array .int
  | _ => .array .long
abbrev wsX70 : List Cond := u_ws RX7 TX7 4
theorem nmX7 : ∀ a, a < 4 → ∀ b, b < 4 → a ≠ b → (TX7 a).2.1 ≠ (TX7 b).2.1 := by decide +kernel
theorem tyX7_ok : ∀ k, k < 4 → parseFieldDescriptor (TX7 k).2.2.1 = some (tyX7 k) := by decide +kernel
abbrev cX7_init : ByteArray := prog_9_method_1_code
def yX7_init : MethodName := ⟨RX7, "<init>", "()V"⟩
abbrev cX7_copyFrom : ByteArray := prog_9_method_2_code
def yX7_copyFrom : MethodName := ⟨RX7, "copyFrom", "(LVacuumSequencer$TestLog;)V"⟩
abbrev cX7_add : ByteArray := prog_9_method_3_code
def yX7_add : MethodName := ⟨RX7, "add", "(IIIIJJ)V"⟩
abbrev cX7_fact : ByteArray := prog_9_method_4_code
def yX7_fact : MethodName := ⟨RX7, "fact", "(II)I"⟩
abbrev cX7_riseOf : ByteArray := prog_9_method_5_code
def yX7_riseOf : MethodName := ⟨RX7, "riseOf", "(IZ)J"⟩
abbrev cX7_slot : ByteArray := prog_9_method_6_code
def yX7_slot : MethodName := ⟨RX7, "slot", "(I)I"⟩
def RX8 : String := "VacuumSequencer$Text"
def TX8 : u_T := fun k => match k with
  | 0 => ("VacuumSequencer$Text", "bytes", "[B", true)
  | _ => ("VacuumSequencer$Text", "length", "I", false)
def tyX8 : Nat → FieldType := fun k => match k with
  | 0 => .array .byte
  | _ => .int
abbrev wsX80 : List Cond := u_ws RX8 TX8 2
theorem nmX8 : ∀ a, a < 2 → ∀ b, b < 2 → a ≠ b → (TX8 a).2.1 ≠ (TX8 b).2.1 := by decide +kernel
theorem tyX8_ok : ∀ k, k < 2 → parseFieldDescriptor (TX8 k).2.2.1 = some (tyX8 k) := by decide +kernel
abbrev cX8_init : ByteArray := prog_10_method_1_code
def yX8_init : MethodName := ⟨RX8, "<init>", "()V"⟩
abbrev cX8_addWord : ByteArray := prog_10_method_2_code
def yX8_addWord : MethodName := ⟨RX8, "addWord", "(I)V"⟩
abbrev cX8_byteAt : ByteArray := prog_10_method_3_code
def yX8_byteAt : MethodName := ⟨RX8, "byteAt", "(I)I"⟩
def RX9 : String := "VacuumSequencer"
def TX9 : u_T := fun k => match k with
  | 0 => ("VacuumSequencer", "text", "LVacuumSequencer$Text;", true)
  | 1 => ("VacuumSequencer", "reader", "LVacuumSequencer$Reader;", true)
  | 2 => ("VacuumSequencer", "layout", "LVacuumSequencer$Layout;", true)
  | 3 => ("VacuumSequencer", "parser", "LVacuumSequencer$SystemParser;", true)
  | 4 => ("VacuumSequencer", "recipe", "LVacuumSequencer$Recipe;", true)
  | 5 => ("VacuumSequencer", "hunt", "LVacuumSequencer$Hunt;", true)
  | 6 => ("VacuumSequencer", "report", "LVacuumSequencer$Report;", true)
  | 7 => ("VacuumSequencer", "past", "[LVacuumSequencer$State;", true)
  | 8 => ("VacuumSequencer", "present", "LVacuumSequencer$State;", false)
  | 9 => ("VacuumSequencer", "trial", "LVacuumSequencer$State;", false)
  | 10 => ("VacuumSequencer", "nextPast", "I", false)
  | 11 => ("VacuumSequencer", "undoable", "I", false)
  | 12 => ("VacuumSequencer", "latestErrorCode", "I", false)
  | _ => ("VacuumSequencer", "latestErrorPosition", "I", false)
def tyX9 : Nat → FieldType := fun k => match k with
  | 0 => .object "VacuumSequencer$Text"
  | 1 => .object "VacuumSequencer$Reader"
  | 2 => .object "VacuumSequencer$Layout"
  | 3 => .object "VacuumSequencer$SystemParser"
  | 4 => .object "VacuumSequencer$Recipe"
  | 5 => .object "VacuumSequencer$Hunt"
  | 6 => .object "VacuumSequencer$Report"
  | 7 => .array (.object "VacuumSequencer$State")
  | 8 => .object "VacuumSequencer$State"
  | 9 => .object "VacuumSequencer$State"
  | 10 => .int
  | 11 => .int
  | 12 => .int
  | _ => .int
abbrev wsX90 : List Cond := u_ws RX9 TX9 14
theorem nmX9 : ∀ a, a < 14 → ∀ b, b < 14 → a ≠ b → (TX9 a).2.1 ≠ (TX9 b).2.1 := by decide +kernel
theorem tyX9_ok : ∀ k, k < 14 → parseFieldDescriptor (TX9 k).2.2.1 = some (tyX9 k) := by decide +kernel
abbrev cX9_init : ByteArray := prog_1_method_1_code
def yX9_init : MethodName := ⟨RX9, "<init>", "()V"⟩
abbrev cX9_appendText : ByteArray := prog_1_method_2_code
def yX9_appendText : MethodName := ⟨RX9, "appendText", "(IIIII)I"⟩
abbrev cX9_truncateText : ByteArray := prog_1_method_3_code
def yX9_truncateText : MethodName := ⟨RX9, "truncateText", "(I)I"⟩
abbrev cX9_parseSystem : ByteArray := prog_1_method_4_code
def yX9_parseSystem : MethodName := ⟨RX9, "parseSystem", "()I"⟩
abbrev cX9_errorCode : ByteArray := prog_1_method_5_code
def yX9_errorCode : MethodName := ⟨RX9, "errorCode", "()I"⟩
abbrev cX9_errorPosition : ByteArray := prog_1_method_6_code
def yX9_errorPosition : MethodName := ⟨RX9, "errorPosition", "()I"⟩
abbrev cX9_open : ByteArray := prog_1_method_7_code
def yX9_open : MethodName := ⟨RX9, "open", "(I)I"⟩
abbrev cX9_close : ByteArray := prog_1_method_8_code
def yX9_close : MethodName := ⟨RX9, "close", "(I)I"⟩
abbrev cX9_start : ByteArray := prog_1_method_9_code
def yX9_start : MethodName := ⟨RX9, "start", "(I)I"⟩
abbrev cX9_stop : ByteArray := prog_1_method_10_code
def yX9_stop : MethodName := ⟨RX9, "stop", "(I)I"⟩
abbrev cX9_pass : ByteArray := prog_1_method_11_code
def yX9_pass : MethodName := ⟨RX9, "pass", "(I)I"⟩
abbrev cX9_passUntil : ByteArray := prog_1_method_12_code
def yX9_passUntil : MethodName := ⟨RX9, "passUntil", "(II)I"⟩
abbrev cX9_seal : ByteArray := prog_1_method_13_code
def yX9_seal : MethodName := ⟨RX9, "seal", "(I)I"⟩
abbrev cX9_setLeak : ByteArray := prog_1_method_14_code
def yX9_setLeak : MethodName := ⟨RX9, "setLeak", "(II)I"⟩
abbrev cX9_setOutgassing : ByteArray := prog_1_method_15_code
def yX9_setOutgassing : MethodName := ⟨RX9, "setOutgassing", "(II)I"⟩
abbrev cX9_setRule : ByteArray := prog_1_method_16_code
def yX9_setRule : MethodName := ⟨RX9, "setRule", "(II)I"⟩
abbrev cX9_test : ByteArray := prog_1_method_17_code
def yX9_test : MethodName := ⟨RX9, "test", "(II)I"⟩
abbrev cX9_runRecipe : ByteArray := prog_1_method_18_code
def yX9_runRecipe : MethodName := ⟨RX9, "runRecipe", "()I"⟩
abbrev cX9_count : ByteArray := prog_1_method_19_code
def yX9_count : MethodName := ⟨RX9, "count", "(I)I"⟩
abbrev cX9_chamber : ByteArray := prog_1_method_20_code
def yX9_chamber : MethodName := ⟨RX9, "chamber", "(II)I"⟩
abbrev cX9_gas : ByteArray := prog_1_method_21_code
def yX9_gas : MethodName := ⟨RX9, "gas", "(I)J"⟩
abbrev cX9_pump : ByteArray := prog_1_method_22_code
def yX9_pump : MethodName := ⟨RX9, "pump", "(II)I"⟩
abbrev cX9_valve : ByteArray := prog_1_method_23_code
def yX9_valve : MethodName := ⟨RX9, "valve", "(II)I"⟩
abbrev cX9_flange : ByteArray := prog_1_method_24_code
def yX9_flange : MethodName := ⟨RX9, "flange", "(II)I"⟩
abbrev cX9_rise : ByteArray := prog_1_method_25_code
def yX9_rise : MethodName := ⟨RX9, "rise", "(II)I"⟩
abbrev cX9_riseGas : ByteArray := prog_1_method_26_code
def yX9_riseGas : MethodName := ⟨RX9, "riseGas", "(IZ)J"⟩
abbrev cX9_mayOpen : ByteArray := prog_1_method_27_code
def yX9_mayOpen : MethodName := ⟨RX9, "mayOpen", "(I)I"⟩
abbrev cX9_mayStart : ByteArray := prog_1_method_28_code
def yX9_mayStart : MethodName := ⟨RX9, "mayStart", "(I)I"⟩
abbrev cX9_joined : ByteArray := prog_1_method_29_code
def yX9_joined : MethodName := ⟨RX9, "joined", "(I)I"⟩
abbrev cX9_isVented : ByteArray := prog_1_method_30_code
def yX9_isVented : MethodName := ⟨RX9, "isVented", "(I)Z"⟩
abbrev cX9_spread : ByteArray := prog_1_method_31_code
def yX9_spread : MethodName := ⟨RX9, "spread", "(I)I"⟩
abbrev cX9_isIsolated : ByteArray := prog_1_method_32_code
def yX9_isIsolated : MethodName := ⟨RX9, "isIsolated", "(I)Z"⟩
abbrev cX9_fewestValves : ByteArray := prog_1_method_33_code
def yX9_fewestValves : MethodName := ⟨RX9, "fewestValves", "(II)I"⟩
abbrev cX9_settled : ByteArray := prog_1_method_34_code
def yX9_settled : MethodName := ⟨RX9, "settled", "(I)I"⟩
abbrev cX9_openable : ByteArray := prog_1_method_35_code
def yX9_openable : MethodName := ⟨RX9, "openable", "()I"⟩
abbrev cX9_widest : ByteArray := prog_1_method_36_code
def yX9_widest : MethodName := ⟨RX9, "widest", "()I"⟩
abbrev cX9_pressureAfter : ByteArray := prog_1_method_37_code
def yX9_pressureAfter : MethodName := ⟨RX9, "pressureAfter", "(II)I"⟩
abbrev cX9_lowest : ByteArray := prog_1_method_38_code
def yX9_lowest : MethodName := ⟨RX9, "lowest", "(II)I"⟩
abbrev cX9_ticksTo : ByteArray := prog_1_method_39_code
def yX9_ticksTo : MethodName := ⟨RX9, "ticksTo", "(II)I"⟩
abbrev cX9_tripsIn : ByteArray := prog_1_method_40_code
def yX9_tripsIn : MethodName := ⟨RX9, "tripsIn", "(I)I"⟩
abbrev cX9_meanPressure : ByteArray := prog_1_method_41_code
def yX9_meanPressure : MethodName := ⟨RX9, "meanPressure", "(II)D"⟩
abbrev cX9_bestPump : ByteArray := prog_1_method_42_code
def yX9_bestPump : MethodName := ⟨RX9, "bestPump", "(II)I"⟩
abbrev cX9_bestValve : ByteArray := prog_1_method_43_code
def yX9_bestValve : MethodName := ⟨RX9, "bestValve", "(II)I"⟩
abbrev cX9_spray : ByteArray := prog_1_method_44_code
def yX9_spray : MethodName := ⟨RX9, "spray", "(I)I"⟩
abbrev cX9_sprays : ByteArray := prog_1_method_45_code
def yX9_sprays : MethodName := ⟨RX9, "sprays", "(II)I"⟩
abbrev cX9_found : ByteArray := prog_1_method_46_code
def yX9_found : MethodName := ⟨RX9, "found", "(II)I"⟩
abbrev cX9_worstFlange : ByteArray := prog_1_method_47_code
def yX9_worstFlange : MethodName := ⟨RX9, "worstFlange", "()I"⟩
abbrev cX9_writeReport : ByteArray := prog_1_method_48_code
def yX9_writeReport : MethodName := ⟨RX9, "writeReport", "()I"⟩
abbrev cX9_reportByte : ByteArray := prog_1_method_49_code
def yX9_reportByte : MethodName := ⟨RX9, "reportByte", "(I)I"⟩
abbrev cX9_undo : ByteArray := prog_1_method_50_code
def yX9_undo : MethodName := ⟨RX9, "undo", "()I"⟩
abbrev cX9_undoDepth : ByteArray := prog_1_method_51_code
def yX9_undoDepth : MethodName := ⟨RX9, "undoDepth", "()I"⟩
abbrev cX9_beginTrial : ByteArray := prog_1_method_52_code
def yX9_beginTrial : MethodName := ⟨RX9, "beginTrial", "()V"⟩
abbrev cX9_keepTrial : ByteArray := prog_1_method_53_code
def yX9_keepTrial : MethodName := ⟨RX9, "keepTrial", "()V"⟩
abbrev cX9_changeLeak : ByteArray := prog_1_method_54_code
def yX9_changeLeak : MethodName := ⟨RX9, "changeLeak", "(II)I"⟩
abbrev cX9_isTicks : ByteArray := prog_1_method_55_code
def yX9_isTicks : MethodName := ⟨RX9, "isTicks", "(I)Z"⟩
abbrev cX9_isTestTicks : ByteArray := prog_1_method_56_code
def yX9_isTestTicks : MethodName := ⟨RX9, "isTestTicks", "(I)Z"⟩
abbrev cX9_isPressure : ByteArray := prog_1_method_57_code
def yX9_isPressure : MethodName := ⟨RX9, "isPressure", "(I)Z"⟩
abbrev cX9_has : ByteArray := prog_1_method_58_code
def yX9_has : MethodName := ⟨RX9, "has", "(II)Z"⟩
abbrev cX9_told : ByteArray := prog_1_method_59_code
def yX9_told : MethodName := ⟨RX9, "told", "(I)I"⟩
abbrev cX9_sum : ByteArray := prog_1_method_60_code
def yX9_sum : MethodName := ⟨RX9, "sum", "([II)I"⟩
def RX10 : String := "VacuumSequencerModel"
def TX10 : u_T := fun k => match k with
  | 0 => ("VacuumSequencerModel", "w", "[J", true)
  | 1 => ("VacuumSequencerModel", "aside", "[J", true)
  | 2 => ("VacuumSequencerModel", "thought", "[J", true)
  | 3 => ("VacuumSequencerModel", "fresh", "[J", true)
  | 4 => ("VacuumSequencerModel", "past", "[J", true)
  | 5 => ("VacuumSequencerModel", "pastCount", "I", false)
  | 6 => ("VacuumSequencerModel", "thrown", "I", false)
  | 7 => ("VacuumSequencerModel", "text", "[B", true)
  | 8 => ("VacuumSequencerModel", "length", "I", false)
  | 9 => ("VacuumSequencerModel", "from", "I", false)
  | 10 => ("VacuumSequencerModel", "to", "I", false)
  | 11 => ("VacuumSequencerModel", "end", "I", false)
  | 12 => ("VacuumSequencerModel", "fault", "I", false)
  | 13 => ("VacuumSequencerModel", "faultAt", "I", false)
  | 14 => ("VacuumSequencerModel", "first", "I", false)
  | 15 => ("VacuumSequencerModel", "second", "I", false)
  | 16 => ("VacuumSequencerModel", "sprayed", "I", false)
  | 17 => ("VacuumSequencerModel", "foundSet", "I", false)
  | 18 => ("VacuumSequencerModel", "page", "[B", true)
  | _ => ("VacuumSequencerModel", "pageLength", "I", false)
def tyX10 : Nat → FieldType := fun k => match k with
  | 0 => .array .long
  | 1 => .array .long
  | 2 => .array .long
  | 3 => .array .long
  | 4 => .array .long
  | 5 => .int
  | 6 => .int
  | 7 => .array .byte
  | 8 => .int
  | 9 => .int
  | 10 => .int
  | 11 => .int
  | 12 => .int
  | 13 => .int
  | 14 => .int
  | 15 => .int
  | 16 => .int
  | 17 => .int
  | 18 => .array .byte
  | _ => .int
abbrev wsX100 : List Cond := u_ws RX10 TX10 20
theorem nmX10 : ∀ a, a < 20 → ∀ b, b < 20 → a ≠ b → (TX10 a).2.1 ≠ (TX10 b).2.1 := by decide +kernel
theorem tyX10_ok : ∀ k, k < 20 → parseFieldDescriptor (TX10 k).2.2.1 = some (tyX10 k) := by decide +kernel
abbrev cX10_init : ByteArray := prog_12_method_1_code
def yX10_init : MethodName := ⟨RX10, "<init>", "()V"⟩
abbrev cX10_thrown : ByteArray := prog_12_method_2_code
def yX10_thrown : MethodName := ⟨RX10, "thrown", "()I"⟩
abbrev cX10_in : ByteArray := prog_12_method_3_code
def yX10_in : MethodName := ⟨RX10, "in", "(JJJ)Z"⟩
abbrev cX10_no : ByteArray := prog_12_method_4_code
def yX10_no : MethodName := ⟨RX10, "no", "(I)I"⟩
abbrev cX10_fails : ByteArray := prog_12_method_5_code
def yX10_fails : MethodName := ⟨RX10, "fails", "(ZI)Z"⟩
abbrev cX10_many : ByteArray := prog_12_method_6_code
def yX10_many : MethodName := ⟨RX10, "many", "(I)I"⟩
abbrev cX10_isChamber : ByteArray := prog_12_method_7_code
def yX10_isChamber : MethodName := ⟨RX10, "isChamber", "(I)Z"⟩
abbrev cX10_isPump : ByteArray := prog_12_method_8_code
def yX10_isPump : MethodName := ⟨RX10, "isPump", "(I)Z"⟩
abbrev cX10_isValve : ByteArray := prog_12_method_9_code
def yX10_isValve : MethodName := ⟨RX10, "isValve", "(I)Z"⟩
abbrev cX10_isFlange : ByteArray := prog_12_method_10_code
def yX10_isFlange : MethodName := ⟨RX10, "isFlange", "(I)Z"⟩
abbrev cX10_isPressure : ByteArray := prog_12_method_11_code
def yX10_isPressure : MethodName := ⟨RX10, "isPressure", "(I)Z"⟩
abbrev cX10_isTicks : ByteArray := prog_12_method_12_code
def yX10_isTicks : MethodName := ⟨RX10, "isTicks", "(I)Z"⟩
abbrev cX10_chamberAt : ByteArray := prog_12_method_13_code
def yX10_chamberAt : MethodName := ⟨RX10, "chamberAt", "(I)I"⟩
abbrev cX10_pumpAt : ByteArray := prog_12_method_14_code
def yX10_pumpAt : MethodName := ⟨RX10, "pumpAt", "(I)I"⟩
abbrev cX10_valveAt : ByteArray := prog_12_method_15_code
def yX10_valveAt : MethodName := ⟨RX10, "valveAt", "(I)I"⟩
abbrev cX10_flangeAt : ByteArray := prog_12_method_16_code
def yX10_flangeAt : MethodName := ⟨RX10, "flangeAt", "(I)I"⟩
abbrev cX10_testAt : ByteArray := prog_12_method_17_code
def yX10_testAt : MethodName := ⟨RX10, "testAt", "(I)I"⟩
abbrev cX10_copy : ByteArray := prog_12_method_18_code
def yX10_copy : MethodName := ⟨RX10, "copy", "([J[J)V"⟩
abbrev cX10_push : ByteArray := prog_12_method_19_code
def yX10_push : MethodName := ⟨RX10, "push", "()V"⟩
abbrev cX10_remember : ByteArray := prog_12_method_20_code
def yX10_remember : MethodName := ⟨RX10, "remember", "()V"⟩
abbrev cX10_undo : ByteArray := prog_12_method_21_code
def yX10_undo : MethodName := ⟨RX10, "undo", "()I"⟩
abbrev cX10_undoDepth : ByteArray := prog_12_method_22_code
def yX10_undoDepth : MethodName := ⟨RX10, "undoDepth", "()I"⟩
abbrev cX10_volume : ByteArray := prog_12_method_23_code
def yX10_volume : MethodName := ⟨RX10, "volume", "(I)J"⟩
abbrev cX10_pressure : ByteArray := prog_12_method_24_code
def yX10_pressure : MethodName := ⟨RX10, "pressure", "(I)J"⟩
abbrev cX10_ofValve : ByteArray := prog_12_method_25_code
def yX10_ofValve : MethodName := ⟨RX10, "ofValve", "(II)I"⟩
abbrev cX10_ofPump : ByteArray := prog_12_method_26_code
def yX10_ofPump : MethodName := ⟨RX10, "ofPump", "(II)I"⟩
abbrev cX10_difference : ByteArray := prog_12_method_27_code
def yX10_difference : MethodName := ⟨RX10, "difference", "(I)J"⟩
abbrev cX10_isOpen : ByteArray := prog_12_method_28_code
def yX10_isOpen : MethodName := ⟨RX10, "isOpen", "(I)Z"⟩
abbrev cX10_isRunning : ByteArray := prog_12_method_29_code
def yX10_isRunning : MethodName := ⟨RX10, "isRunning", "(I)Z"⟩
abbrev cX10_mayJoin : ByteArray := prog_12_method_30_code
def yX10_mayJoin : MethodName := ⟨RX10, "mayJoin", "(I)Z"⟩
abbrev cX10_isLowEnough : ByteArray := prog_12_method_31_code
def yX10_isLowEnough : MethodName := ⟨RX10, "isLowEnough", "(I)Z"⟩
abbrev cX10_isBacked : ByteArray := prog_12_method_32_code
def yX10_isBacked : MethodName := ⟨RX10, "isBacked", "(I)Z"⟩
abbrev cX10_leaks : ByteArray := prog_12_method_33_code
def yX10_leaks : MethodName := ⟨RX10, "leaks", "(I)J"⟩
abbrev cX10_tripValves : ByteArray := prog_12_method_34_code
def yX10_tripValves : MethodName := ⟨RX10, "tripValves", "()V"⟩
abbrev cX10_getGas : ByteArray := prog_12_method_35_code
def yX10_getGas : MethodName := ⟨RX10, "getGas", "()V"⟩
abbrev cX10_give : ByteArray := prog_12_method_36_code
def yX10_give : MethodName := ⟨RX10, "give", "(IJ)V"⟩
abbrev cX10_flowThrough : ByteArray := prog_12_method_37_code
def yX10_flowThrough : MethodName := ⟨RX10, "flowThrough", "(I)V"⟩
abbrev cX10_pumpOut : ByteArray := prog_12_method_38_code
def yX10_pumpOut : MethodName := ⟨RX10, "pumpOut", "(I)V"⟩
abbrev cX10_tick : ByteArray := prog_12_method_39_code
def yX10_tick : MethodName := ⟨RX10, "tick", "()V"⟩
abbrev cX10_trips : ByteArray := prog_12_method_40_code
def yX10_trips : MethodName := ⟨RX10, "trips", "()I"⟩
abbrev cX10_passNow : ByteArray := prog_12_method_41_code
def yX10_passNow : MethodName := ⟨RX10, "passNow", "(I)I"⟩
abbrev cX10_goDown : ByteArray := prog_12_method_42_code
def yX10_goDown : MethodName := ⟨RX10, "goDown", "(II)I"⟩
abbrev cX10_canOpen : ByteArray := prog_12_method_43_code
def yX10_canOpen : MethodName := ⟨RX10, "canOpen", "(I)Z"⟩
abbrev cX10_turn : ByteArray := prog_12_method_44_code
def yX10_turn : MethodName := ⟨RX10, "turn", "(II)I"⟩
abbrev cX10_open : ByteArray := prog_12_method_45_code
def yX10_open : MethodName := ⟨RX10, "open", "(I)I"⟩
abbrev cX10_close : ByteArray := prog_12_method_46_code
def yX10_close : MethodName := ⟨RX10, "close", "(I)I"⟩
abbrev cX10_canStart : ByteArray := prog_12_method_47_code
def yX10_canStart : MethodName := ⟨RX10, "canStart", "(I)Z"⟩
abbrev cX10_run : ByteArray := prog_12_method_48_code
def yX10_run : MethodName := ⟨RX10, "run", "(II)I"⟩
abbrev cX10_start : ByteArray := prog_12_method_49_code
def yX10_start : MethodName := ⟨RX10, "start", "(I)I"⟩
abbrev cX10_stop : ByteArray := prog_12_method_50_code
def yX10_stop : MethodName := ⟨RX10, "stop", "(I)I"⟩
abbrev cX10_pass : ByteArray := prog_12_method_51_code
def yX10_pass : MethodName := ⟨RX10, "pass", "(I)I"⟩
abbrev cX10_passUntil : ByteArray := prog_12_method_52_code
def yX10_passUntil : MethodName := ⟨RX10, "passUntil", "(II)I"⟩
abbrev cX10_setNow : ByteArray := prog_12_method_53_code
def yX10_setNow : MethodName := ⟨RX10, "setNow", "(II)I"⟩
abbrev cX10_sets : ByteArray := prog_12_method_54_code
def yX10_sets : MethodName := ⟨RX10, "sets", "(II)I"⟩
abbrev cX10_seal : ByteArray := prog_12_method_55_code
def yX10_seal : MethodName := ⟨RX10, "seal", "(I)I"⟩
abbrev cX10_setLeak : ByteArray := prog_12_method_56_code
def yX10_setLeak : MethodName := ⟨RX10, "setLeak", "(II)I"⟩
abbrev cX10_setOutgassing : ByteArray := prog_12_method_57_code
def yX10_setOutgassing : MethodName := ⟨RX10, "setOutgassing", "(II)I"⟩
abbrev cX10_setRule : ByteArray := prog_12_method_58_code
def yX10_setRule : MethodName := ⟨RX10, "setRule", "(II)I"⟩
abbrev cX10_isAlone : ByteArray := prog_12_method_59_code
def yX10_isAlone : MethodName := ⟨RX10, "isAlone", "(I)Z"⟩
abbrev cX10_isTestTicks : ByteArray := prog_12_method_60_code
def yX10_isTestTicks : MethodName := ⟨RX10, "isTestTicks", "(I)Z"⟩
abbrev cX10_riseIn : ByteArray := prog_12_method_61_code
def yX10_riseIn : MethodName := ⟨RX10, "riseIn", "(II)J"⟩
abbrev cX10_testNow : ByteArray := prog_12_method_62_code
def yX10_testNow : MethodName := ⟨RX10, "testNow", "(II)I"⟩
abbrev cX10_test : ByteArray := prog_12_method_63_code
def yX10_test : MethodName := ⟨RX10, "test", "(II)I"⟩
abbrev cX10_bring : ByteArray := prog_12_method_64_code
def yX10_bring : MethodName := ⟨RX10, "bring", "(I)V"⟩
abbrev cX10_appendText : ByteArray := prog_12_method_65_code
def yX10_appendText : MethodName := ⟨RX10, "appendText", "(IIIII)I"⟩
abbrev cX10_truncateText : ByteArray := prog_12_method_66_code
def yX10_truncateText : MethodName := ⟨RX10, "truncateText", "(I)I"⟩
abbrev cX10_byteAt : ByteArray := prog_12_method_67_code
def yX10_byteAt : MethodName := ⟨RX10, "byteAt", "(I)I"⟩
abbrev cX10_isLetterAt : ByteArray := prog_12_method_68_code
def yX10_isLetterAt : MethodName := ⟨RX10, "isLetterAt", "(I)Z"⟩
abbrev cX10_isDigitAt : ByteArray := prog_12_method_69_code
def yX10_isDigitAt : MethodName := ⟨RX10, "isDigitAt", "(I)Z"⟩
abbrev cX10_next : ByteArray := prog_12_method_70_code
def yX10_next : MethodName := ⟨RX10, "next", "()V"⟩
abbrev cX10_wrong : ByteArray := prog_12_method_71_code
def yX10_wrong : MethodName := ⟨RX10, "wrong", "(I)V"⟩
abbrev cX10_isWord : ByteArray := prog_12_method_72_code
def yX10_isWord : MethodName := ⟨RX10, "isWord", "(Ljava/lang/String;)Z"⟩
abbrev cX10_goOn : ByteArray := prog_12_method_73_code
def yX10_goOn : MethodName := ⟨RX10, "goOn", "()V"⟩
abbrev cX10_see : ByteArray := prog_12_method_74_code
def yX10_see : MethodName := ⟨RX10, "see", "(JJ)I"⟩
abbrev cX10_number : ByteArray := prog_12_method_75_code
def yX10_number : MethodName := ⟨RX10, "number", "(JJ)I"⟩
abbrev cX10_must : ByteArray := prog_12_method_76_code
def yX10_must : MethodName := ⟨RX10, "must", "(Ljava/lang/String;)V"⟩
abbrev cX10_begin : ByteArray := prog_12_method_77_code
def yX10_begin : MethodName := ⟨RX10, "begin", "()V"⟩
abbrev cX10_keyword : ByteArray := prog_12_method_78_code
def yX10_keyword : MethodName := ⟨RX10, "keyword", "(Ljava/lang/String;II)V"⟩
abbrev cX10_chamberHere : ByteArray := prog_12_method_79_code
def yX10_chamberHere : MethodName := ⟨RX10, "chamberHere", "()I"⟩
abbrev cX10_otherHere : ByteArray := prog_12_method_80_code
def yX10_otherHere : MethodName := ⟨RX10, "otherHere", "(I)I"⟩
abbrev cX10_readChamber : ByteArray := prog_12_method_81_code
def yX10_readChamber : MethodName := ⟨RX10, "readChamber", "()V"⟩
abbrev cX10_readPump : ByteArray := prog_12_method_82_code
def yX10_readPump : MethodName := ⟨RX10, "readPump", "()V"⟩
abbrev cX10_readValve : ByteArray := prog_12_method_83_code
def yX10_readValve : MethodName := ⟨RX10, "readValve", "()V"⟩
abbrev cX10_readFlange : ByteArray := prog_12_method_84_code
def yX10_readFlange : MethodName := ⟨RX10, "readFlange", "()V"⟩
abbrev cX10_parseSystem : ByteArray := prog_12_method_85_code
def yX10_parseSystem : MethodName := ⟨RX10, "parseSystem", "()I"⟩
abbrev cX10_errorCode : ByteArray := prog_12_method_86_code
def yX10_errorCode : MethodName := ⟨RX10, "errorCode", "()I"⟩
abbrev cX10_errorPosition : ByteArray := prog_12_method_87_code
def yX10_errorPosition : MethodName := ⟨RX10, "errorPosition", "()I"⟩
abbrev cX10_operation : ByteArray := prog_12_method_88_code
def yX10_operation : MethodName := ⟨RX10, "operation", "()I"⟩
abbrev cX10_does : ByteArray := prog_12_method_89_code
def yX10_does : MethodName := ⟨RX10, "does", "(I)Z"⟩
abbrev cX10_goesThrough : ByteArray := prog_12_method_90_code
def yX10_goesThrough : MethodName := ⟨RX10, "goesThrough", "()V"⟩
abbrev cX10_runRecipe : ByteArray := prog_12_method_91_code
def yX10_runRecipe : MethodName := ⟨RX10, "runRecipe", "()I"⟩
abbrev cX10_count : ByteArray := prog_12_method_92_code
def yX10_count : MethodName := ⟨RX10, "count", "(I)I"⟩
abbrev cX10_valvesOf : ByteArray := prog_12_method_93_code
def yX10_valvesOf : MethodName := ⟨RX10, "valvesOf", "(I)I"⟩
abbrev cX10_pumpsOf : ByteArray := prog_12_method_94_code
def yX10_pumpsOf : MethodName := ⟨RX10, "pumpsOf", "(I)I"⟩
abbrev cX10_chamber : ByteArray := prog_12_method_95_code
def yX10_chamber : MethodName := ⟨RX10, "chamber", "(II)I"⟩
abbrev cX10_gas : ByteArray := prog_12_method_96_code
def yX10_gas : MethodName := ⟨RX10, "gas", "(I)J"⟩
abbrev cX10_pump : ByteArray := prog_12_method_97_code
def yX10_pump : MethodName := ⟨RX10, "pump", "(II)I"⟩
abbrev cX10_valve : ByteArray := prog_12_method_98_code
def yX10_valve : MethodName := ⟨RX10, "valve", "(II)I"⟩
abbrev cX10_flange : ByteArray := prog_12_method_99_code
def yX10_flange : MethodName := ⟨RX10, "flange", "(II)I"⟩
abbrev cX10_isNoTest : ByteArray := prog_12_method_100_code
def yX10_isNoTest : MethodName := ⟨RX10, "isNoTest", "(I)Z"⟩
abbrev cX10_rise : ByteArray := prog_12_method_101_code
def yX10_rise : MethodName := ⟨RX10, "rise", "(II)I"⟩
abbrev cX10_riseGas : ByteArray := prog_12_method_102_code
def yX10_riseGas : MethodName := ⟨RX10, "riseGas", "(IZ)J"⟩
abbrev cX10_mayOpen : ByteArray := prog_12_method_103_code
def yX10_mayOpen : MethodName := ⟨RX10, "mayOpen", "(I)I"⟩
abbrev cX10_mayStart : ByteArray := prog_12_method_104_code
def yX10_mayStart : MethodName := ⟨RX10, "mayStart", "(I)I"⟩
abbrev cX10_beside : ByteArray := prog_12_method_105_code
def yX10_beside : MethodName := ⟨RX10, "beside", "(IZ)I"⟩
abbrev cX10_joinedWith : ByteArray := prog_12_method_106_code
def yX10_joinedWith : MethodName := ⟨RX10, "joinedWith", "(I)I"⟩
abbrev cX10_joined : ByteArray := prog_12_method_107_code
def yX10_joined : MethodName := ⟨RX10, "joined", "(I)I"⟩
abbrev cX10_leadsOut : ByteArray := prog_12_method_108_code
def yX10_leadsOut : MethodName := ⟨RX10, "leadsOut", "(IZ)Z"⟩
abbrev cX10_isVented : ByteArray := prog_12_method_109_code
def yX10_isVented : MethodName := ⟨RX10, "isVented", "(I)Z"⟩
abbrev cX10_spread : ByteArray := prog_12_method_110_code
def yX10_spread : MethodName := ⟨RX10, "spread", "(I)I"⟩
abbrev cX10_isIsolated : ByteArray := prog_12_method_111_code
def yX10_isIsolated : MethodName := ⟨RX10, "isIsolated", "(I)Z"⟩
abbrev cX10_fewestValves : ByteArray := prog_12_method_112_code
def yX10_fewestValves : MethodName := ⟨RX10, "fewestValves", "(II)I"⟩
abbrev cX10_settled : ByteArray := prog_12_method_113_code
def yX10_settled : MethodName := ⟨RX10, "settled", "(I)I"⟩
abbrev cX10_openable : ByteArray := prog_12_method_114_code
def yX10_openable : MethodName := ⟨RX10, "openable", "()I"⟩
abbrev cX10_widest : ByteArray := prog_12_method_115_code
def yX10_widest : MethodName := ⟨RX10, "widest", "()I"⟩
abbrev cX10_isNoLook : ByteArray := prog_12_method_116_code
def yX10_isNoLook : MethodName := ⟨RX10, "isNoLook", "(II)Z"⟩
abbrev cX10_think : ByteArray := prog_12_method_117_code
def yX10_think : MethodName := ⟨RX10, "think", "()V"⟩
abbrev cX10_wake : ByteArray := prog_12_method_118_code
def yX10_wake : MethodName := ⟨RX10, "wake", "()V"⟩
abbrev cX10_pressureIn : ByteArray := prog_12_method_119_code
def yX10_pressureIn : MethodName := ⟨RX10, "pressureIn", "(II)J"⟩
abbrev cX10_pressureAfter : ByteArray := prog_12_method_120_code
def yX10_pressureAfter : MethodName := ⟨RX10, "pressureAfter", "(II)I"⟩
abbrev cX10_lowest : ByteArray := prog_12_method_121_code
def yX10_lowest : MethodName := ⟨RX10, "lowest", "(II)I"⟩
abbrev cX10_ticksTo : ByteArray := prog_12_method_122_code
def yX10_ticksTo : MethodName := ⟨RX10, "ticksTo", "(II)I"⟩
abbrev cX10_tripsIn : ByteArray := prog_12_method_123_code
def yX10_tripsIn : MethodName := ⟨RX10, "tripsIn", "(I)I"⟩
abbrev cX10_meanPressure : ByteArray := prog_12_method_124_code
def yX10_meanPressure : MethodName := ⟨RX10, "meanPressure", "(II)D"⟩
abbrev cX10_bestPump : ByteArray := prog_12_method_125_code
def yX10_bestPump : MethodName := ⟨RX10, "bestPump", "(II)I"⟩
abbrev cX10_bestValve : ByteArray := prog_12_method_126_code
def yX10_bestValve : MethodName := ⟨RX10, "bestValve", "(II)I"⟩
abbrev cX10_leaksOf : ByteArray := prog_12_method_127_code
def yX10_leaksOf : MethodName := ⟨RX10, "leaksOf", "(I)J"⟩
abbrev cX10_spray : ByteArray := prog_12_method_128_code
def yX10_spray : MethodName := ⟨RX10, "spray", "(I)I"⟩
abbrev cX10_sizeOf : ByteArray := prog_12_method_129_code
def yX10_sizeOf : MethodName := ⟨RX10, "sizeOf", "(I)I"⟩
abbrev cX10_firstOnes : ByteArray := prog_12_method_130_code
def yX10_firstOnes : MethodName := ⟨RX10, "firstOnes", "(II)I"⟩
abbrev cX10_hunt : ByteArray := prog_12_method_131_code
def yX10_hunt : MethodName := ⟨RX10, "hunt", "(II)V"⟩
abbrev cX10_isNoHunt : ByteArray := prog_12_method_132_code
def yX10_isNoHunt : MethodName := ⟨RX10, "isNoHunt", "(II)Z"⟩
abbrev cX10_sprays : ByteArray := prog_12_method_133_code
def yX10_sprays : MethodName := ⟨RX10, "sprays", "(II)I"⟩
abbrev cX10_found : ByteArray := prog_12_method_134_code
def yX10_found : MethodName := ⟨RX10, "found", "(II)I"⟩
abbrev cX10_worstFlange : ByteArray := prog_12_method_135_code
def yX10_worstFlange : MethodName := ⟨RX10, "worstFlange", "()I"⟩
abbrev cX10_print : ByteArray := prog_12_method_136_code
def yX10_print : MethodName := ⟨RX10, "print", "(I)V"⟩
abbrev cX10_printNumber : ByteArray := prog_12_method_137_code
def yX10_printNumber : MethodName := ⟨RX10, "printNumber", "(J)V"⟩
abbrev cX10_printMark : ByteArray := prog_12_method_138_code
def yX10_printMark : MethodName := ⟨RX10, "printMark", "(CI)V"⟩
abbrev cX10_printChamber : ByteArray := prog_12_method_139_code
def yX10_printChamber : MethodName := ⟨RX10, "printChamber", "(I)V"⟩
abbrev cX10_writeReport : ByteArray := prog_12_method_140_code
def yX10_writeReport : MethodName := ⟨RX10, "writeReport", "()I"⟩
abbrev cX10_reportByte : ByteArray := prog_12_method_141_code
def yX10_reportByte : MethodName := ⟨RX10, "reportByte", "(I)I"⟩
def RL : String := "VacuumSequencerLaw"
abbrev cL_appendText : ByteArray := method_3_code
def yL_appendText : MethodName := ⟨RL, "appendText", "(LVacuumSequencer;IIIII[J)I"⟩
abbrev cL_truncateText : ByteArray := method_4_code
def yL_truncateText : MethodName := ⟨RL, "truncateText", "(LVacuumSequencer;I[J)I"⟩
abbrev cL_open : ByteArray := method_5_code
def yL_open : MethodName := ⟨RL, "open", "(LVacuumSequencer;I[J)I"⟩
abbrev cL_close : ByteArray := method_6_code
def yL_close : MethodName := ⟨RL, "close", "(LVacuumSequencer;I[J)I"⟩
abbrev cL_start : ByteArray := method_7_code
def yL_start : MethodName := ⟨RL, "start", "(LVacuumSequencer;I[J)I"⟩
abbrev cL_stop : ByteArray := method_8_code
def yL_stop : MethodName := ⟨RL, "stop", "(LVacuumSequencer;I[J)I"⟩
abbrev cL_pass : ByteArray := method_9_code
def yL_pass : MethodName := ⟨RL, "pass", "(LVacuumSequencer;I[J)I"⟩
abbrev cL_passUntil : ByteArray := method_10_code
def yL_passUntil : MethodName := ⟨RL, "passUntil", "(LVacuumSequencer;II[J)I"⟩
abbrev cL_seal : ByteArray := method_11_code
def yL_seal : MethodName := ⟨RL, "seal", "(LVacuumSequencer;I[J)I"⟩
abbrev cL_setLeak : ByteArray := method_12_code
def yL_setLeak : MethodName := ⟨RL, "setLeak", "(LVacuumSequencer;II[J)I"⟩
abbrev cL_setOutgassing : ByteArray := method_13_code
def yL_setOutgassing : MethodName := ⟨RL, "setOutgassing", "(LVacuumSequencer;II[J)I"⟩
abbrev cL_setRule : ByteArray := method_14_code
def yL_setRule : MethodName := ⟨RL, "setRule", "(LVacuumSequencer;II[J)I"⟩
abbrev cL_test : ByteArray := method_15_code
def yL_test : MethodName := ⟨RL, "test", "(LVacuumSequencer;II[J)I"⟩
abbrev cL_count : ByteArray := method_16_code
def yL_count : MethodName := ⟨RL, "count", "(LVacuumSequencer;I[J)I"⟩
abbrev cL_chamber : ByteArray := method_17_code
def yL_chamber : MethodName := ⟨RL, "chamber", "(LVacuumSequencer;II[J)I"⟩
abbrev cL_gas : ByteArray := method_18_code
def yL_gas : MethodName := ⟨RL, "gas", "(LVacuumSequencer;I[J)I"⟩
abbrev cL_pump : ByteArray := method_19_code
def yL_pump : MethodName := ⟨RL, "pump", "(LVacuumSequencer;II[J)I"⟩
abbrev cL_valve : ByteArray := method_20_code
def yL_valve : MethodName := ⟨RL, "valve", "(LVacuumSequencer;II[J)I"⟩
abbrev cL_flange : ByteArray := method_21_code
def yL_flange : MethodName := ⟨RL, "flange", "(LVacuumSequencer;II[J)I"⟩
abbrev cL_rise : ByteArray := method_22_code
def yL_rise : MethodName := ⟨RL, "rise", "(LVacuumSequencer;II[J)I"⟩
abbrev cL_riseGas : ByteArray := method_23_code
def yL_riseGas : MethodName := ⟨RL, "riseGas", "(LVacuumSequencer;IZ[J)I"⟩
abbrev cL_mayOpen : ByteArray := method_24_code
def yL_mayOpen : MethodName := ⟨RL, "mayOpen", "(LVacuumSequencer;I[J)I"⟩
abbrev cL_mayStart : ByteArray := method_25_code
def yL_mayStart : MethodName := ⟨RL, "mayStart", "(LVacuumSequencer;I[J)I"⟩
abbrev cL_joined : ByteArray := method_26_code
def yL_joined : MethodName := ⟨RL, "joined", "(LVacuumSequencer;I[J)I"⟩
abbrev cL_isVented : ByteArray := method_27_code
def yL_isVented : MethodName := ⟨RL, "isVented", "(LVacuumSequencer;I[J)I"⟩
abbrev cL_spread : ByteArray := method_28_code
def yL_spread : MethodName := ⟨RL, "spread", "(LVacuumSequencer;I[J)I"⟩
abbrev cL_isIsolated : ByteArray := method_29_code
def yL_isIsolated : MethodName := ⟨RL, "isIsolated", "(LVacuumSequencer;I[J)I"⟩
abbrev cL_fewestValves : ByteArray := method_30_code
def yL_fewestValves : MethodName := ⟨RL, "fewestValves", "(LVacuumSequencer;II[J)I"⟩
abbrev cL_settled : ByteArray := method_31_code
def yL_settled : MethodName := ⟨RL, "settled", "(LVacuumSequencer;I[J)I"⟩
abbrev cL_widest : ByteArray := method_32_code
def yL_widest : MethodName := ⟨RL, "widest", "(LVacuumSequencer;[J)I"⟩
abbrev cL_pressureAfter : ByteArray := method_33_code
def yL_pressureAfter : MethodName := ⟨RL, "pressureAfter", "(LVacuumSequencer;II[J)I"⟩
abbrev cL_lowest : ByteArray := method_34_code
def yL_lowest : MethodName := ⟨RL, "lowest", "(LVacuumSequencer;II[J)I"⟩
abbrev cL_ticksTo : ByteArray := method_35_code
def yL_ticksTo : MethodName := ⟨RL, "ticksTo", "(LVacuumSequencer;II[J)I"⟩
abbrev cL_tripsIn : ByteArray := method_36_code
def yL_tripsIn : MethodName := ⟨RL, "tripsIn", "(LVacuumSequencer;I[J)I"⟩
abbrev cL_meanPressure : ByteArray := method_37_code
def yL_meanPressure : MethodName := ⟨RL, "meanPressure", "(LVacuumSequencer;II[D)I"⟩
abbrev cL_bestPump : ByteArray := method_38_code
def yL_bestPump : MethodName := ⟨RL, "bestPump", "(LVacuumSequencer;II[J)I"⟩
abbrev cL_bestValve : ByteArray := method_39_code
def yL_bestValve : MethodName := ⟨RL, "bestValve", "(LVacuumSequencer;II[J)I"⟩
abbrev cL_spray : ByteArray := method_40_code
def yL_spray : MethodName := ⟨RL, "spray", "(LVacuumSequencer;I[J)I"⟩
abbrev cL_sprays : ByteArray := method_41_code
def yL_sprays : MethodName := ⟨RL, "sprays", "(LVacuumSequencer;II[J)I"⟩
abbrev cL_found : ByteArray := method_42_code
def yL_found : MethodName := ⟨RL, "found", "(LVacuumSequencer;II[J)I"⟩
abbrev cL_worstFlange : ByteArray := method_43_code
def yL_worstFlange : MethodName := ⟨RL, "worstFlange", "(LVacuumSequencer;[J)I"⟩
abbrev cL_reportByte : ByteArray := method_44_code
def yL_reportByte : MethodName := ⟨RL, "reportByte", "(LVacuumSequencer;I[J)I"⟩
abbrev cL_undo : ByteArray := method_45_code
def yL_undo : MethodName := ⟨RL, "undo", "(LVacuumSequencer;[J)I"⟩
abbrev cL_law : ByteArray := code
def yL_law : MethodName := ⟨RL, "law", "([I)Z"⟩
abbrev vwCl : List vw_C := [(RX0, TX0, 6), (RX1, TX1, 19), (RX2, TX2, 7), (RX3, TX3, 4), (RX4, TX4, 2), (RX5, TX5, 13), (RX6, TX6, 2), (RX7, TX7, 4), (RX8, TX8, 2), (RX9, TX9, 14), (RX10, TX10, 20)]
end
section
/-! ===== the walk in this claim's own words: one world for everything that lives ===== -/
def bigw : List Cond := lw_tbl.filter goodWord
theorem mem_big {w : Cond} (i : Nat) (h : lw_tbl[i]? = some w) (g : goodWord w = true) : w ∈ bigw := List.mem_filter.mpr ⟨List.mem_of_getElem? h, g⟩
theorem big_good : GoodIn bigw bigw := fun w h => ⟨h, good_of_word (List.mem_filter.mp h).2⟩
def clS : List vw_C := [(RX0, TX0, 6), (RX1, TX1, 19), (RX2, TX2, 7), (RX3, TX3, 4), (RX4, TX4, 2), (RX5, TX5, 13), (RX6, TX6, 2), (RX7, TX7, 4), (RX8, TX8, 2), (RX9, TX9, 14), (RX10, TX10, 20)]
/-- launch; base; the tables' places; the classes of arrays; the strings' cells and their bytes' -/
abbrev KT : Type := Launch × Nat × va_G × (Nat → ClassId) × (Nat → Nat) × (Nat → Nat)
abbrev KT.l (k : KT) : Launch := k.1
abbrev KT.b (k : KT) : Nat := k.2.1
abbrev KT.D (k : KT) : va_G := k.2.2.1
abbrev KT.c (k : KT) : Nat → ClassId := k.2.2.2.1
abbrev KT.sK (k : KT) : Nat → Nat := k.2.2.2.2.1
abbrev KT.sV (k : KT) : Nat → Nat := k.2.2.2.2.2
def kA (k : KT) : Nat → Prop := fun q => k.b ≤ q
def tysOf (k : KT) : List (ClassId × FieldType) := [(k.c 0, .int), (k.c 1, .long), (k.c 2, .byte), (k.c 3, .double), (k.c 4, .object RX5)]
abbrev ZT : Type := Program × Env × Room × State × MethodId × Array Value × List Frame × Method × Code × (State → Prop)
abbrev zP (z : ZT) : Program := z.1
abbrev zE (z : ZT) : Env := z.2.1
abbrev zR (z : ZT) : Room := z.2.2.1
abbrev zS (z : ZT) : State := z.2.2.2.1
abbrev zM (z : ZT) : MethodId := z.2.2.2.2.1
abbrev zA (z : ZT) : Array Value := z.2.2.2.2.2.1
abbrev zB (z : ZT) : List Frame := z.2.2.2.2.2.2.1
abbrev zH (z : ZT) : Method := z.2.2.2.2.2.2.2.1
abbrev zC (z : ZT) : Code := z.2.2.2.2.2.2.2.2.1
abbrev zQ (z : ZT) : State → Prop := z.2.2.2.2.2.2.2.2.2
abbrev ZW (k : KT) (z : ZT) (H : Heap) (L : List Loc) (n n' : Nat) (g : JFrame) : Prop := W (zP z) k.l (zE z) (zR z) (zS z) (zM z) (zA z) (zB z) (zH z) (zC z) H L n n' (zQ z) g
-- the locals by their places
def slO (s : Slot) : Option Value := match s with
  | .val v => some v
  | _ => none
def loOf (sl : List Slot) : List (Option Value) := sl.map slO
def lvH (la : Array Slot) (lo : List (Option Value)) : Prop := la.size = lo.length ∧ lv_wf la ∧ ∀ (i : Nat) (v : Value), lo[i]? = some (some v) → la[i]? = some (.val v)
def prs (lo : List (Option Value)) : List (Nat × Value) := (List.range lo.length).filterMap (fun i => match lo[i]? with
  | some (some v) => some (i, v)
  | _ => none)
theorem prs_mem {lo : List (Option Value)} {i : Nat} {v : Value} : (i, v) ∈ prs lo ↔ lo[i]? = some (some v) := by
  unfold prs
  rw [List.mem_filterMap]
  constructor
  · rintro ⟨j, hj, h⟩
    cases hl : lo[j]? with
    | none => rw [hl] at h; simp at h
    | some o =>
      cases o with
      | none => rw [hl] at h; simp at h
      | some w =>
        rw [hl] at h
        simp only [Option.some.injEq, Prod.mk.injEq] at h
        obtain ⟨rfl, rfl⟩ := h
        exact hl
  · intro h
    have hlt : i < lo.length := (List.getElem?_eq_some_iff.mp h).1
    exact ⟨i, List.mem_range.mpr hlt, by rw [h]⟩
theorem lvH.has {la : Array Slot} {lo : List (Option Value)} (h : lvH la lo) : lv_has la lo.length (prs lo) := ⟨h.1, h.2.1, fun q hq => h.2.2 q.1 q.2 (prs_mem.mp hq)⟩
theorem lvH.of {la : Array Slot} {lo : List (Option Value)} {l : List (Nat × Value)} {n : Nat} (h : lv_has la n l) (hn : lo.length = n) (hm : ∀ (i : Nat) (v : Value), lo[i]? = some (some v) → (i, v) ∈ l) : lvH la lo := ⟨h.1.trans hn.symm, h.2.1, fun i v hi => h.2.2 (i, v) (hm i v hi)⟩
theorem lvH.at {la : Array Slot} {lo : List (Option Value)} {i : Nat} {v : Value} (h : lvH la lo) (hi : lo[i]? = some (some v)) : la[i]? = some (.val v) := h.2.2 i v hi
theorem lvH.of_args {sl : List Slot} {n : Nat} {l : List (Nat × Value)} (h : lv_has sl.toArray n l) : lvH sl.toArray (loOf sl) := by
  refine ⟨by simp [loOf], h.2.1, fun i v hi => ?_⟩
  unfold loOf at hi
  rw [List.getElem?_map] at hi
  cases hs : sl[i]? with
  | none => rw [hs] at hi; simp at hi
  | some s =>
    rw [hs] at hi
    cases s with
    | val w =>
      simp [slO] at hi
      subst hi
      simpa using hs
    | _ => simp [slO] at hi
def inval (lo : List (Option Value)) (i : Nat) : List (Option Value) := match i with
  | 0 => lo
  | j + 1 => match lo[j]? with
    | some (some v) => if v.category = 2 then lo.set j none else lo
    | _ => lo
def setL (lo : List (Option Value)) (i : Nat) (v : Value) : List (Option Value) := (inval lo i).set i (some v)
def setL2 (lo : List (Option Value)) (i : Nat) (v : Value) : List (Option Value) := ((inval lo i).set i (some v)).set (i + 1) none
theorem inval_len (lo : List (Option Value)) (i : Nat) : (inval lo i).length = lo.length := by
  unfold inval
  cases i with
  | zero => rfl
  | succ j =>
    dsimp only
    split
    · split <;> simp
    · rfl
theorem inval_get {lo : List (Option Value)} {i j : Nat} {w : Value} (h : (inval lo i)[j]? = some (some w)) : lo[j]? = some (some w) ∧ ¬ (j + 1 = i ∧ w.category = 2) := by
  unfold inval at h
  cases i with
  | zero => exact ⟨h, by omega⟩
  | succ i =>
    dsimp only at h
    cases hl : lo[i]? with
    | none =>
      rw [hl] at h
      refine ⟨h, fun q => ?_⟩
      have : j = i := by omega
      subst this
      rw [hl] at h; cases h
    | some o =>
      rw [hl] at h
      cases o with
      | none =>
        refine ⟨h, fun q => ?_⟩
        have : j = i := by omega
        subst this
        dsimp only at h
        rw [hl] at h; cases h
      | some v =>
        dsimp only at h
        by_cases hv : v.category = 2
        · rw [if_pos hv] at h
          by_cases hj : j = i
          · subst hj
            have hlt : j < lo.length := (List.getElem?_eq_some_iff.mp hl).1
            rw [List.getElem?_set_self hlt] at h
            cases h
          · rw [List.getElem?_set_ne (Ne.symm hj)] at h
            exact ⟨h, fun q => hj (by omega)⟩
        · rw [if_neg hv] at h
          refine ⟨h, fun q => ?_⟩
          have : j = i := by omega
          subst this
          rw [hl] at h
          cases h
          exact hv q.2
theorem setL_len (lo : List (Option Value)) (i : Nat) (v : Value) : (setL lo i v).length = lo.length := by unfold setL; rw [List.length_set, inval_len]
theorem setL2_len (lo : List (Option Value)) (i : Nat) (v : Value) : (setL2 lo i v).length = lo.length := by unfold setL2; rw [List.length_set, List.length_set, inval_len]
theorem setL_sub {lo : List (Option Value)} {i : Nat} {v : Value} {la : Array Slot} (hi : i < lo.length) (h : lv_has la lo.length ((i, v) :: (prs lo).filter (fun q => !(q.1 == i) && !(q.1 + 1 == i && q.2.category == 2)))) : lvH la (setL lo i v) := by
  refine lvH.of h (setL_len lo i v) fun j w hj => ?_
  unfold setL at hj
  by_cases hji : j = i
  · subst hji
    rw [List.getElem?_set_self (by rw [inval_len]; exact hi)] at hj
    cases hj
    exact List.mem_cons_self
  · rw [List.getElem?_set_ne (Ne.symm hji)] at hj
    obtain ⟨h1, h2⟩ := inval_get hj
    refine List.mem_cons_of_mem _ (List.mem_filter.mpr ⟨prs_mem.mpr h1, ?_⟩)
    simp only [Bool.and_eq_true, Bool.not_eq_true', beq_eq_false_iff_ne, ne_eq, Bool.and_eq_false_iff]
    refine ⟨hji, ?_⟩
    by_cases a : j + 1 = i
    · exact Or.inr fun b => h2 ⟨a, b⟩
    · exact Or.inl a
theorem setL2_sub {lo : List (Option Value)} {i : Nat} {v : Value} {la : Array Slot} (hi : i + 1 < lo.length) (h : lv_has la lo.length ((i, v) :: (prs lo).filter (fun q => !(q.1 == i) && (!(q.1 == i + 1) && !(q.1 + 1 == i && q.2.category == 2))))) : lvH la (setL2 lo i v) := by
  refine lvH.of h (setL2_len lo i v) fun j w hj => ?_
  unfold setL2 at hj
  by_cases hj1 : j = i + 1
  · subst hj1
    rw [List.getElem?_set_self (by rw [List.length_set, inval_len]; exact hi)] at hj
    cases hj
  · rw [List.getElem?_set_ne (Ne.symm hj1)] at hj
    by_cases hji : j = i
    · subst hji
      rw [List.getElem?_set_self (by rw [inval_len]; omega)] at hj
      cases hj
      exact List.mem_cons_self
    · rw [List.getElem?_set_ne (Ne.symm hji)] at hj
      obtain ⟨h1, h2⟩ := inval_get hj
      refine List.mem_cons_of_mem _ (List.mem_filter.mpr ⟨prs_mem.mpr h1, ?_⟩)
      simp only [Bool.and_eq_true, Bool.not_eq_true', beq_eq_false_iff_ne, ne_eq, Bool.and_eq_false_iff]
      refine ⟨hji, hj1, ?_⟩
      by_cases a : j + 1 = i
      · exact Or.inr fun b => h2 ⟨a, b⟩
      · exact Or.inl a
/-- fewer known locals -/
def mskL (lo : List (Option Value)) (bs : List Bool) : List (Option Value) := (lo.zip bs).map (fun q => if q.2 then q.1 else none)
theorem lvH.msk {la : Array Slot} {lo : List (Option Value)} (h : lvH la lo) (bs : List Bool) (hb : bs.length = lo.length) : lvH la (mskL lo bs) := by
  refine ⟨by unfold mskL; simp [hb]; exact h.1, h.2.1, fun i v hi => h.2.2 i v ?_⟩
  unfold mskL at hi
  rw [List.getElem?_map] at hi
  cases hz : (lo.zip bs)[i]? with
  | none => rw [hz] at hi; cases hi
  | some q =>
    rw [hz] at hi
    have h1 := (List.getElem?_zip_eq_some.mp hz).1
    simp only [Option.map_some, Option.some.injEq] at hi
    split at hi
    · rw [h1, hi]
    · cases hi
/-- the judgement: from this place, with this world, the method comes to its end -/
def VW (k : KT) (z : ZT) (n n' : Nat) (ws : va_W) (pc : Nat) (lo : List (Option Value)) (st : List Value) : Prop :=
  ∀ (H : Heap) (L : List Loc) (la : Array Slot), va_P k.D clS ws H → va_D (kA k) ws → va_S (kA k) (zS z).heap H L → lvH la lo → ZW k z H L n n' (F0 (zM z) pc la st)
/-- a text constant: entry idx of class own is the text tx, at sK i, its bytes at sV i -/
abbrev ST : Type := String × Nat × String × List Int32
def strOk (k : KT) (i : Nat) (q : ST) (U : State) (H : Heap) : Prop := vk_R q.1 q.2.1 q.2.2.1 (k.sK i) U ∧ va_O "java/lang/String" (k.sK i) (kA k) U H ∧ va_OF "java/lang/String" "coder" "B" (.int 0) (k.sK i) (kA k) U H ∧ va_OF "java/lang/String" "value" "[B" (.ref (k.sV i)) (k.sK i) (kA k) U H ∧ va_T .byte (k.sV i) q.2.2.2.length (fun j => .int (q.2.2.2.getD j 0)) (kA k) U H
theorem strOk.call {k : KT} {i : Nat} {q : ST} {s U : State} {H H1 : Heap} (h : strOk k i q s H) (hW : s.WarmedH U.vm) (hk : ∀ a : Nat, a < H.size → ¬ kA k a → H1[a]? = H[a]?) : strOk k i q U H1 :=
  ⟨h.1.warm hW, (h.2.1.moved hW.alike).kept hk, (h.2.2.1.moved hW.alike).kept hk, (h.2.2.2.1.moved hW.alike).kept hk, (h.2.2.2.2.moved hW.alike).kept hk⟩
theorem strOk.same {k : KT} {i : Nat} {q : ST} {s U : State} {H : Heap} (h : strOk k i q s H) (hv : U.vm = s.vm) : strOk k i q U H := by
  have ha : s.vm.Alike U.vm := by rw [hv]; exact Vm.Alike.refl _
  exact ⟨vk_R.same hv h.1, h.2.1.moved ha, h.2.2.1.moved ha, h.2.2.2.1.moved ha, h.2.2.2.2.moved ha⟩
/-- what never moves: the tables, the strings, what a throw reads -/
def exN (e : Nat) : String := match e with
  | 0 => "java/lang/IllegalStateException"
  | 1 => "java/lang/IllegalArgumentException"
  | 2 => "java/lang/IndexOutOfBoundsException"
  | _ => "java/util/NoSuchElementException"
def SF (k : KT) (strs : List ST) (U : State) (H : Heap) : Prop :=
  va_K k.D clS (tysOf k) U ∧ (∀ (i : Nat) (q : ST), strs[i]? = some q → strOk k i q U H) ∧ vx_Zq Bundle.tN "UNASSIGNED_STACK" Bundle.steD (kA k) U H ∧ vx_Zq Bundle.tN "SUPPRESSED_SENTINEL" Bundle.listD (kA k) U H ∧
  (∀ (own : String) (i : Nat) (y : MethodName) (h : String), .methodLinkNest own i y h ∈ lw_tbl → va_Nw (.methodLinkNest own i y h) U) ∧ (∀ C T : String, .castable C T ∈ lw_tbl → va_Nw (.castable C T) U) ∧ (∀ y : MethodName, .declares y ∈ lw_tbl → va_Nw (.declares y) U) ∧ (∀ a b : Nat, a < 4 → b < 4 → a ≠ b → va_Nc (exN a) (exN b) U) ∧ k.l.stackTraces = false
theorem SF.call {k : KT} {strs : List ST} {s U : State} {H H1 : Heap} (h : SF k strs s H) (hW : s.WarmedH U.vm) (hk : ∀ a : Nat, a < H.size → ¬ kA k a → H1[a]? = H[a]?) : SF k strs U H1 :=
  ⟨va_K.moved hW.alike h.1, fun i q hq => (h.2.1 i q hq).call hW hk, (h.2.2.1.moved hW.alike).kept hk, (h.2.2.2.1.moved hW.alike).kept hk, fun o i y g m => (h.2.2.2.2.1 o i y g m).warmM hW, fun C T m => (h.2.2.2.2.2.1 C T m).warmC hW, fun y m => (h.2.2.2.2.2.2.1 y m).warmD hW, fun a b ha hb n => (h.2.2.2.2.2.2.2.1 a b ha hb n).moved hW.alike, h.2.2.2.2.2.2.2.2⟩
theorem SF.same {k : KT} {strs : List ST} {s U : State} {H : Heap} (h : SF k strs s H) (hv : U.vm = s.vm) : SF k strs U H := by
  have ha : s.vm.Alike U.vm := by rw [hv]; exact Vm.Alike.refl _
  exact ⟨va_K.moved ha h.1, fun i q hq => (h.2.1 i q hq).same hv, h.2.2.1.moved ha, h.2.2.2.1.moved ha, fun o i y g m => (h.2.2.2.2.1 o i y g m).same rfl hv.symm, fun C T m => (h.2.2.2.2.2.1 C T m).same rfl hv.symm, fun y m => (h.2.2.2.2.2.2.1 y m).same rfl hv.symm, fun a b hx hb n => (h.2.2.2.2.2.2.2.1 a b hx hb n).moved ha, h.2.2.2.2.2.2.2.2⟩
/-- where a method stands -/
def XX (k : KT) (strs : List ST) (z : ZT) (own : String) (cc : ByteArray) (nL : Nat) (ret : Option FieldType) (R0 : Room) : Prop :=
  (zP z).tables.exec = Jvm.exec ∧ (zC z).code = cc ∧ (zC z).maxLocals = nL ∧ (zH z).sig.returnType = ret ∧ zR z = R0 ∧ (zH z).locks = false ∧ (zS z).vm.findClass own = some (zM z).cls ∧ (∀ w ∈ bigw, w.before (zA z) (zS z) = true) ∧ SF k strs (zS z) (zS z).heap ∧ k.b ≤ (zS z).heap.size
def PW (k : KT) (strs : List ST) (ws : va_W) (U : State) : Prop := va_P k.D clS ws U.heap ∧ va_D (kA k) ws ∧ SF k strs U U.heap ∧ k.b ≤ U.heap.size
def Qof (k : KT) (o : Option Value) (ws : va_W) : Array Value → State → Outcome → State → Prop := fun _ st oc t => oc = .returned o ∧ va_P k.D clS ws t.heap ∧ va_D (kA k) ws ∧ va_F (kA k) st t
/-- THE CONTRACT of a method that returns o, from the world ws to the world ws' -/
def CT (k : KT) (strs : List ST) (y : MethodName) (cc : ByteArray) (nL : Nat) (ret : Option FieldType) (R0 : Room) (mc ms : Nat) (args : List Value) (ws : va_W) (o : Option Value) (ws' : va_W) : Prop :=
  Met k.l y (.code y cc nL ret :: bigw) R0 (va_Pc args (PW k strs ws)) (Qof k o ws') mc ms (kA k)
theorem PW.blind {k : KT} {strs : List ST} {ws : va_W} {args : List Value} : FrameBlind (va_Pc args (PW k strs ws)) := by
  intro a U g mk h
  obtain ⟨h1, h2, h3, h4, h5⟩ := h
  exact ⟨h1, h2, h3, h4.same rfl, h5⟩
theorem CT.of {k : KT} {strs : List ST} {y : MethodName} {cc : ByteArray} {nL : Nat} {ret : Option FieldType} {R0 : Room} {mc ms : Nat} {args : List Value} {ws ws' : va_W} {o : Option Value} (hy : plainName y.cls = true) (hn : (lg_sl args).length ≤ nL)
    (body : ∀ z : ZT, XX k strs z y.cls cc nL ret R0 → zQ z = MQ (zB z) (Qof k o ws') (zA z) (zS z) mc ms (kA k) → VW k z 0 0 ws 0 (loOf (lg_sl args ++ List.replicate (nL - (lg_sl args).length) Slot.unset)) []) : CT k strs y cc nL ret R0 mc ms args ws o ws' := by
  refine Met.ofW (cc := cc) (maxL := nL) (ret := ret) hy rfl ?_
  intro p e s m as below meth c s₁ B hml hv
  obtain ⟨rfl, hP, hD, hF, hb0⟩ := hv
  have hts : ∀ w ∈ bigw, w.before args.toArray s = true := fun w hw => atoms_spec (ws := .code y cc nL ret :: bigw) B.pre w (List.mem_cons_of_mem _ hw)
  have K := body (p, e, R0, s, m, args.toArray, below, meth, c, MQ below (Qof k o ws') args.toArray s mc ms (kA k)) ⟨B.exec, B.bytes, hml, B.returns, rfl, B.notSynchronized, findClass_of_methodNamed B.named, hts, hF, hb0⟩ rfl
  rw [lg_entry_eq]
  exact K s.heap [] _ hP hD va_S.rf (lvH.of_args (lv_entry args hn))
section ROWS
variable {k : KT} {strs : List ST} {z : ZT} {own : String} {cc : ByteArray} {nL : Nat} {ret : Option FieldType} {R0 : Room} {n n' pc pc' : Nat} {ws : va_W} {lo : List (Option Value)} {st : List Value}
abbrev DEC (cc : ByteArray) (pc len pc' : Nat) (i : Instr) : Prop := decode cc pc = .ok (i, len) ∧ pc' = pc + len
theorem XX.A (X : XX k strs z own cc nL ret R0) : ∀ q, (zS z).heap.size ≤ q → kA k q := fun _ h => Nat.le_trans X.2.2.2.2.2.2.2.2.2 h
theorem XX.ml (X : XX k strs z own cc nL ret R0) : (zC z).maxLocals = nL := X.2.2.1
theorem XX.own1 (X : XX k strs z own cc nL ret R0) : (zS z).vm.findClass own = some (zM z).cls := X.2.2.2.2.2.2.1
theorem XX.ts (X : XX k strs z own cc nL ret R0) : ∀ w ∈ bigw, w.before (zA z) (zS z) = true := X.2.2.2.2.2.2.2.1
theorem XX.F (X : XX k strs z own cc nL ret R0) : SF k strs (zS z) (zS z).heap := X.2.2.2.2.2.2.2.2.1
theorem XX.K (X : XX k strs z own cc nL ret R0) : va_K k.D clS (tysOf k) (zS z) := X.F.1
theorem XX.R (X : XX k strs z own cc nL ret R0) : zR z = R0 := X.2.2.2.2.1
theorem XX.ret1 (X : XX k strs z own cc nL ret R0) : (zH z).sig.returnType = ret := X.2.2.2.1
theorem XX.locks (X : XX k strs z own cc nL ret R0) : (zH z).locks = false := X.2.2.2.2.2.1
theorem VW.msk (bs : List Bool) (hb : bs.length = lo.length) {lo' : List (Option Value)} (h : mskL lo bs = lo') (kk : VW k z n n' ws pc lo' st) : VW k z n n' ws pc lo st := by
  subst h
  exact fun H L la hP hD hS hl => kk H L la hP hD hS (hl.msk bs hb)
theorem VW.widen {c s : Nat} (h1 : n ≤ c) (h2 : n' ≤ s) (kk : VW k z c s ws pc lo st) : VW k z n n' ws pc lo st := fun H L la hP hD hS hl => W.widen h1 h2 (kk H L la hP hD hS hl)
theorem r_iconst (X : XX k strs z own cc nL ret R0) {i : Int} {v : Int32} (d : DEC cc pc 1 pc' (.iconst i)) (hv : Int32.ofInt i = v) (kk : VW k z n n' ws pc' lo (.int v :: st)) : VW k z n n' ws pc lo (st) := by
  obtain ⟨d, rfl⟩ := d
  exact fun H L la hP hD hS hl => lv_iconst X.1 X.2.1 d hv (kk H L la hP hD hS hl)
theorem r_bipush (X : XX k strs z own cc nL ret R0) {i : Int} {v : Int32} (d : DEC cc pc 2 pc' (.bipush i)) (hv : (Int8.ofInt i).toInt32 = v) (kk : VW k z n n' ws pc' lo (.int v :: st)) : VW k z n n' ws pc lo (st) := by
  obtain ⟨d, rfl⟩ := d
  exact fun H L la hP hD hS hl => lv_bipush X.1 X.2.1 d hv (kk H L la hP hD hS hl)
theorem r_sipush (X : XX k strs z own cc nL ret R0) {i : Int} {v : Int32} (d : DEC cc pc 3 pc' (.sipush i)) (hv : (Int16.ofInt i).toInt32 = v) (kk : VW k z n n' ws pc' lo (.int v :: st)) : VW k z n n' ws pc lo (st) := by
  obtain ⟨d, rfl⟩ := d
  exact fun H L la hP hD hS hl => lv_sipush X.1 X.2.1 d hv (kk H L la hP hD hS hl)
theorem r_lconst (X : XX k strs z own cc nL ret R0) {i : Fin 2} {v : Int64} (d : DEC cc pc 1 pc' (.lconst i)) (hv : Int64.ofNat (i : Nat) = v) (kk : VW k z n n' ws pc' lo (.long v :: st)) : VW k z n n' ws pc lo (st) := by
  obtain ⟨d, rfl⟩ := d
  exact fun H L la hP hD hS hl => lv_lconst X.1 X.2.1 d hv (kk H L la hP hD hS hl)
theorem r_dconst0 (X : XX k strs z own cc nL ret R0)  (d : DEC cc pc 1 pc' (.dconst 0))  (kk : VW k z n n' ws pc' lo (.double FP.dconst0 :: st)) : VW k z n n' ws pc lo (st) := by
  obtain ⟨d, rfl⟩ := d
  exact fun H L la hP hD hS hl => lv_dconst0 X.1 X.2.1 d  (kk H L la hP hD hS hl)
theorem r_iload_n (X : XX k strs z own cc nL ret R0) {i : Fin 4} {x : Int32} (d : DEC cc pc 1 pc' (.iload_n i)) (hv : lo[(i : Nat)]? = some (some (.int x))) (kk : VW k z n n' ws pc' lo (.int x :: st)) : VW k z n n' ws pc lo (st) := by
  obtain ⟨d, rfl⟩ := d
  exact fun H L la hP hD hS hl => lv_iload_n X.1 X.2.1 d rfl (hl.at hv) (kk H L la hP hD hS hl)
theorem r_iload (X : XX k strs z own cc nL ret R0) {i : Nat} {x : Int32} (d : DEC cc pc 2 pc' (.iload i)) (hv : lo[i]? = some (some (.int x))) (kk : VW k z n n' ws pc' lo (.int x :: st)) : VW k z n n' ws pc lo (st) := by
  obtain ⟨d, rfl⟩ := d
  exact fun H L la hP hD hS hl => lv_iload X.1 X.2.1 d (hl.at hv) (kk H L la hP hD hS hl)
theorem r_lload_n (X : XX k strs z own cc nL ret R0) {i : Fin 4} {x : Int64} (d : DEC cc pc 1 pc' (.lload_n i)) (hv : lo[(i : Nat)]? = some (some (.long x))) (kk : VW k z n n' ws pc' lo (.long x :: st)) : VW k z n n' ws pc lo (st) := by
  obtain ⟨d, rfl⟩ := d
  exact fun H L la hP hD hS hl => lv_lload_n X.1 X.2.1 d rfl (hl.at hv) (kk H L la hP hD hS hl)
theorem r_lload (X : XX k strs z own cc nL ret R0) {i : Nat} {x : Int64} (d : DEC cc pc 2 pc' (.lload i)) (hv : lo[i]? = some (some (.long x))) (kk : VW k z n n' ws pc' lo (.long x :: st)) : VW k z n n' ws pc lo (st) := by
  obtain ⟨d, rfl⟩ := d
  exact fun H L la hP hD hS hl => lv_lload X.1 X.2.1 d (hl.at hv) (kk H L la hP hD hS hl)
theorem r_aload_n (X : XX k strs z own cc nL ret R0) {i : Fin 4} {x : Nat} (d : DEC cc pc 1 pc' (.aload_n i)) (hv : lo[(i : Nat)]? = some (some (.ref x))) (kk : VW k z n n' ws pc' lo (.ref x :: st)) : VW k z n n' ws pc lo (st) := by
  obtain ⟨d, rfl⟩ := d
  exact fun H L la hP hD hS hl => lv_aload_n X.1 X.2.1 d rfl (hl.at hv) (kk H L la hP hD hS hl)
theorem r_aload (X : XX k strs z own cc nL ret R0) {i : Nat} {x : Nat} (d : DEC cc pc 2 pc' (.aload i)) (hv : lo[i]? = some (some (.ref x))) (kk : VW k z n n' ws pc' lo (.ref x :: st)) : VW k z n n' ws pc lo (st) := by
  obtain ⟨d, rfl⟩ := d
  exact fun H L la hP hD hS hl => lv_aload X.1 X.2.1 d (hl.at hv) (kk H L la hP hD hS hl)
theorem r_dload_n (X : XX k strs z own cc nL ret R0) {i : Fin 4} {x : UInt64} (d : DEC cc pc 1 pc' (.dload_n i)) (hv : lo[(i : Nat)]? = some (some (.double x))) (kk : VW k z n n' ws pc' lo (.double x :: st)) : VW k z n n' ws pc lo (st) := by
  obtain ⟨d, rfl⟩ := d
  exact fun H L la hP hD hS hl => lv_dload_n X.1 X.2.1 d rfl (hl.at hv) (kk H L la hP hD hS hl)
theorem r_dload (X : XX k strs z own cc nL ret R0) {i : Nat} {x : UInt64} (d : DEC cc pc 2 pc' (.dload i)) (hv : lo[i]? = some (some (.double x))) (kk : VW k z n n' ws pc' lo (.double x :: st)) : VW k z n n' ws pc lo (st) := by
  obtain ⟨d, rfl⟩ := d
  exact fun H L la hP hD hS hl => lv_dload X.1 X.2.1 d (hl.at hv) (kk H L la hP hD hS hl)
theorem r_istore_n (X : XX k strs z own cc nL ret R0) {i : Fin 4} {x : Int32} (lo' : List (Option Value)) (d : DEC cc pc 1 pc' (.istore_n i)) (hi : (i : Nat) < lo.length) (hlo : setL lo (i : Nat) (.int x) = lo') (kk : VW k z n n' ws pc' lo' st) : VW k z n n' ws pc lo (.int x :: st) := by
  obtain ⟨d, rfl⟩ := d
  subst hlo
  exact fun H L la hP hD hS hl => lv_istore_n X.1 X.2.1 d rfl hl.has hi rfl fun la' h => kk H L la' hP hD hS (setL_sub hi h)
theorem r_istore (X : XX k strs z own cc nL ret R0) {i : Nat} {x : Int32} (lo' : List (Option Value)) (d : DEC cc pc 2 pc' (.istore i)) (hi : i < lo.length) (hlo : setL lo i (.int x) = lo') (kk : VW k z n n' ws pc' lo' st) : VW k z n n' ws pc lo (.int x :: st) := by
  obtain ⟨d, rfl⟩ := d
  subst hlo
  exact fun H L la hP hD hS hl => lv_istore X.1 X.2.1 d hl.has hi rfl fun la' h => kk H L la' hP hD hS (setL_sub hi h)
theorem r_astore_n (X : XX k strs z own cc nL ret R0) {i : Fin 4} {x : Nat} (lo' : List (Option Value)) (d : DEC cc pc 1 pc' (.astore_n i)) (hi : (i : Nat) < lo.length) (hlo : setL lo (i : Nat) (.ref x) = lo') (kk : VW k z n n' ws pc' lo' st) : VW k z n n' ws pc lo (.ref x :: st) := by
  obtain ⟨d, rfl⟩ := d
  subst hlo
  exact fun H L la hP hD hS hl => lv_astore_n X.1 X.2.1 d rfl hl.has hi rfl fun la' h => kk H L la' hP hD hS (setL_sub hi h)
theorem r_astore (X : XX k strs z own cc nL ret R0) {i : Nat} {x : Nat} (lo' : List (Option Value)) (d : DEC cc pc 2 pc' (.astore i)) (hi : i < lo.length) (hlo : setL lo i (.ref x) = lo') (kk : VW k z n n' ws pc' lo' st) : VW k z n n' ws pc lo (.ref x :: st) := by
  obtain ⟨d, rfl⟩ := d
  subst hlo
  exact fun H L la hP hD hS hl => lv_astore X.1 X.2.1 d hl.has hi rfl fun la' h => kk H L la' hP hD hS (setL_sub hi h)
theorem r_lstore_n (X : XX k strs z own cc nL ret R0) {i : Fin 4} {x : Int64} (lo' : List (Option Value)) (d : DEC cc pc 1 pc' (.lstore_n i)) (hi : (i : Nat) + 1 < lo.length) (hlo : setL2 lo (i : Nat) (.long x) = lo') (kk : VW k z n n' ws pc' lo' st) : VW k z n n' ws pc lo (.long x :: st) := by
  obtain ⟨d, rfl⟩ := d
  subst hlo
  exact fun H L la hP hD hS hl => lv_lstore_n X.1 X.2.1 d rfl hl.has hi rfl fun la' h => kk H L la' hP hD hS (setL2_sub hi h)
theorem r_lstore (X : XX k strs z own cc nL ret R0) {i : Nat} {x : Int64} (lo' : List (Option Value)) (d : DEC cc pc 2 pc' (.lstore i)) (hi : i + 1 < lo.length) (hlo : setL2 lo i (.long x) = lo') (kk : VW k z n n' ws pc' lo' st) : VW k z n n' ws pc lo (.long x :: st) := by
  obtain ⟨d, rfl⟩ := d
  subst hlo
  exact fun H L la hP hD hS hl => lv_lstore X.1 X.2.1 d hl.has hi rfl fun la' h => kk H L la' hP hD hS (setL2_sub hi h)
theorem r_dstore_n (X : XX k strs z own cc nL ret R0) {i : Fin 4} {x : UInt64} (lo' : List (Option Value)) (d : DEC cc pc 1 pc' (.dstore_n i)) (hi : (i : Nat) + 1 < lo.length) (hlo : setL2 lo (i : Nat) (.double x) = lo') (kk : VW k z n n' ws pc' lo' st) : VW k z n n' ws pc lo (.double x :: st) := by
  obtain ⟨d, rfl⟩ := d
  subst hlo
  exact fun H L la hP hD hS hl => lv_dstore_n X.1 X.2.1 d rfl hl.has hi rfl fun la' h => kk H L la' hP hD hS (setL2_sub hi h)
theorem r_dstore (X : XX k strs z own cc nL ret R0) {i : Nat} {x : UInt64} (lo' : List (Option Value)) (d : DEC cc pc 2 pc' (.dstore i)) (hi : i + 1 < lo.length) (hlo : setL2 lo i (.double x) = lo') (kk : VW k z n n' ws pc' lo' st) : VW k z n n' ws pc lo (.double x :: st) := by
  obtain ⟨d, rfl⟩ := d
  subst hlo
  exact fun H L la hP hD hS hl => lv_dstore X.1 X.2.1 d hl.has hi rfl fun la' h => kk H L la' hP hD hS (setL2_sub hi h)
theorem r_iinc (X : XX k strs z own cc nL ret R0) {i : Nat} {c : Int} {x v : Int32} (lo' : List (Option Value)) (d : DEC cc pc 3 pc' (.iinc i c)) (hx : lo[i]? = some (some (.int x))) (hv : x + Int32.ofInt c = v) (hlo : setL lo i (.int v) = lo') (kk : VW k z n n' ws pc' lo' st) : VW k z n n' ws pc lo st := by
  obtain ⟨d, rfl⟩ := d
  subst hlo
  have hi : i < lo.length := (List.getElem?_eq_some_iff.mp hx).1
  obtain ⟨j, hj⟩ := List.getElem?_of_mem (prs_mem.mpr hx)
  exact fun H L la hP hD hS hl => lv_iinc X.1 X.2.1 d hl.has hj hv hi rfl fun la' h => kk H L la' hP hD hS (setL_sub hi h)
theorem r_iadd (X : XX k strs z own cc nL ret R0) {x y : Int32} (d : DEC cc pc 1 pc' (.iadd))  (kk : VW k z n n' ws pc' lo (.int (x + y) :: st)) : VW k z n n' ws pc lo (.int y :: .int x :: st) := by
  obtain ⟨d, rfl⟩ := d
  exact fun H L la hP hD hS hl => lv_iadd X.1 X.2.1 d  (kk H L la hP hD hS hl)
theorem r_isub (X : XX k strs z own cc nL ret R0) {x y : Int32} (d : DEC cc pc 1 pc' (.isub))  (kk : VW k z n n' ws pc' lo (.int (x - y) :: st)) : VW k z n n' ws pc lo (.int y :: .int x :: st) := by
  obtain ⟨d, rfl⟩ := d
  exact fun H L la hP hD hS hl => lv_isub X.1 X.2.1 d  (kk H L la hP hD hS hl)
theorem r_imul (X : XX k strs z own cc nL ret R0) {x y : Int32} (d : DEC cc pc 1 pc' (.imul))  (kk : VW k z n n' ws pc' lo (.int (x * y) :: st)) : VW k z n n' ws pc lo (.int y :: .int x :: st) := by
  obtain ⟨d, rfl⟩ := d
  exact fun H L la hP hD hS hl => lv_imul X.1 X.2.1 d  (kk H L la hP hD hS hl)
theorem r_iand (X : XX k strs z own cc nL ret R0) {x y : Int32} (d : DEC cc pc 1 pc' (.iand))  (kk : VW k z n n' ws pc' lo (.int (x &&& y) :: st)) : VW k z n n' ws pc lo (.int y :: .int x :: st) := by
  obtain ⟨d, rfl⟩ := d
  exact fun H L la hP hD hS hl => lv_iand X.1 X.2.1 d  (kk H L la hP hD hS hl)
theorem r_ior (X : XX k strs z own cc nL ret R0) {x y : Int32} (d : DEC cc pc 1 pc' (.ior))  (kk : VW k z n n' ws pc' lo (.int (x ||| y) :: st)) : VW k z n n' ws pc lo (.int y :: .int x :: st) := by
  obtain ⟨d, rfl⟩ := d
  exact fun H L la hP hD hS hl => lv_ior X.1 X.2.1 d  (kk H L la hP hD hS hl)
theorem r_ixor (X : XX k strs z own cc nL ret R0) {x y : Int32} (d : DEC cc pc 1 pc' (.ixor))  (kk : VW k z n n' ws pc' lo (.int (x ^^^ y) :: st)) : VW k z n n' ws pc lo (.int y :: .int x :: st) := by
  obtain ⟨d, rfl⟩ := d
  exact fun H L la hP hD hS hl => lv_ixor X.1 X.2.1 d  (kk H L la hP hD hS hl)
theorem r_ladd (X : XX k strs z own cc nL ret R0) {x y : Int64} (d : DEC cc pc 1 pc' (.ladd))  (kk : VW k z n n' ws pc' lo (.long (x + y) :: st)) : VW k z n n' ws pc lo (.long y :: .long x :: st) := by
  obtain ⟨d, rfl⟩ := d
  exact fun H L la hP hD hS hl => lv_ladd X.1 X.2.1 d  (kk H L la hP hD hS hl)
theorem r_lsub (X : XX k strs z own cc nL ret R0) {x y : Int64} (d : DEC cc pc 1 pc' (.lsub))  (kk : VW k z n n' ws pc' lo (.long (x - y) :: st)) : VW k z n n' ws pc lo (.long y :: .long x :: st) := by
  obtain ⟨d, rfl⟩ := d
  exact fun H L la hP hD hS hl => lv_lsub X.1 X.2.1 d  (kk H L la hP hD hS hl)
theorem r_lmul (X : XX k strs z own cc nL ret R0) {x y : Int64} (d : DEC cc pc 1 pc' (.lmul))  (kk : VW k z n n' ws pc' lo (.long (x * y) :: st)) : VW k z n n' ws pc lo (.long y :: .long x :: st) := by
  obtain ⟨d, rfl⟩ := d
  exact fun H L la hP hD hS hl => lv_lmul X.1 X.2.1 d  (kk H L la hP hD hS hl)
theorem r_lneg (X : XX k strs z own cc nL ret R0) {x : Int64} (d : DEC cc pc 1 pc' (.lneg))  (kk : VW k z n n' ws pc' lo (.long (-x) :: st)) : VW k z n n' ws pc lo (.long x :: st) := by
  obtain ⟨d, rfl⟩ := d
  exact fun H L la hP hD hS hl => lv_lneg X.1 X.2.1 d  (kk H L la hP hD hS hl)
theorem r_ineg (X : XX k strs z own cc nL ret R0) {x : Int32} (d : DEC cc pc 1 pc' (.ineg))  (kk : VW k z n n' ws pc' lo (.int (-x) :: st)) : VW k z n n' ws pc lo (.int x :: st) := by
  obtain ⟨d, rfl⟩ := d
  exact fun H L la hP hD hS hl => lv_ineg X.1 X.2.1 d  (kk H L la hP hD hS hl)
theorem r_idiv (X : XX k strs z own cc nL ret R0) {x y : Int32} (d : DEC cc pc 1 pc' (.idiv)) (h : (y != 0) = true) (kk : VW k z n n' ws pc' lo (.int (x / y) :: st)) : VW k z n n' ws pc lo (.int y :: .int x :: st) := by
  obtain ⟨d, rfl⟩ := d
  exact fun H L la hP hD hS hl => lv_idiv X.1 X.2.1 d (bne_iff_ne.mp h) (kk H L la hP hD hS hl)
theorem r_irem (X : XX k strs z own cc nL ret R0) {x y : Int32} (d : DEC cc pc 1 pc' (.irem)) (h : (y != 0) = true) (kk : VW k z n n' ws pc' lo (.int (x - x / y * y) :: st)) : VW k z n n' ws pc lo (.int y :: .int x :: st) := by
  obtain ⟨d, rfl⟩ := d
  exact fun H L la hP hD hS hl => lv_irem X.1 X.2.1 d (bne_iff_ne.mp h) (kk H L la hP hD hS hl)
theorem r_ldiv (X : XX k strs z own cc nL ret R0) {x y : Int64} (d : DEC cc pc 1 pc' (.ldiv)) (h : (y != 0) = true) (kk : VW k z n n' ws pc' lo (.long (x / y) :: st)) : VW k z n n' ws pc lo (.long y :: .long x :: st) := by
  obtain ⟨d, rfl⟩ := d
  exact fun H L la hP hD hS hl => lv_ldiv X.1 X.2.1 d (bne_iff_ne.mp h) (kk H L la hP hD hS hl)
theorem r_lrem (X : XX k strs z own cc nL ret R0) {x y : Int64} (d : DEC cc pc 1 pc' (.lrem)) (h : (y != 0) = true) (kk : VW k z n n' ws pc' lo (.long (x - x / y * y) :: st)) : VW k z n n' ws pc lo (.long y :: .long x :: st) := by
  obtain ⟨d, rfl⟩ := d
  exact fun H L la hP hD hS hl => lv_lrem X.1 X.2.1 d (bne_iff_ne.mp h) (kk H L la hP hD hS hl)
theorem r_ishl (X : XX k strs z own cc nL ret R0) {x y : Int32} (d : DEC cc pc 1 pc' (.ishl))  (kk : VW k z n n' ws pc' lo (.int (x <<< (y &&& 31)) :: st)) : VW k z n n' ws pc lo (.int y :: .int x :: st) := by
  obtain ⟨d, rfl⟩ := d
  exact fun H L la hP hD hS hl => lv_ishl X.1 X.2.1 d  (kk H L la hP hD hS hl)
theorem r_ishr (X : XX k strs z own cc nL ret R0) {x y : Int32} (d : DEC cc pc 1 pc' (.ishr))  (kk : VW k z n n' ws pc' lo (.int (x >>> (y &&& 31)) :: st)) : VW k z n n' ws pc lo (.int y :: .int x :: st) := by
  obtain ⟨d, rfl⟩ := d
  exact fun H L la hP hD hS hl => lv_ishr X.1 X.2.1 d  (kk H L la hP hD hS hl)
def iushrF (x y : Int32) : Int32 := (x.toUInt32 >>> (y.toUInt32 &&& Int32.toUInt32 31)).toInt32
theorem r_iushr (X : XX k strs z own cc nL ret R0) {x y : Int32} (d : DEC cc pc 1 pc' (.iushr))  (kk : VW k z n n' ws pc' lo (.int (iushrF x y) :: st)) : VW k z n n' ws pc lo (.int y :: .int x :: st) := by
  obtain ⟨d, rfl⟩ := d
  exact fun H L la hP hD hS hl => lv_iushr X.1 X.2.1 d rfl (kk H L la hP hD hS hl)
theorem r_lshl (X : XX k strs z own cc nL ret R0) {x : Int64} {y : Int32} (d : DEC cc pc 1 pc' (.lshl))  (kk : VW k z n n' ws pc' lo (.long (x <<< (y.toInt64 &&& 63)) :: st)) : VW k z n n' ws pc lo (.int y :: .long x :: st) := by
  obtain ⟨d, rfl⟩ := d
  exact fun H L la hP hD hS hl => lv_lshl X.1 X.2.1 d rfl (kk H L la hP hD hS hl)
theorem r_i2l (X : XX k strs z own cc nL ret R0) {x : Int32} (d : DEC cc pc 1 pc' (.i2l))  (kk : VW k z n n' ws pc' lo (.long x.toInt64 :: st)) : VW k z n n' ws pc lo (.int x :: st) := by
  obtain ⟨d, rfl⟩ := d
  exact fun H L la hP hD hS hl => lv_i2l X.1 X.2.1 d rfl (kk H L la hP hD hS hl)
theorem r_l2i (X : XX k strs z own cc nL ret R0) {x : Int64} (d : DEC cc pc 1 pc' (.l2i))  (kk : VW k z n n' ws pc' lo (.int x.toInt32 :: st)) : VW k z n n' ws pc lo (.long x :: st) := by
  obtain ⟨d, rfl⟩ := d
  exact fun H L la hP hD hS hl => lv_l2i X.1 X.2.1 d rfl (kk H L la hP hD hS hl)
theorem r_i2b (X : XX k strs z own cc nL ret R0) {x : Int32} (d : DEC cc pc 1 pc' (.i2b))  (kk : VW k z n n' ws pc' lo (.int x.toInt8.toInt32 :: st)) : VW k z n n' ws pc lo (.int x :: st) := by
  obtain ⟨d, rfl⟩ := d
  exact fun H L la hP hD hS hl => lv_i2b X.1 X.2.1 d rfl (kk H L la hP hD hS hl)
theorem r_l2d (X : XX k strs z own cc nL ret R0) {x : Int64} (d : DEC cc pc 1 pc' (.l2d))  (kk : VW k z n n' ws pc' lo (.double (FP.l2d x) :: st)) : VW k z n n' ws pc lo (.long x :: st) := by
  obtain ⟨d, rfl⟩ := d
  exact fun H L la hP hD hS hl => lv_l2d X.1 X.2.1 d  (kk H L la hP hD hS hl)
theorem r_i2d (X : XX k strs z own cc nL ret R0) {x : Int32} (d : DEC cc pc 1 pc' (.i2d))  (kk : VW k z n n' ws pc' lo (.double (FP.i2d x) :: st)) : VW k z n n' ws pc lo (.int x :: st) := by
  obtain ⟨d, rfl⟩ := d
  exact fun H L la hP hD hS hl => lv_i2d X.1 X.2.1 d  (kk H L la hP hD hS hl)
theorem r_ddiv (X : XX k strs z own cc nL ret R0) {x y : UInt64} (d : DEC cc pc 1 pc' (.ddiv)) (h : vf_n64 (FP.ddiv x y)) (kk : VW k z n n' ws pc' lo (.double (FP.ddiv x y) :: st)) : VW k z n n' ws pc lo (.double y :: .double x :: st) := by
  obtain ⟨d, rfl⟩ := d
  exact fun H L la hP hD hS hl => lv_ddiv X.1 X.2.1 d h (kk H L la hP hD hS hl)
theorem r_dcmp (X : XX k strs z own cc nL ret R0) {x y : UInt64} {op : CmpOp} (d : DEC cc pc 1 pc' (.dcmp op))  (kk : VW k z n n' ws pc' lo (.int (Op.cmpValue (FP.dcmp x y) op) :: st)) : VW k z n n' ws pc lo (.double y :: .double x :: st) := by
  obtain ⟨d, rfl⟩ := d
  exact fun H L la hP hD hS hl => lv_dcmp X.1 X.2.1 d  (kk H L la hP hD hS hl)
theorem r_dup (X : XX k strs z own cc nL ret R0) {v : Value} (d : DEC cc pc 1 pc' (.dup)) (h : v.category = 1) (kk : VW k z n n' ws pc' lo (v :: v :: st)) : VW k z n n' ws pc lo (v :: st) := by
  obtain ⟨d, rfl⟩ := d
  exact fun H L la hP hD hS hl => lv_dup X.1 X.2.1 d h (kk H L la hP hD hS hl)
theorem r_pop (X : XX k strs z own cc nL ret R0) {v : Value} (d : DEC cc pc 1 pc' (.pop)) (h : v.category = 1) (kk : VW k z n n' ws pc' lo (st)) : VW k z n n' ws pc lo (v :: st) := by
  obtain ⟨d, rfl⟩ := d
  exact fun H L la hP hD hS hl => lv_pop X.1 X.2.1 d h (kk H L la hP hD hS hl)
theorem r_dup_x1 (X : XX k strs z own cc nL ret R0) {v w : Value} (d : DEC cc pc 1 pc' (.dup_x1)) (h : v.category = 1) (h2 : w.category = 1) (kk : VW k z n n' ws pc' lo (v :: w :: v :: st)) : VW k z n n' ws pc lo (v :: w :: st) := by
  obtain ⟨d, rfl⟩ := d
  exact fun H L la hP hD hS hl => lv_dup_x1 X.1 X.2.1 d h h2 (kk H L la hP hD hS hl)
theorem r_dup2 (X : XX k strs z own cc nL ret R0) {v w : Value} (d : DEC cc pc 1 pc' (.dup2)) (h : v.category = 1) (h2 : w.category = 1) (kk : VW k z n n' ws pc' lo (v :: w :: v :: w :: st)) : VW k z n n' ws pc lo (v :: w :: st) := by
  obtain ⟨d, rfl⟩ := d
  exact fun H L la hP hD hS hl => lv_dup2_11 X.1 X.2.1 d h h2 (kk H L la hP hD hS hl)
theorem r_if_eq (X : XX k strs z own cc nL ret R0) {x : Int32} {off : Int} (tgt : Nat) (d : DEC cc pc 3 pc' (.ifCond .eq off)) (ht : (pc : Int) + off = (tgt : Int)) (kt : x = 0 → VW k z n n' ws tgt lo st) (kf : ¬ (x = 0) → VW k z n n' ws pc' lo st) : VW k z n n' ws pc lo (.int x :: st) := by
  obtain ⟨d, rfl⟩ := d
  exact fun H L la hP hD hS hl => lv_if_eq X.1 X.2.1 d ht (fun h => kt h H L la hP hD hS hl) (fun h => kf h H L la hP hD hS hl)
theorem r_icmp_eq (X : XX k strs z own cc nL ret R0) {x y : Int32} {off : Int} (tgt : Nat) (d : DEC cc pc 3 pc' (.if_icmp .eq off)) (ht : (pc : Int) + off = (tgt : Int)) (kt : x = y → VW k z n n' ws tgt lo st) (kf : ¬ (x = y) → VW k z n n' ws pc' lo st) : VW k z n n' ws pc lo (.int y :: .int x :: st) := by
  obtain ⟨d, rfl⟩ := d
  exact fun H L la hP hD hS hl => lv_icmp_eq X.1 X.2.1 d ht (fun h => kt h H L la hP hD hS hl) (fun h => kf h H L la hP hD hS hl)
theorem r_lcmp_eq (X : XX k strs z own cc nL ret R0) {x y : Int64} {off : Int} {pc1 : Nat} (tgt : Nat) (d1 : DEC cc pc 1 pc1 .lcmp) (d : DEC cc pc1 3 pc' (.ifCond .eq off)) (ht : (pc1 : Int) + off = (tgt : Int)) (kt : x = y → VW k z n n' ws tgt lo st) (kf : ¬ (x = y) → VW k z n n' ws pc' lo st) : VW k z n n' ws pc lo (.long y :: .long x :: st) := by
  obtain ⟨d1, rfl⟩ := d1
  obtain ⟨d, rfl⟩ := d
  exact fun H L la hP hD hS hl => W.lcmp X.1 X.2.1 d1 (lv_if_eq X.1 X.2.1 d ht (fun h => kt ((lg_cmp_eq x y).mp h) H L la hP hD hS hl) (fun h => kf (fun q => h ((lg_cmp_eq x y).mpr q)) H L la hP hD hS hl))
theorem r_if_ne (X : XX k strs z own cc nL ret R0) {x : Int32} {off : Int} (tgt : Nat) (d : DEC cc pc 3 pc' (.ifCond .ne off)) (ht : (pc : Int) + off = (tgt : Int)) (kt : ¬ x = 0 → VW k z n n' ws tgt lo st) (kf : x = 0 → VW k z n n' ws pc' lo st) : VW k z n n' ws pc lo (.int x :: st) := by
  obtain ⟨d, rfl⟩ := d
  exact fun H L la hP hD hS hl => lv_if_ne X.1 X.2.1 d ht (fun h => kt h H L la hP hD hS hl) (fun h => kf h H L la hP hD hS hl)
theorem r_icmp_ne (X : XX k strs z own cc nL ret R0) {x y : Int32} {off : Int} (tgt : Nat) (d : DEC cc pc 3 pc' (.if_icmp .ne off)) (ht : (pc : Int) + off = (tgt : Int)) (kt : ¬ x = y → VW k z n n' ws tgt lo st) (kf : x = y → VW k z n n' ws pc' lo st) : VW k z n n' ws pc lo (.int y :: .int x :: st) := by
  obtain ⟨d, rfl⟩ := d
  exact fun H L la hP hD hS hl => lv_icmp_ne X.1 X.2.1 d ht (fun h => kt h H L la hP hD hS hl) (fun h => kf h H L la hP hD hS hl)
theorem r_lcmp_ne (X : XX k strs z own cc nL ret R0) {x y : Int64} {off : Int} {pc1 : Nat} (tgt : Nat) (d1 : DEC cc pc 1 pc1 .lcmp) (d : DEC cc pc1 3 pc' (.ifCond .ne off)) (ht : (pc1 : Int) + off = (tgt : Int)) (kt : ¬ x = y → VW k z n n' ws tgt lo st) (kf : x = y → VW k z n n' ws pc' lo st) : VW k z n n' ws pc lo (.long y :: .long x :: st) := by
  obtain ⟨d1, rfl⟩ := d1
  obtain ⟨d, rfl⟩ := d
  exact fun H L la hP hD hS hl => W.lcmp X.1 X.2.1 d1 (lv_if_ne X.1 X.2.1 d ht (fun h => kt ((not_congr (lg_cmp_eq x y)).mp h) H L la hP hD hS hl) (fun h => kf ((lg_cmp_eq x y).mp h) H L la hP hD hS hl))
theorem r_if_lt (X : XX k strs z own cc nL ret R0) {x : Int32} {off : Int} (tgt : Nat) (d : DEC cc pc 3 pc' (.ifCond .lt off)) (ht : (pc : Int) + off = (tgt : Int)) (kt : x < 0 → VW k z n n' ws tgt lo st) (kf : ¬ (x < 0) → VW k z n n' ws pc' lo st) : VW k z n n' ws pc lo (.int x :: st) := by
  obtain ⟨d, rfl⟩ := d
  exact fun H L la hP hD hS hl => lv_if_lt X.1 X.2.1 d ht (fun h => kt h H L la hP hD hS hl) (fun h => kf h H L la hP hD hS hl)
theorem r_icmp_lt (X : XX k strs z own cc nL ret R0) {x y : Int32} {off : Int} (tgt : Nat) (d : DEC cc pc 3 pc' (.if_icmp .lt off)) (ht : (pc : Int) + off = (tgt : Int)) (kt : x < y → VW k z n n' ws tgt lo st) (kf : ¬ (x < y) → VW k z n n' ws pc' lo st) : VW k z n n' ws pc lo (.int y :: .int x :: st) := by
  obtain ⟨d, rfl⟩ := d
  exact fun H L la hP hD hS hl => lv_icmp_lt X.1 X.2.1 d ht (fun h => kt h H L la hP hD hS hl) (fun h => kf h H L la hP hD hS hl)
theorem r_lcmp_lt (X : XX k strs z own cc nL ret R0) {x y : Int64} {off : Int} {pc1 : Nat} (tgt : Nat) (d1 : DEC cc pc 1 pc1 .lcmp) (d : DEC cc pc1 3 pc' (.ifCond .lt off)) (ht : (pc1 : Int) + off = (tgt : Int)) (kt : x < y → VW k z n n' ws tgt lo st) (kf : ¬ (x < y) → VW k z n n' ws pc' lo st) : VW k z n n' ws pc lo (.long y :: .long x :: st) := by
  obtain ⟨d1, rfl⟩ := d1
  obtain ⟨d, rfl⟩ := d
  exact fun H L la hP hD hS hl => W.lcmp X.1 X.2.1 d1 (lv_if_lt X.1 X.2.1 d ht (fun h => kt ((lg_cmp_lt x y).mp h) H L la hP hD hS hl) (fun h => kf (fun q => h ((lg_cmp_lt x y).mpr q)) H L la hP hD hS hl))
theorem r_if_ge (X : XX k strs z own cc nL ret R0) {x : Int32} {off : Int} (tgt : Nat) (d : DEC cc pc 3 pc' (.ifCond .ge off)) (ht : (pc : Int) + off = (tgt : Int)) (kt : 0 ≤ x → VW k z n n' ws tgt lo st) (kf : ¬ (0 ≤ x) → VW k z n n' ws pc' lo st) : VW k z n n' ws pc lo (.int x :: st) := by
  obtain ⟨d, rfl⟩ := d
  exact fun H L la hP hD hS hl => lv_if_ge X.1 X.2.1 d ht (fun h => kt h H L la hP hD hS hl) (fun h => kf h H L la hP hD hS hl)
theorem r_icmp_ge (X : XX k strs z own cc nL ret R0) {x y : Int32} {off : Int} (tgt : Nat) (d : DEC cc pc 3 pc' (.if_icmp .ge off)) (ht : (pc : Int) + off = (tgt : Int)) (kt : y ≤ x → VW k z n n' ws tgt lo st) (kf : ¬ (y ≤ x) → VW k z n n' ws pc' lo st) : VW k z n n' ws pc lo (.int y :: .int x :: st) := by
  obtain ⟨d, rfl⟩ := d
  exact fun H L la hP hD hS hl => lv_icmp_ge X.1 X.2.1 d ht (fun h => kt h H L la hP hD hS hl) (fun h => kf h H L la hP hD hS hl)
theorem r_lcmp_ge (X : XX k strs z own cc nL ret R0) {x y : Int64} {off : Int} {pc1 : Nat} (tgt : Nat) (d1 : DEC cc pc 1 pc1 .lcmp) (d : DEC cc pc1 3 pc' (.ifCond .ge off)) (ht : (pc1 : Int) + off = (tgt : Int)) (kt : y ≤ x → VW k z n n' ws tgt lo st) (kf : ¬ (y ≤ x) → VW k z n n' ws pc' lo st) : VW k z n n' ws pc lo (.long y :: .long x :: st) := by
  obtain ⟨d1, rfl⟩ := d1
  obtain ⟨d, rfl⟩ := d
  exact fun H L la hP hD hS hl => W.lcmp X.1 X.2.1 d1 (lv_if_ge X.1 X.2.1 d ht (fun h => kt ((lg_cmp_ge x y).mp h) H L la hP hD hS hl) (fun h => kf (fun q => h ((lg_cmp_ge x y).mpr q)) H L la hP hD hS hl))
theorem r_if_gt (X : XX k strs z own cc nL ret R0) {x : Int32} {off : Int} (tgt : Nat) (d : DEC cc pc 3 pc' (.ifCond .gt off)) (ht : (pc : Int) + off = (tgt : Int)) (kt : 0 < x → VW k z n n' ws tgt lo st) (kf : ¬ (0 < x) → VW k z n n' ws pc' lo st) : VW k z n n' ws pc lo (.int x :: st) := by
  obtain ⟨d, rfl⟩ := d
  exact fun H L la hP hD hS hl => lv_if_gt X.1 X.2.1 d ht (fun h => kt h H L la hP hD hS hl) (fun h => kf h H L la hP hD hS hl)
theorem r_icmp_gt (X : XX k strs z own cc nL ret R0) {x y : Int32} {off : Int} (tgt : Nat) (d : DEC cc pc 3 pc' (.if_icmp .gt off)) (ht : (pc : Int) + off = (tgt : Int)) (kt : y < x → VW k z n n' ws tgt lo st) (kf : ¬ (y < x) → VW k z n n' ws pc' lo st) : VW k z n n' ws pc lo (.int y :: .int x :: st) := by
  obtain ⟨d, rfl⟩ := d
  exact fun H L la hP hD hS hl => lv_icmp_gt X.1 X.2.1 d ht (fun h => kt h H L la hP hD hS hl) (fun h => kf h H L la hP hD hS hl)
theorem r_lcmp_gt (X : XX k strs z own cc nL ret R0) {x y : Int64} {off : Int} {pc1 : Nat} (tgt : Nat) (d1 : DEC cc pc 1 pc1 .lcmp) (d : DEC cc pc1 3 pc' (.ifCond .gt off)) (ht : (pc1 : Int) + off = (tgt : Int)) (kt : y < x → VW k z n n' ws tgt lo st) (kf : ¬ (y < x) → VW k z n n' ws pc' lo st) : VW k z n n' ws pc lo (.long y :: .long x :: st) := by
  obtain ⟨d1, rfl⟩ := d1
  obtain ⟨d, rfl⟩ := d
  exact fun H L la hP hD hS hl => W.lcmp X.1 X.2.1 d1 (lv_if_gt X.1 X.2.1 d ht (fun h => kt ((lg_cmp_gt x y).mp h) H L la hP hD hS hl) (fun h => kf (fun q => h ((lg_cmp_gt x y).mpr q)) H L la hP hD hS hl))
theorem r_if_le (X : XX k strs z own cc nL ret R0) {x : Int32} {off : Int} (tgt : Nat) (d : DEC cc pc 3 pc' (.ifCond .le off)) (ht : (pc : Int) + off = (tgt : Int)) (kt : x ≤ 0 → VW k z n n' ws tgt lo st) (kf : ¬ (x ≤ 0) → VW k z n n' ws pc' lo st) : VW k z n n' ws pc lo (.int x :: st) := by
  obtain ⟨d, rfl⟩ := d
  exact fun H L la hP hD hS hl => lv_if_le X.1 X.2.1 d ht (fun h => kt h H L la hP hD hS hl) (fun h => kf h H L la hP hD hS hl)
theorem r_icmp_le (X : XX k strs z own cc nL ret R0) {x y : Int32} {off : Int} (tgt : Nat) (d : DEC cc pc 3 pc' (.if_icmp .le off)) (ht : (pc : Int) + off = (tgt : Int)) (kt : x ≤ y → VW k z n n' ws tgt lo st) (kf : ¬ (x ≤ y) → VW k z n n' ws pc' lo st) : VW k z n n' ws pc lo (.int y :: .int x :: st) := by
  obtain ⟨d, rfl⟩ := d
  exact fun H L la hP hD hS hl => lv_icmp_le X.1 X.2.1 d ht (fun h => kt h H L la hP hD hS hl) (fun h => kf h H L la hP hD hS hl)
theorem r_lcmp_le (X : XX k strs z own cc nL ret R0) {x y : Int64} {off : Int} {pc1 : Nat} (tgt : Nat) (d1 : DEC cc pc 1 pc1 .lcmp) (d : DEC cc pc1 3 pc' (.ifCond .le off)) (ht : (pc1 : Int) + off = (tgt : Int)) (kt : x ≤ y → VW k z n n' ws tgt lo st) (kf : ¬ (x ≤ y) → VW k z n n' ws pc' lo st) : VW k z n n' ws pc lo (.long y :: .long x :: st) := by
  obtain ⟨d1, rfl⟩ := d1
  obtain ⟨d, rfl⟩ := d
  exact fun H L la hP hD hS hl => W.lcmp X.1 X.2.1 d1 (lv_if_le X.1 X.2.1 d ht (fun h => kt ((lg_cmp_le x y).mp h) H L la hP hD hS hl) (fun h => kf (fun q => h ((lg_cmp_le x y).mpr q)) H L la hP hD hS hl))
theorem r_goto (X : XX k strs z own cc nL ret R0) {off : Int} (tgt : Nat) (d : DEC cc pc 3 pc' (.goto off)) (ht : (pc : Int) + off = (tgt : Int)) (kk : VW k z n n' ws tgt lo st) : VW k z n n' ws pc lo st := by
  obtain ⟨d, rfl⟩ := d
  exact fun H L la hP hD hS hl => lv_goto X.1 X.2.1 d ht (kk H L la hP hD hS hl)
theorem r_tswIn (X : XX k strs z own cc nL ret R0) {dflt l h : Int} {offs : Array Int} {len : Nat} {x : Int32} {off : Int} (tgt : Nat) (d : DEC cc pc len pc' (.tableswitch dflt l h offs)) (h1 : ¬ x.toInt < l) (h2 : ¬ h < x.toInt) (ho : offs[(x.toInt - l).toNat]? = some off) (ht : (pc : Int) + off = (tgt : Int)) (kk : VW k z n n' ws tgt lo st) : VW k z n n' ws pc lo (.int x :: st) := by
  obtain ⟨d, rfl⟩ := d
  exact fun H L la hP hD hS hl => lv_tableIn X.1 X.2.1 d h1 h2 ho ht (kk H L la hP hD hS hl)
theorem r_tswOut (X : XX k strs z own cc nL ret R0) {dflt l h : Int} {offs : Array Int} {len : Nat} {x : Int32} (tgt : Nat) (d : DEC cc pc len pc' (.tableswitch dflt l h offs)) (h1 : x.toInt < l ∨ h < x.toInt) (ht : (pc : Int) + dflt = (tgt : Int)) (kk : VW k z n n' ws tgt lo st) : VW k z n n' ws pc lo (.int x :: st) := by
  obtain ⟨d, rfl⟩ := d
  exact fun H L la hP hD hS hl => lv_tableOut X.1 X.2.1 d h1 ht (kk H L la hP hD hS hl)
theorem r_lookup (X : XX k strs z own cc nL ret R0) {dflt : Int} {ps : Array (Int × Int)} {len : Nat} {x : Int32} {off : Int} (tgt : Nat) (d : DEC cc pc len pc' (.lookupswitch dflt ps)) (hp : (ps.toList.zip (ps.toList.drop 1)).all (fun (a, next) => a.1 < next.1) = true) (ho : Op.lookupswitch.offset ps.toList dflt x.toInt = off) (ht : (pc : Int) + off = (tgt : Int)) (kk : VW k z n n' ws tgt lo st) : VW k z n n' ws pc lo (.int x :: st) := by
  obtain ⟨d, rfl⟩ := d
  exact fun H L la hP hD hS hl => lv_lookup X.1 X.2.1 d hp ho ht (kk H L la hP hD hS hl)
theorem r_ldc (X : XX k strs z own cc nL ret R0) {ix : Nat} {v : Int32} (w : .constant own ix v ∈ bigw) (d : DEC cc pc 2 pc' (.ldc ix)) (kk : VW k z n n' ws pc' lo (.int v :: st)) : VW k z n n' ws pc lo st := by
  obtain ⟨d, rfl⟩ := d
  exact fun H L la hP hD hS hl => lv_ldc X.1 X.2.1 X.own1 (X.ts _ w) d (kk H L la hP hD hS hl)
theorem r_ldcw (X : XX k strs z own cc nL ret R0) {ix : Nat} {v : Int32} (w : .constant own ix v ∈ bigw) (d : DEC cc pc 3 pc' (.ldc_w ix)) (kk : VW k z n n' ws pc' lo (.int v :: st)) : VW k z n n' ws pc lo st := by
  obtain ⟨d, rfl⟩ := d
  exact fun H L la hP hD hS hl => lv_ldcw X.1 X.2.1 X.own1 (X.ts _ w) d (kk H L la hP hD hS hl)
theorem r_ldc2 (X : XX k strs z own cc nL ret R0) {ix : Nat} {v : Int64} (w : .constantLong own ix v ∈ bigw) (d : DEC cc pc 3 pc' (.ldc2_w ix)) (kk : VW k z n n' ws pc' lo (.long v :: st)) : VW k z n n' ws pc lo st := by
  obtain ⟨d, rfl⟩ := d
  exact fun H L la hP hD hS hl => lv_ldc2 X.1 X.2.1 X.own1 (X.ts _ w) d (kk H L la hP hD hS hl)
theorem r_ldcS (X : XX k strs z own cc nL ret R0) {ix : Nat} {tx : String} {by_ : List Int32} (i : Nat) (w : strs[i]? = some (own, ix, tx, by_)) (d : DEC cc pc 2 pc' (.ldc ix)) (kk : VW k z n n' ws pc' lo (.ref (k.sK i) :: st)) : VW k z n n' ws pc lo st := by
  obtain ⟨d, rfl⟩ := d
  exact fun H L la hP hD hS hl => va_ldcS X.1 X.2.1 X.own1 (X.F.2.1 i _ w).1 d (kk H L la hP hD hS hl)
theorem r_ldcwS (X : XX k strs z own cc nL ret R0) {ix : Nat} {tx : String} {by_ : List Int32} (i : Nat) (w : strs[i]? = some (own, ix, tx, by_)) (d : DEC cc pc 3 pc' (.ldc_w ix)) (kk : VW k z n n' ws pc' lo (.ref (k.sK i) :: st)) : VW k z n n' ws pc lo st := by
  obtain ⟨d, rfl⟩ := d
  intro H L la hP hD hS hl T hT Y
  obtain ⟨t, a1, b1⟩ := kk H L la hP hD hS hl T hT Y
  exact ⟨t, Y.ldcStringW X.1 (own := own) X.own1 (text := tx) (a := k.sK i) (index := ix) (X.F.2.1 i _ w).1.1 (X.F.2.1 i _ w).1.2 (g := F0 (zM z) pc la st) rfl (by rw [X.2.1]; exact d) t a1, b1⟩
def CLS (ci : Nat) (C : String) (T : u_T) (N : Nat) (ty : Nat → FieldType) : Prop := clS[ci]? = some (C, T, N) ∧ (∀ w ∈ u_ws C T N, w ∈ bigw) ∧ (∀ i, i < N → parseFieldDescriptor (T i).2.2.1 = some (ty i)) ∧ (∀ a, a < N → ∀ b, b < N → a ≠ b → (T a).2.1 ≠ (T b).2.1)
def FL (own : String) (ix : Nat) (T : u_T) (f : Nat) : Prop := .fieldLink own ix (T f).1 (T f).2.1 (T f).2.2.1 ∈ bigw
theorem r_getfield (X : XX k strs z own cc nL ret R0) {ci N ix : Nat} {C : String} {T : u_T} {ty : Nat → FieldType} {a f : Nat} {fs : List Value} {v : Value} (c : CLS ci C T N ty) (w : FL own ix T f) (hf : f < N) (q : Nat) (he : ws[q]? = some (a, .inr (ci, fs))) (hv : fs[f]? = some v) (d : DEC cc pc 3 pc' (.getfield ix)) (kk : VW k z n n' ws pc' lo (v :: st)) : VW k z n n' ws pc lo (.ref a :: st) := by
  obtain ⟨d, rfl⟩ := d
  exact fun H L la hP hD hS hl => va_get X.1 X.2.1 X.ts c.2.1 X.own1 X.K hP q he c.1 f hf (X.ts _ w) (fun _ h => h) hv d (kk H L la hP hD hS hl)
theorem r_putfield (X : XX k strs z own cc nL ret R0) {ci N ix : Nat} {C : String} {T : u_T} {ty : Nat → FieldType} {a f : Nat} {fs : List Value} {v : Value} {ws1 : va_W} (c : CLS ci C T N ty) (w : FL own ix T f) (hf : f < N) (hfin : (T f).2.2.2 = false) (hn : narrow (ty f) v = v) (hfit : fits (ty f) v = true) (q : Nat) (he : ws[q]? = some (a, .inr (ci, fs))) (hl0 : f < fs.length) (hws : ws.set q (a, .inr (ci, fs.set f v)) = ws1) (d : DEC cc pc 3 pc' (.putfield ix)) (kk : VW k z n n' ws1 pc' lo st) : VW k z n n' ws pc lo (v :: .ref a :: st) := by
  obtain ⟨d, rfl⟩ := d
  subst hws
  exact fun H L la hP hD hS hl => va_put X.1 X.2.1 X.ts c.2.1 ty c.2.2.1 c.2.2.2 X.own1 X.K hP hD hS q he c.1 f hf (X.ts _ w) (fun _ h => h) hfin (c.2.2.1 f hf) hn hfit hl0 d (fun H1 L1 hP hD hS => kk H1 L1 la hP hD hS hl)
def inb (i : Int32) (n : Nat) : Bool := decide (0 ≤ i.toInt ∧ i.toInt < n)
theorem inb_vp {i : Int32} {n : Nat} (h : inb i n = true) : vp_in i n := vp_in_iff.mpr (of_decide_eq_true h)
abbrev ix (i : Int32) : Nat := i.toNatClampNeg
theorem r_iaload (X : XX k strs z own cc nL ret R0) {a N : Nat} {f : Nat → Int32} {i : Int32} (q : Nat) (he : ws[q]? = some (a, .inl (k.c 0, (N, .inl f)))) (hi : inb i N = true) (d : DEC cc pc 1 pc' .iaload) (kk : VW k z n n' ws pc' lo (.int (f (ix i)) :: st)) : VW k z n n' ws pc lo (.int i :: .ref a :: st) := by
  obtain ⟨d, rfl⟩ := d
  exact fun H L la hP hD hS hl => va_iald X.1 X.2.1 X.K hP q 0 he rfl (inb_vp hi) d (kk H L la hP hD hS hl)
theorem r_laload (X : XX k strs z own cc nL ret R0) {a N : Nat} {f : Nat → Int64} {i : Int32} (q : Nat) (he : ws[q]? = some (a, .inl (k.c 1, (N, .inr (.inl f))))) (hi : inb i N = true) (d : DEC cc pc 1 pc' .laload) (kk : VW k z n n' ws pc' lo (.long (f (ix i)) :: st)) : VW k z n n' ws pc lo (.int i :: .ref a :: st) := by
  obtain ⟨d, rfl⟩ := d
  exact fun H L la hP hD hS hl => va_lald X.1 X.2.1 X.K hP q 1 he rfl (inb_vp hi) d (kk H L la hP hD hS hl)
theorem r_baload (X : XX k strs z own cc nL ret R0) {a N : Nat} {f : Nat → Int32} {i : Int32} (q : Nat) (he : ws[q]? = some (a, .inl (k.c 2, (N, .inl f)))) (hi : inb i N = true) (d : DEC cc pc 1 pc' .baload) (kk : VW k z n n' ws pc' lo (.int (f (ix i)) :: st)) : VW k z n n' ws pc lo (.int i :: .ref a :: st) := by
  obtain ⟨d, rfl⟩ := d
  exact fun H L la hP hD hS hl => va_bald X.1 X.2.1 X.K hP q 2 he rfl (inb_vp hi) d (kk H L la hP hD hS hl)
theorem r_daload (X : XX k strs z own cc nL ret R0) {a N : Nat} {f : Nat → UInt64} {i : Int32} (q : Nat) (he : ws[q]? = some (a, .inl (k.c 3, (N, .inr (.inr (.inr (.inl f))))))) (hi : inb i N = true) (d : DEC cc pc 1 pc' .daload) (kk : VW k z n n' ws pc' lo (.double (f (ix i)) :: st)) : VW k z n n' ws pc lo (.int i :: .ref a :: st) := by
  obtain ⟨d, rfl⟩ := d
  exact fun H L la hP hD hS hl => va_dald X.1 X.2.1 X.K hP q 3 he rfl (inb_vp hi) d (kk H L la hP hD hS hl)
theorem r_iastore (X : XX k strs z own cc nL ret R0) {a N : Nat} {f : Nat → Int32} {i : Int32} {x : Int32} {ws1 : va_W} (q : Nat) (he : ws[q]? = some (a, .inl (k.c 0, (N, .inl f)))) (hi : inb i N = true) (hws : ws.set q (a, .inl (k.c 0, (N, .inl (upd f (ix i) x)))) = ws1) (d : DEC cc pc 1 pc' .iastore) (kk : VW k z n n' ws1 pc' lo st) : VW k z n n' ws pc lo (.int x :: .int i :: .ref a :: st) := by
  obtain ⟨d, rfl⟩ := d
  subst hws
  exact fun H L la hP hD hS hl => va_iast X.1 X.2.1 X.K hP hD hS q 0 he rfl (inb_vp hi) d (fun H1 L1 hP hD hS => kk H1 L1 la hP hD hS hl)
theorem r_lastore (X : XX k strs z own cc nL ret R0) {a N : Nat} {f : Nat → Int64} {i : Int32} {x : Int64} {ws1 : va_W} (q : Nat) (he : ws[q]? = some (a, .inl (k.c 1, (N, .inr (.inl f))))) (hi : inb i N = true) (hws : ws.set q (a, .inl (k.c 1, (N, .inr (.inl (vp_updL f (ix i) x))))) = ws1) (d : DEC cc pc 1 pc' .lastore) (kk : VW k z n n' ws1 pc' lo st) : VW k z n n' ws pc lo (.long x :: .int i :: .ref a :: st) := by
  obtain ⟨d, rfl⟩ := d
  subst hws
  exact fun H L la hP hD hS hl => va_last X.1 X.2.1 X.K hP hD hS q 1 he rfl (inb_vp hi) d (fun H1 L1 hP hD hS => kk H1 L1 la hP hD hS hl)
theorem r_bastore (X : XX k strs z own cc nL ret R0) {a N : Nat} {f : Nat → Int32} {i : Int32} {x : Int32} {ws1 : va_W} (q : Nat) (he : ws[q]? = some (a, .inl (k.c 2, (N, .inl f)))) (hi : inb i N = true) (hws : ws.set q (a, .inl (k.c 2, (N, .inl (upd f (ix i) (vp_nar .byte x))))) = ws1) (d : DEC cc pc 1 pc' .bastore) (kk : VW k z n n' ws1 pc' lo st) : VW k z n n' ws pc lo (.int x :: .int i :: .ref a :: st) := by
  obtain ⟨d, rfl⟩ := d
  subst hws
  exact fun H L la hP hD hS hl => va_bast X.1 X.2.1 X.K hP hD hS q 2 he rfl (inb_vp hi) d (fun H1 L1 hP hD hS => kk H1 L1 la hP hD hS hl)
theorem r_dastore (X : XX k strs z own cc nL ret R0) {a N : Nat} {f : Nat → UInt64} {i : Int32} {x : UInt64} {ws1 : va_W} (q : Nat) (he : ws[q]? = some (a, .inl (k.c 3, (N, .inr (.inr (.inr (.inl f))))))) (hi : inb i N = true) (hws : ws.set q (a, .inl (k.c 3, (N, .inr (.inr (.inr (.inl (vf_upd f (ix i) x))))))) = ws1) (d : DEC cc pc 1 pc' .dastore) (kk : VW k z n n' ws1 pc' lo st) : VW k z n n' ws pc lo (.double x :: .int i :: .ref a :: st) := by
  obtain ⟨d, rfl⟩ := d
  subst hws
  exact fun H L la hP hD hS hl => va_dast X.1 X.2.1 X.K hP hD hS q 3 he rfl (inb_vp hi) d (fun H1 L1 hP hD hS => kk H1 L1 la hP hD hS hl)
theorem r_aaload (X : XX k strs z own cc nL ret R0) {a N : Nat} {f : Nat → Option Nat} {i : Int32} {v : Value} (q : Nat) (he : ws[q]? = some (a, .inl (k.c 4, (N, .inr (.inr (.inr (.inr f))))))) (hi : inb i N = true) (hv : va_rf (f (ix i)) = v) (d : DEC cc pc 1 pc' .aaload) (kk : VW k z n n' ws pc' lo (v :: st)) : VW k z n n' ws pc lo (.int i :: .ref a :: st) := by
  obtain ⟨d, rfl⟩ := d
  subst hv
  exact fun H L la hP hD hS hl => va_aldq X.1 X.2.1 X.K hP q 4 he rfl (inb_vp hi) d (kk H L la hP hD hS hl)
theorem r_aastore (X : XX k strs z own cc nL ret R0) {a N v : Nat} {vs : List Value} {f : Nat → Option Nat} {i : Int32} {ws1 : va_W} (q qk : Nat) (he : ws[q]? = some (a, .inl (k.c 4, (N, .inr (.inr (.inr (.inr f))))))) (hk : ws[qk]? = some (v, .inr (5, vs))) (hi : inb i N = true) (hws : ws.set q (a, .inl (k.c 4, (N, .inr (.inr (.inr (.inr (va_up f (ix i) (some v)))))))) = ws1) (d : DEC cc pc 1 pc' .aastore) (kk : VW k z n n' ws1 pc' lo st) : VW k z n n' ws pc lo (.ref v :: .int i :: .ref a :: st) := by
  obtain ⟨d, rfl⟩ := d
  subst hws
  exact fun H L la hP hD hS hl => va_astq X.1 X.2.1 X.K hP hD hS q 4 qk 5 (r := (RX5, TX5, 13)) he rfl hk rfl (inb_vp hi) d (fun H1 L1 hP hD hS => kk H1 L1 la hP hD hS hl)
-- returns: what f's value says is what the contract says
theorem r_ireturn (X : XX k strs z own cc nL (some .int) R0) {mc ms : Nat} {o : Option Value} {ws' : va_W} {v : Int32} (hQ : zQ z = MQ (zB z) (Qof k o ws') (zA z) (zS z) mc ms (kA k)) (ho : o = some (.int v)) (hw : ws = ws') (hc : n ≤ mc) (hs : n' ≤ ms) (d : DEC cc pc 1 pc' .ireturn) : VW k z n n' ws pc lo [.int v] := by
  intro H L la hP hD hS hl
  subst ho; subst hw
  obtain ⟨d, rfl⟩ := d
  unfold ZW
  rw [hQ]
  exact W.widen hc hs (W.iret X.1 X.2.1 X.ret1 (fun t ht _ => ⟨rfl, by rw [ht]; exact hP, hD, hS.F ht⟩) hS.2.2 d X.locks)
theorem r_zreturn (X : XX k strs z own cc nL (some .boolean) R0) {mc ms : Nat} {o : Option Value} {ws' : va_W} {v : Int32} (hQ : zQ z = MQ (zB z) (Qof k o ws') (zA z) (zS z) mc ms (kA k)) (ho : o = some (.int v)) (hw : ws = ws') (hc : n ≤ mc) (hs : n' ≤ ms) (hv : narrow .boolean (.int v) = .int v) (d : DEC cc pc 1 pc' .ireturn) : VW k z n n' ws pc lo [.int v] := by
  intro H L la hP hD hS hl
  subst ho; subst hw
  obtain ⟨d, rfl⟩ := d
  unfold ZW
  rw [hQ]
  exact W.widen hc hs (W.zret X.1 X.2.1 X.ret1 hv (fun t ht _ => ⟨rfl, by rw [ht]; exact hP, hD, hS.F ht⟩) hS.2.2 d X.locks)
theorem r_lreturn (X : XX k strs z own cc nL (some .long) R0) {mc ms : Nat} {o : Option Value} {ws' : va_W} {v : Int64} (hQ : zQ z = MQ (zB z) (Qof k o ws') (zA z) (zS z) mc ms (kA k)) (ho : o = some (.long v)) (hw : ws = ws') (hc : n ≤ mc) (hs : n' ≤ ms) (d : DEC cc pc 1 pc' .lreturn) : VW k z n n' ws pc lo [.long v] := by
  intro H L la hP hD hS hl
  subst ho; subst hw
  obtain ⟨d, rfl⟩ := d
  unfold ZW
  rw [hQ]
  exact W.widen hc hs (W.lret X.1 X.2.1 X.ret1 (fun t ht _ => ⟨rfl, by rw [ht]; exact hP, hD, hS.F ht⟩) hS.2.2 d X.locks)
theorem r_dreturn (X : XX k strs z own cc nL (some .double) R0) {mc ms : Nat} {o : Option Value} {ws' : va_W} {v : UInt64} (hQ : zQ z = MQ (zB z) (Qof k o ws') (zA z) (zS z) mc ms (kA k)) (ho : o = some (.double v)) (hw : ws = ws') (hc : n ≤ mc) (hs : n' ≤ ms) (d : DEC cc pc 1 pc' .dreturn) : VW k z n n' ws pc lo [.double v] := by
  intro H L la hP hD hS hl
  subst ho; subst hw
  obtain ⟨d, rfl⟩ := d
  unfold ZW
  rw [hQ]
  have hlk := X.locks
  exact W.widen hc hs (W.dret X.1 X.2.1 X.ret1 (fun t ht _ => ⟨rfl, by rw [ht]; exact hP, hD, hS.F ht⟩) hS.2.2 d)
theorem r_return (X : XX k strs z own cc nL none R0) {mc ms : Nat} {o : Option Value} {ws' : va_W} (hQ : zQ z = MQ (zB z) (Qof k o ws') (zA z) (zS z) mc ms (kA k)) (ho : o = none) (hw : ws = ws') (hc : n ≤ mc) (hs : n' ≤ ms) (d : DEC cc pc 1 pc' .return_) : VW k z n n' ws pc lo [] := by
  intro H L la hP hD hS hl
  subst ho; subst hw
  obtain ⟨d, rfl⟩ := d
  unfold ZW
  rw [hQ]
  exact W.widen hc hs (W.vret X.1 X.2.1 X.ret1 (fun t ht _ => ⟨rfl, by rw [ht]; exact hP, hD, hS.F ht⟩) hS.2.2 d X.locks)
-- calls
def LKB (own : String) (ix : Nat) (y : MethodName) (bytes : ByteArray) (maxL : Nat) (rt : Option FieldType) (na : Nat) : Prop :=
  .methodLink own ix y ∈ bigw ∧ .code y bytes maxL rt ∈ bigw ∧ .initialized y.cls ∈ bigw ∧ (y.cls ≠ "java/lang/invoke/MethodHandle" ∧ y.cls ≠ "java/lang/invoke/VarHandle") ∧ (parseMethodDescriptor y.desc).map (fun d => d.parameters.length) = some na
def LKV (own : String) (ix : Nat) (y : MethodName) (bytes : ByteArray) (maxL : Nat) (rt : Option FieldType) (na : Nat) : Prop :=
  LKB own ix y bytes maxL rt na ∧ .instanceMethod y ∈ bigw ∧ .selects y.cls y y ∈ bigw
def LKS (own : String) (ix : Nat) (y : MethodName) (bytes : ByteArray) (maxL : Nat) (rt : Option FieldType) (na : Nat) : Prop :=
  LKB own ix y bytes maxL rt na ∧ .static y ∈ bigw
/-- a private static method of a nest mate -/
def LKN (own : String) (ix : Nat) (y : MethodName) (host : String) (bytes : ByteArray) (maxL : Nat) (rt : Option FieldType) (na : Nat) : Prop :=
  .methodLinkNest own ix y host ∈ lw_tbl ∧ .code y bytes maxL rt ∈ bigw ∧ .initialized y.cls ∈ bigw ∧ (y.cls ≠ "java/lang/invoke/MethodHandle" ∧ y.cls ≠ "java/lang/invoke/VarHandle") ∧ (parseMethodDescriptor y.desc).map (fun d => d.parameters.length) = some na ∧ .static y ∈ bigw
/-- the callee's room fits the caller's -/
def RLE (maxL : Nat) (R1 R0 : Room) : Prop := R1.frames + 1 ≤ R0.frames ∧ 8 + (maxL + 11) + R1.locals ≤ R0.locals
theorem big_all (X : XX k strs z own cc nL ret R0) {y : MethodName} {bytes : ByteArray} {maxL : Nat} {rt : Option FieldType} (h : .code y bytes maxL rt ∈ bigw) : ∀ w ∈ (Cond.code y bytes maxL rt :: bigw), ∀ (a' : Array Value) (U : State), (zS z).WarmedH U.vm → w.before a' U = true :=
  pay_in X.ts (fun w hw => big_good w ((List.mem_cons.mp hw).elim (fun e => e ▸ h) id))
theorem lkn {y : MethodName} {na : Nat} (h : (parseMethodDescriptor y.desc).map (fun d => d.parameters.length) = some na) : ∀ sig, parseMethodDescriptor y.desc = some sig → na = sig.parameters.length := by
  intro sig hs
  rw [hs] at h
  exact (Option.some.inj h).symm
theorem cb_of (X : XX k strs z own cc nL ret R0) {ix : Nat} {y : MethodName} {bytes : ByteArray} {maxL na mc ms : Nat} {rt : Option FieldType} {R1 : Room} (w : LKB own ix y bytes maxL rt na) (hR : RLE maxL R1 R0) (hc : R1.cells = mc) (hs : R1.slots = ms) : CallB (zR z) (zS z) (zA z) own ix y bytes maxL rt (Cond.code y bytes maxL rt :: bigw) R1 mc ms na :=
  ⟨hc, hs, by rw [X.R]; exact hR.1, by rw [X.R]; exact hR.2, big_all X w.2.1, List.mem_cons_self, X.ts _ w.2.1, X.ts _ w.2.2.1, w.2.2.2.1, lkn w.2.2.2.2, X.ts _ w.1⟩
theorem pre_of (X : XX k strs z own cc nL ret R0) {H : Heap} {L : List Loc} {As : List Value} (hP : va_P k.D clS ws H) (hD : va_D (kA k) ws) (hS : va_S (kA k) (zS z).heap H L) : PreS (zS z) H (va_Pc As (PW k strs ws)) As :=
  ⟨PW.blind, fun U hU hW => ⟨rfl, by rw [hU]; exact hP, hD, by rw [hU]; exact X.F.call hW hS.2.1, by rw [hU]; exact Nat.le_trans X.2.2.2.2.2.2.2.2.2 hS.1⟩⟩
/-- behind a call that returns -/
theorem run_on (X : XX k strs z own cc nL ret R0) {H : Heap} {L : List Loc} {la : Array Slot} {a : Array Value} {mc ms : Nat} {o : Option Value} {ws' : va_W} {st0 : List Value} (hS : va_S (kA k) (zS z).heap H L) (hl : lvH la lo)
    (hr : va_Run (zP z) k.l (zE z) (zR z) (zS z) (zM z) (zA z) (zB z) (zH z) (zC z) H L n n' mc ms (F0 (zM z) pc la st0) st (Qof k o ws' a) (kA k))
    (kk : VW k z (n + mc) (n' + ms) ws' (pc + 3) lo (o.toList ++ st)) : ZW k z H L n n' (F0 (zM z) pc la st0) := by
  intro T hT Y
  obtain ⟨v, st₀, t, T', L1, h0, Y', hL, e1, e2, ⟨hv, hP1, hD1, hz, hk⟩, sg⟩ := hr T hT Y
  cases hv
  rw [h0] at hz hk
  have hS1 : va_S (kA k) (zS z).heap T'.heap (L ++ L1) := by
    refine ⟨Nat.le_trans hS.1 (by rw [e1]; exact hz), fun q h1 h2 => ?_, fun q hq => ?_⟩
    · rw [e1, hk q (Nat.lt_of_lt_of_le h1 hS.1) h2]; exact hS.2.1 q h1 h2
    · rcases List.mem_append.mp hq with h | h
      · exact hS.2.2 q h
      · exact hL q h
  obtain ⟨t2, a1, b1⟩ := kk T'.heap (L ++ L1) la (by rw [e1]; exact hP1) hD1 hS1 hl T' rfl Y'
  exact ⟨t2, sg t2 a1, b1⟩
theorem r_callV (X : XX k strs z own cc nL ret R0) {ix ci maxL na mc ms : Nat} {y : MethodName} {bytes : ByteArray} {rt : Option FieldType} {R1 : Room} {C : String} {T : u_T} {N : Nat} {ty : Nat → FieldType} {a : Nat} {fs : List Value} {o : Option Value} {ws' : va_W} {st0 st1 : List Value}
    (As : List Value) (st : List Value) (hM : CT k strs y bytes maxL rt R1 mc ms (.ref a :: As) ws o ws') (w : LKV own ix y bytes maxL rt na) (c : CLS ci C T N ty) (hC : C = y.cls) (q : Nat) (he : ws[q]? = some (a, .inr (ci, fs))) (hR : RLE maxL R1 R0) (hmc : R1.cells = mc) (hms : R1.slots = ms) (hc : n + mc ≤ R0.cells) (hs : n' + ms ≤ R0.slots)
    (hst : st0 = As.reverse ++ .ref a :: st) (hna : As.length = na) (hcat : (st.map fun v => v.category).sum ≤ 8) (hlo : lo.length = nL) (hst1 : o.toList ++ st = st1) (d : DEC cc pc 3 pc' (.invokevirtual ix)) (kk : VW k z (n + mc) (n' + ms) ws' pc' lo st1) : VW k z n n' ws pc lo st0 := by
  subst hst; subst hst1; subst hC
  obtain ⟨d, rfl⟩ := d
  intro H L la hP hD hS hl
  exact run_on X hS hl (va_runV (n := na) (nL := nL) (As := As) (rest := st) ⟨X.1, X.2.1, X.ml, X.own1, X.ts⟩ hM ⟨cb_of X w.1 hR hmc hms, X.ts _ w.2.1, X.ts _ w.2.2⟩ ⟨PW.blind, va_recv X.K hP c.1 he, (pre_of X hP hD hS).2⟩ rfl hna (hl.1.trans hlo) rfl (lv_room hcat) d ⟨by rw [X.R]; exact hc, by rw [X.R]; exact hs⟩) kk
theorem r_callS (X : XX k strs z own cc nL ret R0) {ix maxL na mc ms : Nat} {y : MethodName} {bytes : ByteArray} {rt : Option FieldType} {R1 : Room} {o : Option Value} {ws' : va_W} {st0 st1 : List Value}
    (As : List Value) (st : List Value) (hM : CT k strs y bytes maxL rt R1 mc ms As ws o ws') (w : LKS own ix y bytes maxL rt na) (hR : RLE maxL R1 R0) (hmc : R1.cells = mc) (hms : R1.slots = ms) (hc : n + mc ≤ R0.cells) (hs : n' + ms ≤ R0.slots)
    (hst : st0 = As.reverse ++ st) (hna : As.length = na) (hcat : (st.map fun v => v.category).sum ≤ 8) (hlo : lo.length = nL) (hst1 : o.toList ++ st = st1) (d : DEC cc pc 3 pc' (.invokestatic ix)) (kk : VW k z (n + mc) (n' + ms) ws' pc' lo st1) : VW k z n n' ws pc lo st0 := by
  subst hst; subst hst1
  obtain ⟨d, rfl⟩ := d
  intro H L la hP hD hS hl
  exact run_on X hS hl (va_runS (n := na) (nL := nL) (As := As) (rest := st) ⟨X.1, X.2.1, X.ml, X.own1, X.ts⟩ hM ⟨cb_of X w.1 hR hmc hms, X.ts _ w.2⟩ (pre_of X hP hD hS) rfl hna (hl.1.trans hlo) rfl (lv_room hcat) d ⟨by rw [X.R]; exact hc, by rw [X.R]; exact hs⟩) kk
theorem r_callSN (X : XX k strs z own cc nL ret R0) {ix maxL na mc ms : Nat} {y : MethodName} {host : String} {bytes : ByteArray} {rt : Option FieldType} {R1 : Room} {o : Option Value} {ws' : va_W} {st0 st1 : List Value}
    (As : List Value) (st : List Value) (hM : CT k strs y bytes maxL rt R1 mc ms As ws o ws') (w : LKN own ix y host bytes maxL rt na) (hR : RLE maxL R1 R0) (hmc : R1.cells = mc) (hms : R1.slots = ms) (hc : n + mc ≤ R0.cells) (hs : n' + ms ≤ R0.slots)
    (hst : st0 = As.reverse ++ st) (hna : As.length = na) (hcat : (st.map fun v => v.category).sum ≤ 8) (hlo : lo.length = nL) (hst1 : o.toList ++ st = st1) (d : DEC cc pc 3 pc' (.invokestatic ix)) (kk : VW k z (n + mc) (n' + ms) ws' pc' lo st1) : VW k z n n' ws pc lo st0 := by
  subst hst; subst hst1
  obtain ⟨d, rfl⟩ := d
  intro H L la hP hD hS hl
  exact run_on X hS hl (va_runSN (n := na) (nL := nL) (As := As) (rest := st) ⟨X.1, X.2.1, X.ml, X.own1, X.ts⟩ hM ⟨⟨⟨hmc, hms, by rw [X.R]; exact hR.1, by rw [X.R]; exact hR.2, big_all X w.2.1, List.mem_cons_self⟩, X.ts _ w.2.1, X.ts _ w.2.2.1, w.2.2.2.1, lkn w.2.2.2.2.1, va_Nw.use rfl (X.F.2.2.2.2.1 _ _ _ _ w.1)⟩, X.ts _ w.2.2.2.2.2, trivial⟩ (pre_of X hP hD hS) rfl hna (hl.1.trans hlo) rfl (lv_room hcat) d ⟨by rw [X.R]; exact hc, by rw [X.R]; exact hs⟩) kk
-- what the JDK does
theorem r_imin (X : XX k strs z own cc nL ret R0) {ix : Nat} {x y : Int32} (w : LKS own ix Lib.Math.min.name Lib.Math.min.code 2 (some .int) 2) (hlo : lo.length = nL) (hR : 1 ≤ R0.frames ∧ (st.map fun v => v.category).sum + 15 ≤ R0.locals) (hc : n ≤ R0.cells) (hs : n' ≤ R0.slots) (d : DEC cc pc 3 pc' (.invokestatic ix)) (kk : VW k z n n' ws pc' lo (.int (if y < x then y else x) :: st)) : VW k z n n' ws pc lo (.int y :: .int x :: st) := by
  obtain ⟨d, rfl⟩ := d
  exact fun H L la hP hD hS hl => va_mmin X.1 X.2.1 (X.ml.trans (hlo.symm.trans hl.1.symm)) X.own1 (X.ts _ w.1.1) (X.ts _ w.2) (X.ts _ w.1.2.2.1) (X.ts _ w.1.2.1) (by rw [X.R]; exact hR.1) (by rw [X.R]; omega) (by rw [X.R]; exact hc) (by rw [X.R]; exact hs) d (kk H L la hP hD hS hl)
theorem r_imax (X : XX k strs z own cc nL ret R0) {ix : Nat} {x y : Int32} (w : LKS own ix Lib.Math.max.name Lib.Math.max.code 2 (some .int) 2) (hlo : lo.length = nL) (hR : 1 ≤ R0.frames ∧ (st.map fun v => v.category).sum + 15 ≤ R0.locals) (hc : n ≤ R0.cells) (hs : n' ≤ R0.slots) (d : DEC cc pc 3 pc' (.invokestatic ix)) (kk : VW k z n n' ws pc' lo (.int (if x < y then y else x) :: st)) : VW k z n n' ws pc lo (.int y :: .int x :: st) := by
  obtain ⟨d, rfl⟩ := d
  exact fun H L la hP hD hS hl => va_mmax X.1 X.2.1 (X.ml.trans (hlo.symm.trans hl.1.symm)) X.own1 (X.ts _ w.1.1) (X.ts _ w.2) (X.ts _ w.1.2.2.1) (X.ts _ w.1.2.1) (by rw [X.R]; exact hR.1) (by rw [X.R]; omega) (by rw [X.R]; exact hc) (by rw [X.R]; exact hs) d (kk H L la hP hD hS hl)
theorem r_iabs (X : XX k strs z own cc nL ret R0) {ix : Nat} {x : Int32} (w : LKS own ix Lib.Math.abs.name Lib.Math.abs.code 1 (some .int) 1) (hlo : lo.length = nL) (hR : 1 ≤ R0.frames ∧ (st.map fun v => v.category).sum + 15 ≤ R0.locals) (hc : n ≤ R0.cells) (hs : n' ≤ R0.slots) (d : DEC cc pc 3 pc' (.invokestatic ix)) (kk : VW k z n n' ws pc' lo (.int (if 0 ≤ x then x else 0 - x) :: st)) : VW k z n n' ws pc lo (.int x :: st) := by
  obtain ⟨d, rfl⟩ := d
  exact fun H L la hP hD hS hl => va_mabs X.1 X.2.1 (X.ml.trans (hlo.symm.trans hl.1.symm)) X.own1 (X.ts _ w.1.1) (X.ts _ w.2) (X.ts _ w.1.2.2.1) (X.ts _ w.1.2.1) (by rw [X.R]; exact hR.1) (by rw [X.R]; omega) (by rw [X.R]; exact hc) (by rw [X.R]; exact hs) d (kk H L la hP hD hS hl)
theorem r_lmin (X : XX k strs z own cc nL ret R0) {ix : Nat} {x y : Int64} (w : LKS own ix Lib.MathLoose.min_long.x Lib.MathLoose.min_long.code 4 (some .long) 2) (hlo : lo.length = nL) (hR : 1 ≤ R0.frames ∧ (st.map fun v => v.category).sum + 15 ≤ R0.locals) (hc : n ≤ R0.cells) (hs : n' ≤ R0.slots) (d : DEC cc pc 3 pc' (.invokestatic ix)) (kk : VW k z n n' ws pc' lo (.long (if y < x then y else x) :: st)) : VW k z n n' ws pc lo (.long y :: .long x :: st) := by
  obtain ⟨d, rfl⟩ := d
  exact fun H L la hP hD hS hl => va_mmin_long X.1 X.2.1 (X.ml.trans (hlo.symm.trans hl.1.symm)) X.own1 (X.ts _ w.1.1) (X.ts _ w.2) (X.ts _ w.1.2.2.1) (X.ts _ w.1.2.1) (by rw [X.R]; exact hR.1) (by rw [X.R]; omega) (by rw [X.R]; exact hc) (by rw [X.R]; exact hs) d (kk H L la hP hD hS hl)
theorem r_lmax (X : XX k strs z own cc nL ret R0) {ix : Nat} {x y : Int64} (w : LKS own ix Lib.MathLoose.max_long.x Lib.MathLoose.max_long.code 4 (some .long) 2) (hlo : lo.length = nL) (hR : 1 ≤ R0.frames ∧ (st.map fun v => v.category).sum + 15 ≤ R0.locals) (hc : n ≤ R0.cells) (hs : n' ≤ R0.slots) (d : DEC cc pc 3 pc' (.invokestatic ix)) (kk : VW k z n n' ws pc' lo (.long (if y < x then x else y) :: st)) : VW k z n n' ws pc lo (.long y :: .long x :: st) := by
  obtain ⟨d, rfl⟩ := d
  exact fun H L la hP hD hS hl => va_mmax_long X.1 X.2.1 (X.ml.trans (hlo.symm.trans hl.1.symm)) X.own1 (X.ts _ w.1.1) (X.ts _ w.2) (X.ts _ w.1.2.2.1) (X.ts _ w.1.2.1) (by rw [X.R]; exact hR.1) (by rw [X.R]; omega) (by rw [X.R]; exact hc) (by rw [X.R]; exact hs) d (kk H L la hP hD hS hl)
theorem r_labs (X : XX k strs z own cc nL ret R0) {ix : Nat} {x : Int64} (w : LKS own ix Lib.MathLoose.abs_long.x Lib.MathLoose.abs_long.code 2 (some .long) 1) (hlo : lo.length = nL) (hR : 1 ≤ R0.frames ∧ (st.map fun v => v.category).sum + 15 ≤ R0.locals) (hc : n ≤ R0.cells) (hs : n' ≤ R0.slots) (d : DEC cc pc 3 pc' (.invokestatic ix)) (kk : VW k z n n' ws pc' lo (.long (if 0 < x then x else -x) :: st)) : VW k z n n' ws pc lo (.long x :: st) := by
  obtain ⟨d, rfl⟩ := d
  exact fun H L la hP hD hS hl => va_mabs_long X.1 X.2.1 (X.ml.trans (hlo.symm.trans hl.1.symm)) X.own1 (X.ts _ w.1.1) (X.ts _ w.2) (X.ts _ w.1.2.2.1) (X.ts _ w.1.2.1) (by rw [X.R]; exact hR.1) (by rw [X.R]; omega) (by rw [X.R]; exact hc) (by rw [X.R]; exact hs) d (kk H L la hP hD hS hl)
/-- System.arraycopy of whole rows -/
def LKA (own : String) (ix : Nat) : Prop := .methodLink own ix arraycopyName ∈ bigw ∧ .native arraycopyName ∈ bigw ∧ .static arraycopyName ∈ bigw ∧ .initialized "java/lang/System" ∈ bigw
theorem r_copyi (X : XX k strs z own cc nL ret R0) {ix a0 a n0 n1 : Nat} {f g : Nat → Int32} {len : Int32} {m : Nat} {ws1 : va_W} (w : LKA own ix) (q0 q1 : Nat) (he0 : ws[q0]? = some (a0, .inl (k.c 0, (n0, .inl f)))) (he1 : ws[q1]? = some (a, .inl (k.c 0, (n1, .inl g)))) (hm : len.toNatClampNeg = m) (h3 : ¬ len < 0) (h4 : m ≤ n0) (h5 : m ≤ n1) (hws : ws.set q1 (a, .inl (k.c 0, (n1, .inl (va_cpy f g 0 0 m)))) = ws1) (hlo : lo.length = nL) (hR : 1 ≤ R0.frames ∧ (st.map fun v => v.category).sum + (nativeFrameWords "java/lang/System" "arraycopy" 5 + 11) ≤ R0.locals) (d : DEC cc pc 3 pc' (.invokestatic ix)) (kk : VW k z n n' ws1 pc' lo st) : VW k z n n' ws pc lo (.int len :: .int 0 :: .ref a :: .int 0 :: .ref a0 :: st) := by
  obtain ⟨d, rfl⟩ := d
  subst hws; subst hm
  have z0 : (0 : Int32).toNatClampNeg = 0 := by decide
  exact fun H L la hP hD hS hl => va_copyi X.1 X.2.1 (X.ml.trans (hlo.symm.trans hl.1.symm)) X.own1 (X.ts _ w.1) (X.ts _ w.2.1) (X.ts _ w.2.2.1) (X.ts _ w.2.2.2) X.K hP hD hS q0 q1 0 0 he0 he1 rfl rfl rfl (by decide) (by decide) h3 (by rw [z0]; omega) (by rw [z0]; omega) (fun _ _ => rfl) (by rw [X.R]; exact hR.1) (by rw [X.R]; exact hR.2) d (fun H1 L1 hP hD hS => by rw [z0] at hP hD; exact kk H1 L1 la hP hD hS hl)
theorem r_copyl (X : XX k strs z own cc nL ret R0) {ix a0 a n0 n1 : Nat} {f g : Nat → Int64} {len : Int32} {m : Nat} {ws1 : va_W} (w : LKA own ix) (q0 q1 : Nat) (he0 : ws[q0]? = some (a0, .inl (k.c 1, (n0, .inr (.inl f))))) (he1 : ws[q1]? = some (a, .inl (k.c 1, (n1, .inr (.inl g))))) (hm : len.toNatClampNeg = m) (h3 : ¬ len < 0) (h4 : m ≤ n0) (h5 : m ≤ n1) (hws : ws.set q1 (a, .inl (k.c 1, (n1, .inr (.inl (va_cpy f g 0 0 m))))) = ws1) (hlo : lo.length = nL) (hR : 1 ≤ R0.frames ∧ (st.map fun v => v.category).sum + (nativeFrameWords "java/lang/System" "arraycopy" 5 + 11) ≤ R0.locals) (d : DEC cc pc 3 pc' (.invokestatic ix)) (kk : VW k z n n' ws1 pc' lo st) : VW k z n n' ws pc lo (.int len :: .int 0 :: .ref a :: .int 0 :: .ref a0 :: st) := by
  obtain ⟨d, rfl⟩ := d
  subst hws; subst hm
  have z0 : (0 : Int32).toNatClampNeg = 0 := by decide
  exact fun H L la hP hD hS hl => va_copyl X.1 X.2.1 (X.ml.trans (hlo.symm.trans hl.1.symm)) X.own1 (X.ts _ w.1) (X.ts _ w.2.1) (X.ts _ w.2.2.1) (X.ts _ w.2.2.2) X.K hP hD hS q0 q1 1 1 he0 he1 rfl rfl rfl (by decide) (by decide) h3 (by rw [z0]; omega) (by rw [z0]; omega) (fun _ _ => rfl) (by rw [X.R]; exact hR.1) (by rw [X.R]; exact hR.2) d (fun H1 L1 hP hD hS => by rw [z0] at hP hD; exact kk H1 L1 la hP hD hS hl)
-- a method that may throw
def QXof (k : KT) (out : Option Value ⊕ Nat) (ws : va_W) : Array Value → State → Outcome → State → Prop := fun a st oc t => ∃ o, out = .inl o ∧ Qof k o ws a st oc t
def XCof (k : KT) (out : Option Value ⊕ Nat) (ws : va_W) : String → State → State → Prop := fun E st t => (∃ e, out = .inr e ∧ e < 4 ∧ E = exN e) ∧ va_P k.D clS ws t.heap ∧ va_D (kA k) ws ∧ va_F (kA k) st t
def CX (k : KT) (strs : List ST) (y : MethodName) (cc : ByteArray) (nL : Nat) (ret : Option FieldType) (R0 : Room) (args : List Value) (ws : va_W) (out : Option Value ⊕ Nat) (ws' : va_W) : Prop :=
  vx_Met k.l y (.code y cc nL ret :: bigw) R0 (va_Pc args (PW k strs ws)) (QXof k out ws') (XCof k out ws') 1 6 (kA k)
theorem CX.of {y : MethodName} {R0 : Room} {args : List Value} {ws ws' : va_W} {out : Option Value ⊕ Nat} (hy : plainName y.cls = true) (hn : (lg_sl args).length ≤ nL)
    (body : ∀ z : ZT, XX k strs z y.cls cc nL ret R0 → (∀ x ∈ (zC z).exceptionTable.toList, False) → zQ z = vx_MQ (zB z) (QXof k out ws') (XCof k out ws') (zA z) (zS z) 1 6 (kA k) → VW k z 0 0 ws 0 (loOf (lg_sl args ++ List.replicate (nL - (lg_sl args).length) Slot.unset)) []) : CX k strs y cc nL ret R0 args ws out ws' := by
  refine vx_ofW (cc := cc) (maxL := nL) (ret := ret) hy rfl ?_
  intro p e s m as below meth c s₁ B hml htab hv
  obtain ⟨rfl, hP, hD, hF, hb0⟩ := hv
  have hts : ∀ w ∈ bigw, w.before args.toArray s = true := fun w hw => atoms_spec (ws := .code y cc nL ret :: bigw) B.pre w (List.mem_cons_of_mem _ hw)
  have K := body (p, e, R0, s, m, args.toArray, below, meth, c, vx_MQ below (QXof k out ws') (XCof k out ws') args.toArray s 1 6 (kA k)) ⟨B.exec, B.bytes, hml, B.returns, rfl, B.notSynchronized, findClass_of_methodNamed B.named, hts, hF, hb0⟩ htab rfl
  rw [lg_entry_eq]
  exact K s.heap [] _ hP hD va_S.rf (lvH.of_args (lv_entry args hn))
theorem x_ireturn (X : XX k strs z own cc nL (some .int) R0) {out : Option Value ⊕ Nat} {ws' : va_W} {v : Int32} (hQ : zQ z = vx_MQ (zB z) (QXof k out ws') (XCof k out ws') (zA z) (zS z) 1 6 (kA k)) (ho : out = .inl (some (.int v))) (hw : ws = ws') (hc : n ≤ 1) (hs : n' ≤ 6) (d : DEC cc pc 1 pc' .ireturn) : VW k z n n' ws pc lo [.int v] := by
  intro H L la hP hD hS hl
  subst ho; subst hw
  obtain ⟨d, rfl⟩ := d
  unfold ZW
  rw [hQ]
  exact vx_ret (W.widen hc hs (W.iret X.1 X.2.1 X.ret1 (fun t ht _ => ⟨_, rfl, rfl, by rw [ht]; exact hP, hD, hS.F ht⟩) hS.2.2 d X.locks))
theorem x_zreturn (X : XX k strs z own cc nL (some .boolean) R0) {out : Option Value ⊕ Nat} {ws' : va_W} {v : Int32} (hQ : zQ z = vx_MQ (zB z) (QXof k out ws') (XCof k out ws') (zA z) (zS z) 1 6 (kA k)) (ho : out = .inl (some (.int v))) (hw : ws = ws') (hc : n ≤ 1) (hs : n' ≤ 6) (hv : narrow .boolean (.int v) = .int v) (d : DEC cc pc 1 pc' .ireturn) : VW k z n n' ws pc lo [.int v] := by
  intro H L la hP hD hS hl
  subst ho; subst hw
  obtain ⟨d, rfl⟩ := d
  unfold ZW
  rw [hQ]
  exact vx_ret (W.widen hc hs (W.zret X.1 X.2.1 X.ret1 hv (fun t ht _ => ⟨_, rfl, rfl, by rw [ht]; exact hP, hD, hS.F ht⟩) hS.2.2 d X.locks))
theorem x_lreturn (X : XX k strs z own cc nL (some .long) R0) {out : Option Value ⊕ Nat} {ws' : va_W} {v : Int64} (hQ : zQ z = vx_MQ (zB z) (QXof k out ws') (XCof k out ws') (zA z) (zS z) 1 6 (kA k)) (ho : out = .inl (some (.long v))) (hw : ws = ws') (hc : n ≤ 1) (hs : n' ≤ 6) (d : DEC cc pc 1 pc' .lreturn) : VW k z n n' ws pc lo [.long v] := by
  intro H L la hP hD hS hl
  subst ho; subst hw
  obtain ⟨d, rfl⟩ := d
  unfold ZW
  rw [hQ]
  exact vx_ret (W.widen hc hs (W.lret X.1 X.2.1 X.ret1 (fun t ht _ => ⟨_, rfl, rfl, by rw [ht]; exact hP, hD, hS.F ht⟩) hS.2.2 d X.locks))
theorem x_dreturn (X : XX k strs z own cc nL (some .double) R0) {out : Option Value ⊕ Nat} {ws' : va_W} {v : UInt64} (hQ : zQ z = vx_MQ (zB z) (QXof k out ws') (XCof k out ws') (zA z) (zS z) 1 6 (kA k)) (ho : out = .inl (some (.double v))) (hw : ws = ws') (hc : n ≤ 1) (hs : n' ≤ 6) (d : DEC cc pc 1 pc' .dreturn) : VW k z n n' ws pc lo [.double v] := by
  intro H L la hP hD hS hl
  subst ho; subst hw
  obtain ⟨d, rfl⟩ := d
  unfold ZW
  rw [hQ]
  have hlk := X.locks
  exact vx_ret (W.widen hc hs (W.dret X.1 X.2.1 X.ret1 (fun t ht _ => ⟨_, rfl, rfl, by rw [ht]; exact hP, hD, hS.F ht⟩) hS.2.2 d))
def exNames : List String := ["java/lang/RuntimeException", "java/lang/Exception"]
/-- throw new E() out of class own: entry ik is E, entry ic its constructor -/
def LKT (own : String) (ik ic e : Nat) : Prop := .classLink own ik (exN e) ∈ bigw ∧ .initialized (exN e) ∈ bigw ∧ (∀ w ∈ vx_at0 own ic (exN e) exNames, w ∈ bigw ∨ (∃ C T, w = .castable C T ∧ w ∈ lw_tbl) ∨ ∃ y, w = .declares y ∧ w ∈ lw_tbl)
theorem r_throw (X : XX k strs z own cc nL ret R0) (hT : ∀ x ∈ (zC z).exceptionTable.toList, False) {out : Option Value ⊕ Nat} {ws' : va_W} {e ik ic p1 p2 p3 p4 : Nat} (w : LKT own ik ic e) (he : e < 4) (hQ : zQ z = vx_MQ (zB z) (QXof k out ws') (XCof k out ws') (zA z) (zS z) 1 6 (kA k)) (ho : out = .inr e) (hw : ws = ws') (hc : n + 1 ≤ 1) (hs : n' + 6 ≤ 6) (hlo : lo.length = nL) (hR : 6 ≤ R0.frames ∧ (st.map fun v => v.category).sum + 81 ≤ R0.locals ∧ 1 ≤ R0.cells ∧ 6 ≤ R0.slots)
    (d0 : DEC cc pc 3 p1 (.new ik)) (d1 : DEC cc p1 1 p2 .dup) (d2 : DEC cc p2 3 p3 (.invokespecial ic)) (d3 : DEC cc p3 1 p4 .athrow) : VW k z n n' ws pc lo st := by
  intro H L la hP hD hS hl
  subst hw
  obtain ⟨d0, rfl⟩ := d0
  obtain ⟨d1, rfl⟩ := d1
  obtain ⟨d2, rfl⟩ := d2
  obtain ⟨d3, -⟩ := d3
  unfold ZW
  rw [hQ]
  have hat : ∀ u ∈ vx_at0 own ic (exN e) exNames, u.before (zA z) (zS z) = true := by
    intro u hu
    rcases w.2.2 u hu with h | ⟨C, T, rfl, h⟩ | ⟨y, rfl, h⟩
    · exact X.ts u h
    · exact va_Nw.use rfl (X.F.2.2.2.2.2.1 C T h)
    · exact va_Nw.use rfl (X.F.2.2.2.2.2.2.1 y h)
  have hgood : ∀ u ∈ Cond.classLink own ik (exN e) :: Cond.initialized (exN e) :: vx_at0 own ic (exN e) exNames, vx_ot u = true := by
    intro u hu
    rcases List.mem_cons.mp hu with rfl | hu
    · rfl
    · rcases List.mem_cons.mp hu with rfl | hu
      · rfl
      · rcases w.2.2 u hu with h | ⟨C, T, rfl, -⟩ | ⟨y, rfl, -⟩
        · unfold vx_ot; rw [(List.mem_filter.mp h).2, Bool.or_true]
        · rfl
        · rfl
  refine vx_throw0 X.1 X.2.1 X.F.2.2.2.2.2.2.2.2 (own := own) (cls := exN e) (names := exNames) (ik := ik) (ic := ic) (A := kA k) X.own1 ?_ ?_ (X.ts _ w.1) (X.ts _ w.2.1) hat hgood X.F.2.2.1 X.F.2.2.2.1 hS (hl.1.trans (hlo.trans X.ml.symm)) d0 d1 d2 d3 (fun x hx => absurd (hT x hx) id) ?_ ?_ ?_ ?_ X.locks ?_ hS.2.2 hc hs
  · rcases (show e = 0 ∨ e = 1 ∨ e = 2 ∨ e = 3 by omega) with rfl | rfl | rfl | rfl <;> decide
  · decide
  · rw [X.R]; exact hR.1
  · rw [X.R]; exact hR.2.1
  · rw [X.R]; exact Nat.le_trans hc hR.2.2.1
  · rw [X.R]; exact Nat.le_trans hs hR.2.2.2
  · intro t ha hz hk
    refine ⟨⟨e, ho, he, rfl⟩, hP.kept (fun i q hq => hk q.1 (hP i q hq).lt), hD, Nat.le_trans hS.1 hz, fun q h1 h2 => ?_⟩
    rw [hk q (Nat.lt_of_lt_of_le h1 hS.1)]
    exact hS.2.1 q h1 h2
-- f's own words
def gd {α : Type} (b : Bool) (x : Option α) : Option α := if b = true then x else none
theorem gdS {α : Type} {b : Bool} {x : Option α} {r : α} (h : gd b x = some r) : b = true ∧ x = some r := by
  unfold gd at h
  split at h
  · exact ⟨by assumption, h⟩
  · cases h
theorem bdS {α β : Type} {x : Option α} {f : α → Option β} {r : β} (h : x.bind f = some r) : ∃ u, x = some u ∧ f u = some r := Option.bind_eq_some_iff.mp h
theorem ifT {α : Type} {c : Prop} [Decidable c] {a b : Option α} {r : α} (h : (if c then a else b) = some r) (hc : c) : a = some r := by rwa [if_pos hc] at h
theorem ifF {α : Type} {c : Prop} [Decidable c] {a b : Option α} {r : α} (h : (if c then a else b) = some r) (hc : ¬ c) : b = some r := by rwa [if_neg hc] at h
end ROWS
end
section
/-! the words, by their places -/
theorem gt0 {w : Cond} (i : Nat) (h : (k2_sels lw_privs)[i]? = some w) : w ∈ lw_tbl := List.mem_append_left _ (List.mem_of_getElem? h)
theorem gb0 {w : Cond} (i : Nat) (h : (k2_sels lw_privs)[i]? = some w) (g : goodWord w = true) : w ∈ bigw := List.mem_filter.mpr ⟨gt0 i h, g⟩
theorem gt1 {w : Cond} (i : Nat) (h : (tables_1_1)[i]? = some w) : w ∈ lw_tbl := List.mem_append_right _ (List.mem_append_left _ (List.mem_of_getElem? h))
theorem gb1 {w : Cond} (i : Nat) (h : (tables_1_1)[i]? = some w) (g : goodWord w = true) : w ∈ bigw := List.mem_filter.mpr ⟨gt1 i h, g⟩
theorem gt2 {w : Cond} (i : Nat) (h : (tables_1_2)[i]? = some w) : w ∈ lw_tbl := List.mem_append_right _ (List.mem_append_right _ (List.mem_append_left _ (List.mem_of_getElem? h)))
theorem gb2 {w : Cond} (i : Nat) (h : (tables_1_2)[i]? = some w) (g : goodWord w = true) : w ∈ bigw := List.mem_filter.mpr ⟨gt2 i h, g⟩
theorem gt3 {w : Cond} (i : Nat) (h : (tables_1_3)[i]? = some w) : w ∈ lw_tbl := List.mem_append_right _ (List.mem_append_right _ (List.mem_append_right _ (List.mem_append_left _ (List.mem_of_getElem? h))))
theorem gb3 {w : Cond} (i : Nat) (h : (tables_1_3)[i]? = some w) (g : goodWord w = true) : w ∈ bigw := List.mem_filter.mpr ⟨gt3 i h, g⟩
theorem gt4 {w : Cond} (i : Nat) (h : (tables_1_4)[i]? = some w) : w ∈ lw_tbl := List.mem_append_right _ (List.mem_append_right _ (List.mem_append_right _ (List.mem_append_right _ (List.mem_append_left _ (List.mem_of_getElem? h)))))
theorem gb4 {w : Cond} (i : Nat) (h : (tables_1_4)[i]? = some w) (g : goodWord w = true) : w ∈ bigw := List.mem_filter.mpr ⟨gt4 i h, g⟩
theorem gt5 {w : Cond} (i : Nat) (h : (tables_1_5)[i]? = some w) : w ∈ lw_tbl := List.mem_append_right _ (List.mem_append_right _ (List.mem_append_right _ (List.mem_append_right _ (List.mem_append_right _ (List.mem_append_left _ (List.mem_of_getElem? h))))))
theorem gb5 {w : Cond} (i : Nat) (h : (tables_1_5)[i]? = some w) (g : goodWord w = true) : w ∈ bigw := List.mem_filter.mpr ⟨gt5 i h, g⟩
theorem gt6 {w : Cond} (i : Nat) (h : (tables_1_6)[i]? = some w) : w ∈ lw_tbl := List.mem_append_right _ (List.mem_append_right _ (List.mem_append_right _ (List.mem_append_right _ (List.mem_append_right _ (List.mem_append_right _ (List.mem_append_left _ (List.mem_of_getElem? h)))))))
theorem gb6 {w : Cond} (i : Nat) (h : (tables_1_6)[i]? = some w) (g : goodWord w = true) : w ∈ bigw := List.mem_filter.mpr ⟨gt6 i h, g⟩
theorem gt7 {w : Cond} (i : Nat) (h : (tables_1_7)[i]? = some w) : w ∈ lw_tbl := List.mem_append_right _ (List.mem_append_right _ (List.mem_append_right _ (List.mem_append_right _ (List.mem_append_right _ (List.mem_append_right _ (List.mem_append_right _ (List.mem_append_left _ (List.mem_of_getElem? h))))))))
theorem gb7 {w : Cond} (i : Nat) (h : (tables_1_7)[i]? = some w) (g : goodWord w = true) : w ∈ bigw := List.mem_filter.mpr ⟨gt7 i h, g⟩
theorem gt8 {w : Cond} (i : Nat) (h : (tables_1_8)[i]? = some w) : w ∈ lw_tbl := List.mem_append_right _ (List.mem_append_right _ (List.mem_append_right _ (List.mem_append_right _ (List.mem_append_right _ (List.mem_append_right _ (List.mem_append_right _ (List.mem_append_right _ (List.mem_append_left _ (List.mem_of_getElem? h)))))))))
theorem gb8 {w : Cond} (i : Nat) (h : (tables_1_8)[i]? = some w) (g : goodWord w = true) : w ∈ bigw := List.mem_filter.mpr ⟨gt8 i h, g⟩
theorem gt9 {w : Cond} (i : Nat) (h : (tables_1_9)[i]? = some w) : w ∈ lw_tbl := List.mem_append_right _ (List.mem_append_right _ (List.mem_append_right _ (List.mem_append_right _ (List.mem_append_right _ (List.mem_append_right _ (List.mem_append_right _ (List.mem_append_right _ (List.mem_append_right _ (List.mem_of_getElem? h)))))))))
theorem gb9 {w : Cond} (i : Nat) (h : (tables_1_9)[i]? = some w) (g : goodWord w = true) : w ∈ bigw := List.mem_filter.mpr ⟨gt9 i h, g⟩
theorem in_r (ws : List Cond) (ps : List Nat) (hp : ws = ps.filterMap (fun i => lw_tbl[i]?)) (h : ws.all goodWord = true) : ∀ w ∈ ws, w ∈ bigw := by
  intro w hw
  refine List.mem_filter.mpr ⟨?_, List.all_eq_true.mp h w hw⟩
  rw [hp] at hw
  obtain ⟨i, -, hi⟩ := List.mem_filterMap.mp hw
  exact List.mem_of_getElem? hi
theorem clsX0 : CLS 0 RX0 TX0 6 tyX0 := ⟨rfl, in_r _ [344, 346, 348, 350, 352, 354] (by decide +kernel) (by decide +kernel), tyX0_ok, nmX0⟩
theorem clsX1 : CLS 1 RX1 TX1 19 tyX1 := ⟨rfl, in_r _ [255, 257, 259, 261, 263, 265, 267, 269, 271, 273, 275, 277, 279, 281, 283, 285, 287, 289, 291] (by decide +kernel) (by decide +kernel), tyX1_ok, nmX1⟩
theorem clsX2 : CLS 2 RX2 TX2 7 tyX2 := ⟨rfl, in_r _ [174, 176, 178, 180, 182, 184, 186] (by decide +kernel) (by decide +kernel), tyX2_ok, nmX2⟩
theorem clsX3 : CLS 3 RX3 TX3 4 tyX3 := ⟨rfl, in_r _ [321, 323, 325, 327] (by decide +kernel) (by decide +kernel), tyX3_ok, nmX3⟩
theorem clsX4 : CLS 4 RX4 TX4 2 tyX4 := ⟨rfl, in_r _ [367, 369] (by decide +kernel) (by decide +kernel), tyX4_ok, nmX4⟩
theorem clsX5 : CLS 5 RX5 TX5 13 tyX5 := ⟨rfl, in_r _ [429, 431, 433, 435, 437, 439, 441, 443, 445, 447, 449, 451, 453] (by decide +kernel) (by decide +kernel), tyX5_ok, nmX5⟩
theorem clsX6 : CLS 6 RX6 TX6 2 tyX6 := ⟨rfl, in_r _ [306, 308] (by decide +kernel) (by decide +kernel), tyX6_ok, nmX6⟩
theorem clsX7 : CLS 7 RX7 TX7 4 tyX7 := ⟨rfl, in_r _ [391, 393, 395, 397] (by decide +kernel) (by decide +kernel), tyX7_ok, nmX7⟩
theorem clsX8 : CLS 8 RX8 TX8 2 tyX8 := ⟨rfl, in_r _ [146, 148] (by decide +kernel) (by decide +kernel), tyX8_ok, nmX8⟩
theorem clsX9 : CLS 9 RX9 TX9 14 tyX9 := ⟨rfl, in_r _ [470, 472, 474, 476, 478, 480, 482, 484, 486, 488, 490, 492, 494, 496] (by decide +kernel) (by decide +kernel), tyX9_ok, nmX9⟩
theorem clsX10 : CLS 10 RX10 TX10 20 tyX10 := ⟨rfl, in_r _ [1434, 1436, 1438, 1440, 1442, 1444, 1446, 1448, 1450, 1452, 1454, 1456, 1458, 1460, 1462, 1464, 1466, 1468, 1470, 1472] (by decide +kernel) (by decide +kernel), tyX10_ok, nmX10⟩
theorem flX8_9 : FL RX8 9 TX8 0 := (gb1 39 (by decide +kernel) (by decide +kernel))
theorem flX8_15 : FL RX8 15 TX8 1 := (gb1 40 (by decide +kernel) (by decide +kernel))
theorem flX9_93 : FL RX9 93 TX8 1 := (gb1 41 (by decide +kernel) (by decide +kernel))
theorem flX2_37 : FL RX2 37 TX8 1 := (gb1 42 (by decide +kernel) (by decide +kernel))
theorem flX2_30 : FL RX2 30 TX2 0 := (gb1 55 (by decide +kernel) (by decide +kernel))
theorem flX2_11 : FL RX2 11 TX2 1 := (gb1 56 (by decide +kernel) (by decide +kernel))
theorem flX3_31 : FL RX3 31 TX2 1 := (gb1 57 (by decide +kernel) (by decide +kernel))
theorem flX6_30 : FL RX6 30 TX2 1 := (gb1 58 (by decide +kernel) (by decide +kernel))
theorem flX2_15 : FL RX2 15 TX2 2 := (gb1 59 (by decide +kernel) (by decide +kernel))
theorem flX3_34 : FL RX3 34 TX2 2 := (gb1 60 (by decide +kernel) (by decide +kernel))
theorem flX6_44 : FL RX6 44 TX2 2 := (gb1 61 (by decide +kernel) (by decide +kernel))
theorem flX2_18 : FL RX2 18 TX2 3 := (gb1 62 (by decide +kernel) (by decide +kernel))
theorem flX2_21 : FL RX2 21 TX2 4 := (gb1 63 (by decide +kernel) (by decide +kernel))
theorem flX2_24 : FL RX2 24 TX2 5 := (gb1 64 (by decide +kernel) (by decide +kernel))
theorem flX6_34 : FL RX6 34 TX2 5 := (gb1 65 (by decide +kernel) (by decide +kernel))
theorem flX3_41 : FL RX3 41 TX2 5 := (gb1 66 (by decide +kernel) (by decide +kernel))
theorem flX9_110 : FL RX9 110 TX2 5 := (gb1 67 (by decide +kernel) (by decide +kernel))
theorem flX2_27 : FL RX2 27 TX2 6 := (gb1 68 (by decide +kernel) (by decide +kernel))
theorem flX3_52 : FL RX3 52 TX2 6 := (gb1 69 (by decide +kernel) (by decide +kernel))
theorem flX9_113 : FL RX9 113 TX2 6 := (gb1 70 (by decide +kernel) (by decide +kernel))
theorem flX1_9 : FL RX1 9 TX1 0 := (gb1 92 (by decide +kernel) (by decide +kernel))
theorem flX5_62 : FL RX5 62 TX1 0 := (gb1 93 (by decide +kernel) (by decide +kernel))
theorem flX6_41 : FL RX6 41 TX1 0 := (gb1 94 (by decide +kernel) (by decide +kernel))
theorem flX9_125 : FL RX9 125 TX1 0 := (gb1 95 (by decide +kernel) (by decide +kernel))
theorem flX1_15 : FL RX1 15 TX1 1 := (gb1 96 (by decide +kernel) (by decide +kernel))
theorem flX5_79 : FL RX5 79 TX1 1 := (gb1 97 (by decide +kernel) (by decide +kernel))
theorem flX6_82 : FL RX6 82 TX1 1 := (gb1 98 (by decide +kernel) (by decide +kernel))
theorem flX9_220 : FL RX9 220 TX1 1 := (gb1 99 (by decide +kernel) (by decide +kernel))
theorem flX1_18 : FL RX1 18 TX1 2 := (gb1 100 (by decide +kernel) (by decide +kernel))
theorem flX5_82 : FL RX5 82 TX1 2 := (gb1 101 (by decide +kernel) (by decide +kernel))
theorem flX6_85 : FL RX6 85 TX1 2 := (gb1 102 (by decide +kernel) (by decide +kernel))
theorem flX9_223 : FL RX9 223 TX1 2 := (gb1 103 (by decide +kernel) (by decide +kernel))
theorem flX1_21 : FL RX1 21 TX1 3 := (gb1 104 (by decide +kernel) (by decide +kernel))
theorem flX5_88 : FL RX5 88 TX1 3 := (gb1 105 (by decide +kernel) (by decide +kernel))
theorem flX0_52 : FL RX0 52 TX1 3 := (gb1 106 (by decide +kernel) (by decide +kernel))
theorem flX6_88 : FL RX6 88 TX1 3 := (gb1 107 (by decide +kernel) (by decide +kernel))
theorem flX9_226 : FL RX9 226 TX1 3 := (gb1 108 (by decide +kernel) (by decide +kernel))
theorem flX1_24 : FL RX1 24 TX1 4 := (gb1 109 (by decide +kernel) (by decide +kernel))
theorem flX5_67 : FL RX5 67 TX1 4 := (gb1 110 (by decide +kernel) (by decide +kernel))
theorem flX9_251 : FL RX9 251 TX1 4 := (gb1 111 (by decide +kernel) (by decide +kernel))
theorem flX1_28 : FL RX1 28 TX1 5 := (gb1 112 (by decide +kernel) (by decide +kernel))
theorem flX5_76 : FL RX5 76 TX1 5 := (gb1 113 (by decide +kernel) (by decide +kernel))
theorem flX1_31 : FL RX1 31 TX1 6 := (gb1 114 (by decide +kernel) (by decide +kernel))
theorem flX9_254 : FL RX9 254 TX1 6 := (gb1 115 (by decide +kernel) (by decide +kernel))
theorem flX5_184 : FL RX5 184 TX1 6 := (gb1 116 (by decide +kernel) (by decide +kernel))
theorem flX1_34 : FL RX1 34 TX1 7 := (gb1 117 (by decide +kernel) (by decide +kernel))
theorem flX9_170 : FL RX9 170 TX1 7 := (gb1 118 (by decide +kernel) (by decide +kernel))
theorem flX5_136 : FL RX5 136 TX1 7 := (gb1 119 (by decide +kernel) (by decide +kernel))
theorem flX1_37 : FL RX1 37 TX1 8 := (gb1 120 (by decide +kernel) (by decide +kernel))
theorem flX5_142 : FL RX5 142 TX1 8 := (gb1 121 (by decide +kernel) (by decide +kernel))
theorem flX9_270 : FL RX9 270 TX1 8 := (gb1 122 (by decide +kernel) (by decide +kernel))
theorem flX1_40 : FL RX1 40 TX1 9 := (gb1 123 (by decide +kernel) (by decide +kernel))
theorem flX9_276 : FL RX9 276 TX1 9 := (gb1 124 (by decide +kernel) (by decide +kernel))
theorem flX5_204 : FL RX5 204 TX1 9 := (gb1 125 (by decide +kernel) (by decide +kernel))
theorem flX1_43 : FL RX1 43 TX1 10 := (gb1 126 (by decide +kernel) (by decide +kernel))
theorem flX9_279 : FL RX9 279 TX1 10 := (gb1 127 (by decide +kernel) (by decide +kernel))
theorem flX5_201 : FL RX5 201 TX1 10 := (gb1 128 (by decide +kernel) (by decide +kernel))
theorem flX1_46 : FL RX1 46 TX1 11 := (gb1 129 (by decide +kernel) (by decide +kernel))
theorem flX5_139 : FL RX5 139 TX1 11 := (gb1 130 (by decide +kernel) (by decide +kernel))
theorem flX9_282 : FL RX9 282 TX1 11 := (gb1 131 (by decide +kernel) (by decide +kernel))
theorem flX1_49 : FL RX1 49 TX1 12 := (gb1 132 (by decide +kernel) (by decide +kernel))
theorem flX5_145 : FL RX5 145 TX1 12 := (gb1 133 (by decide +kernel) (by decide +kernel))
theorem flX9_285 : FL RX9 285 TX1 12 := (gb1 134 (by decide +kernel) (by decide +kernel))
theorem flX1_52 : FL RX1 52 TX1 13 := (gb1 135 (by decide +kernel) (by decide +kernel))
theorem flX5_111 : FL RX5 111 TX1 13 := (gb1 136 (by decide +kernel) (by decide +kernel))
theorem flX9_288 : FL RX9 288 TX1 13 := (gb1 137 (by decide +kernel) (by decide +kernel))
theorem flX1_55 : FL RX1 55 TX1 14 := (gb1 138 (by decide +kernel) (by decide +kernel))
theorem flX5_114 : FL RX5 114 TX1 14 := (gb1 139 (by decide +kernel) (by decide +kernel))
theorem flX9_291 : FL RX9 291 TX1 14 := (gb1 140 (by decide +kernel) (by decide +kernel))
theorem flX1_58 : FL RX1 58 TX1 15 := (gb1 141 (by decide +kernel) (by decide +kernel))
theorem flX9_294 : FL RX9 294 TX1 15 := (gb1 142 (by decide +kernel) (by decide +kernel))
theorem flX5_191 : FL RX5 191 TX1 15 := (gb1 143 (by decide +kernel) (by decide +kernel))
theorem flX1_61 : FL RX1 61 TX1 16 := (gb1 144 (by decide +kernel) (by decide +kernel))
theorem flX5_85 : FL RX5 85 TX1 16 := (gb1 145 (by decide +kernel) (by decide +kernel))
theorem flX1_64 : FL RX1 64 TX1 17 := (gb1 146 (by decide +kernel) (by decide +kernel))
theorem flX0_57 : FL RX0 57 TX1 17 := (gb1 147 (by decide +kernel) (by decide +kernel))
theorem flX5_108 : FL RX5 108 TX1 17 := (gb1 148 (by decide +kernel) (by decide +kernel))
theorem flX9_297 : FL RX9 297 TX1 17 := (gb1 149 (by decide +kernel) (by decide +kernel))
theorem flX1_67 : FL RX1 67 TX1 18 := (gb1 150 (by decide +kernel) (by decide +kernel))
theorem flX5_91 : FL RX5 91 TX1 18 := (gb1 151 (by decide +kernel) (by decide +kernel))
theorem flX6_18 : FL RX6 18 TX6 0 := (gb1 200 (by decide +kernel) (by decide +kernel))
theorem flX6_12 : FL RX6 12 TX6 1 := (gb1 201 (by decide +kernel) (by decide +kernel))
theorem flX9_116 : FL RX9 116 TX6 1 := (gb1 202 (by decide +kernel) (by decide +kernel))
theorem flX3_18 : FL RX3 18 TX3 0 := (gb1 214 (by decide +kernel) (by decide +kernel))
theorem flX3_22 : FL RX3 22 TX3 1 := (gb1 215 (by decide +kernel) (by decide +kernel))
theorem flX3_9 : FL RX3 9 TX3 2 := (gb1 216 (by decide +kernel) (by decide +kernel))
theorem flX3_15 : FL RX3 15 TX3 3 := (gb1 217 (by decide +kernel) (by decide +kernel))
theorem flX0_9 : FL RX0 9 TX0 0 := (gb1 233 (by decide +kernel) (by decide +kernel))
theorem flX0_15 : FL RX0 15 TX0 1 := (gb1 234 (by decide +kernel) (by decide +kernel))
theorem flX0_18 : FL RX0 18 TX0 2 := (gb1 235 (by decide +kernel) (by decide +kernel))
theorem flX0_21 : FL RX0 21 TX0 3 := (gb1 236 (by decide +kernel) (by decide +kernel))
theorem flX0_25 : FL RX0 25 TX0 4 := (gb1 237 (by decide +kernel) (by decide +kernel))
theorem flX9_344 : FL RX9 344 TX0 4 := (gb1 238 (by decide +kernel) (by decide +kernel))
theorem flX0_28 : FL RX0 28 TX0 5 := (gb1 239 (by decide +kernel) (by decide +kernel))
theorem flX9_347 : FL RX9 347 TX0 5 := (gb2 0 (by decide +kernel) (by decide +kernel))
theorem flX4_9 : FL RX4 9 TX4 0 := (gb2 20 (by decide +kernel) (by decide +kernel))
theorem flX9_378 : FL RX9 378 TX4 0 := (gb2 21 (by decide +kernel) (by decide +kernel))
theorem flX4_13 : FL RX4 13 TX4 1 := (gb2 22 (by decide +kernel) (by decide +kernel))
theorem flX9_350 : FL RX9 350 TX4 1 := (gb2 23 (by decide +kernel) (by decide +kernel))
theorem flX7_7 : FL RX7 7 TX7 0 := (gb2 42 (by decide +kernel) (by decide +kernel))
theorem flX5_59 : FL RX5 59 TX7 0 := (gb2 43 (by decide +kernel) (by decide +kernel))
theorem flX9_246 : FL RX9 246 TX7 0 := (gb2 44 (by decide +kernel) (by decide +kernel))
theorem flX7_13 : FL RX7 13 TX7 1 := (gb2 45 (by decide +kernel) (by decide +kernel))
theorem flX7_16 : FL RX7 16 TX7 2 := (gb2 46 (by decide +kernel) (by decide +kernel))
theorem flX7_20 : FL RX7 20 TX7 3 := (gb2 47 (by decide +kernel) (by decide +kernel))
theorem flX5_54 : FL RX5 54 TX5 0 := (gb2 59 (by decide +kernel) (by decide +kernel))
theorem flX0_31 : FL RX0 31 TX5 0 := (gb2 60 (by decide +kernel) (by decide +kernel))
theorem flX5_9 : FL RX5 9 TX5 1 := (gb2 61 (by decide +kernel) (by decide +kernel))
theorem flX9_229 : FL RX9 229 TX5 1 := (gb2 62 (by decide +kernel) (by decide +kernel))
theorem flX5_15 : FL RX5 15 TX5 2 := (gb2 63 (by decide +kernel) (by decide +kernel))
theorem flX9_364 : FL RX9 364 TX5 2 := (gb2 64 (by decide +kernel) (by decide +kernel))
theorem flX5_18 : FL RX5 18 TX5 3 := (gb2 65 (by decide +kernel) (by decide +kernel))
theorem flX9_373 : FL RX9 373 TX5 3 := (gb2 66 (by decide +kernel) (by decide +kernel))
theorem flX5_21 : FL RX5 21 TX5 4 := (gb2 67 (by decide +kernel) (by decide +kernel))
theorem flX9_266 : FL RX9 266 TX5 4 := (gb2 68 (by decide +kernel) (by decide +kernel))
theorem flX5_25 : FL RX5 25 TX5 5 := (gb2 69 (by decide +kernel) (by decide +kernel))
theorem flX9_166 : FL RX9 166 TX5 5 := (gb2 70 (by decide +kernel) (by decide +kernel))
theorem flX5_29 : FL RX5 29 TX5 6 := (gb2 71 (by decide +kernel) (by decide +kernel))
theorem flX9_201 : FL RX9 201 TX5 6 := (gb2 72 (by decide +kernel) (by decide +kernel))
theorem flX5_32 : FL RX5 32 TX5 7 := (gb2 73 (by decide +kernel) (by decide +kernel))
theorem flX9_257 : FL RX9 257 TX5 7 := (gb2 74 (by decide +kernel) (by decide +kernel))
theorem flX5_35 : FL RX5 35 TX5 8 := (gb2 75 (by decide +kernel) (by decide +kernel))
theorem flX9_204 : FL RX9 204 TX5 8 := (gb2 76 (by decide +kernel) (by decide +kernel))
theorem flX5_38 : FL RX5 38 TX5 9 := (gb2 77 (by decide +kernel) (by decide +kernel))
theorem flX9_232 : FL RX9 232 TX5 9 := (gb2 78 (by decide +kernel) (by decide +kernel))
theorem flX5_41 : FL RX5 41 TX5 10 := (gb2 79 (by decide +kernel) (by decide +kernel))
theorem flX9_239 : FL RX9 239 TX5 10 := (gb2 80 (by decide +kernel) (by decide +kernel))
theorem flX5_44 : FL RX5 44 TX5 11 := (gb2 81 (by decide +kernel) (by decide +kernel))
theorem flX0_45 : FL RX0 45 TX5 11 := (gb2 82 (by decide +kernel) (by decide +kernel))
theorem flX9_300 : FL RX9 300 TX5 11 := (gb2 83 (by decide +kernel) (by decide +kernel))
theorem flX5_50 : FL RX5 50 TX5 12 := (gb2 84 (by decide +kernel) (by decide +kernel))
theorem flX9_242 : FL RX9 242 TX5 12 := (gb2 85 (by decide +kernel) (by decide +kernel))
theorem flX9_12 : FL RX9 12 TX9 0 := (gb2 113 (by decide +kernel) (by decide +kernel))
theorem flX9_21 : FL RX9 21 TX9 1 := (gb2 114 (by decide +kernel) (by decide +kernel))
theorem flX9_28 : FL RX9 28 TX9 2 := (gb2 115 (by decide +kernel) (by decide +kernel))
theorem flX9_37 : FL RX9 37 TX9 3 := (gb2 116 (by decide +kernel) (by decide +kernel))
theorem flX9_46 : FL RX9 46 TX9 4 := (gb2 117 (by decide +kernel) (by decide +kernel))
theorem flX9_53 : FL RX9 53 TX9 5 := (gb2 118 (by decide +kernel) (by decide +kernel))
theorem flX9_60 : FL RX9 60 TX9 6 := (gb2 119 (by decide +kernel) (by decide +kernel))
theorem flX9_66 : FL RX9 66 TX9 7 := (gb2 120 (by decide +kernel) (by decide +kernel))
theorem flX9_73 : FL RX9 73 TX9 8 := (gb2 121 (by decide +kernel) (by decide +kernel))
theorem flX9_77 : FL RX9 77 TX9 9 := (gb2 122 (by decide +kernel) (by decide +kernel))
theorem flX9_80 : FL RX9 80 TX9 10 := (gb2 123 (by decide +kernel) (by decide +kernel))
theorem flX9_84 : FL RX9 84 TX9 11 := (gb2 124 (by decide +kernel) (by decide +kernel))
theorem flX9_87 : FL RX9 87 TX9 12 := (gb2 125 (by decide +kernel) (by decide +kernel))
theorem flX9_90 : FL RX9 90 TX9 13 := (gb2 126 (by decide +kernel) (by decide +kernel))
theorem flX10_7 : FL RX10 7 TX10 0 := (gb6 111 (by decide +kernel) (by decide +kernel))
theorem flX10_13 : FL RX10 13 TX10 1 := (gb6 112 (by decide +kernel) (by decide +kernel))
theorem flX10_16 : FL RX10 16 TX10 2 := (gb6 113 (by decide +kernel) (by decide +kernel))
theorem flX10_19 : FL RX10 19 TX10 3 := (gb6 114 (by decide +kernel) (by decide +kernel))
theorem flX10_22 : FL RX10 22 TX10 4 := (gb6 115 (by decide +kernel) (by decide +kernel))
theorem flX10_47 : FL RX10 47 TX10 5 := (gb6 116 (by decide +kernel) (by decide +kernel))
theorem flX10_36 : FL RX10 36 TX10 6 := (gb6 117 (by decide +kernel) (by decide +kernel))
theorem flX10_25 : FL RX10 25 TX10 7 := (gb6 118 (by decide +kernel) (by decide +kernel))
theorem flX10_223 : FL RX10 223 TX10 8 := (gb6 119 (by decide +kernel) (by decide +kernel))
theorem flX10_246 : FL RX10 246 TX10 9 := (gb6 120 (by decide +kernel) (by decide +kernel))
theorem flX10_243 : FL RX10 243 TX10 10 := (gb6 121 (by decide +kernel) (by decide +kernel))
theorem flX10_229 : FL RX10 229 TX10 11 := (gb6 122 (by decide +kernel) (by decide +kernel))
theorem flX10_255 : FL RX10 255 TX10 12 := (gb6 123 (by decide +kernel) (by decide +kernel))
theorem flX10_29 : FL RX10 29 TX10 13 := (gb6 124 (by decide +kernel) (by decide +kernel))
theorem flX10_343 : FL RX10 343 TX10 14 := (gb6 125 (by decide +kernel) (by decide +kernel))
theorem flX10_346 : FL RX10 346 TX10 15 := (gb6 126 (by decide +kernel) (by decide +kernel))
theorem flX10_408 : FL RX10 408 TX10 16 := (gb6 127 (by decide +kernel) (by decide +kernel))
theorem flX10_411 : FL RX10 411 TX10 17 := (gb6 128 (by decide +kernel) (by decide +kernel))
theorem flX10_33 : FL RX10 33 TX10 18 := (gb6 129 (by decide +kernel) (by decide +kernel))
theorem flX10_424 : FL RX10 424 TX10 19 := (gb6 130 (by decide +kernel) (by decide +kernel))
theorem coX5_58 : .constant RX5 58 1000000 ∈ bigw := (gb2 58 (by decide +kernel) (by decide +kernel))
theorem coX6_106 : .constant RX6 106 1000000 ∈ bigw := (gb3 41 (by decide +kernel) (by decide +kernel))
theorem coX3_61 : .constant RX3 61 9999999 ∈ bigw := (gb3 132 (by decide +kernel) (by decide +kernel))
theorem coX5_183 : .constant RX5 183 1000000000 ∈ bigw := (gb3 218 (by decide +kernel) (by decide +kernel))
theorem coX9_389 : .constant RX9 389 1000000 ∈ bigw := (gb4 2 (by decide +kernel) (by decide +kernel))
theorem coX4_30 : .constant RX4 30 1000000000 ∈ bigw := (gb4 64 (by decide +kernel) (by decide +kernel))
theorem coX5_70 : .constantLong RX5 70 1000000 ∈ bigw := (gb3 73 (by decide +kernel) (by decide +kernel))
theorem coX5_159 : .constantLong RX5 159 10 ∈ bigw := (gb4 28 (by decide +kernel) (by decide +kernel))
theorem coX5_161 : .constantLong RX5 161 9 ∈ bigw := (gb4 29 (by decide +kernel) (by decide +kernel))
theorem coX10_43 : .constantLong RX10 43 1000000 ∈ bigw := (gb6 230 (by decide +kernel) (by decide +kernel))
theorem coX10_45 : .constantLong RX10 45 999 ∈ bigw := (gb7 66 (by decide +kernel) (by decide +kernel))
theorem coX10_106 : .constantLong RX10 106 1000000000 ∈ bigw := (gb7 91 (by decide +kernel) (by decide +kernel))
theorem coX10_197 : .constantLong RX10 197 9999 ∈ bigw := (gb7 147 (by decide +kernel) (by decide +kernel))
theorem coX10_199 : .constantLong RX10 199 2 ∈ bigw := (gb7 163 (by decide +kernel) (by decide +kernel))
theorem coX10_201 : .constantLong RX10 201 998 ∈ bigw := (gb7 164 (by decide +kernel) (by decide +kernel))
theorem coX10_207 : .constantLong RX10 207 10 ∈ bigw := (gb7 177 (by decide +kernel) (by decide +kernel))
theorem coX10_209 : .constantLong RX10 209 9 ∈ bigw := (gb7 178 (by decide +kernel) (by decide +kernel))
theorem coX10_235 : .constantLong RX10 235 97 ∈ bigw := (gb7 214 (by decide +kernel) (by decide +kernel))
theorem coX10_237 : .constantLong RX10 237 122 ∈ bigw := (gb7 215 (by decide +kernel) (by decide +kernel))
theorem coX10_239 : .constantLong RX10 239 48 ∈ bigw := (gb7 220 (by decide +kernel) (by decide +kernel))
theorem coX10_241 : .constantLong RX10 241 57 ∈ bigw := (gb7 221 (by decide +kernel) (by decide +kernel))
theorem coX10_352 : .constantLong RX10 352 9999999 ∈ bigw := (gb8 70 (by decide +kernel) (by decide +kernel))
theorem coX10_360 : .constantLong RX10 360 7 ∈ bigw := (gb8 79 (by decide +kernel) (by decide +kernel))
theorem coX10_362 : .constantLong RX10 362 6 ∈ bigw := (gb8 84 (by decide +kernel) (by decide +kernel))
theorem coX10_373 : .constantLong RX10 373 3 ∈ bigw := (gb8 117 (by decide +kernel) (by decide +kernel))
set_option maxRecDepth 100000 in
theorem mc_X9_parseSystem : .code yX9_parseSystem cX9_parseSystem 2 (some .int) ∈ bigw := (gb2 159 rfl (by decide +kernel))
theorem mi_X9_parseSystem : .initialized (yX9_parseSystem : MethodName).cls ∈ bigw := (gb1 1 (by decide +kernel) (by decide +kernel))
theorem ms_X9_parseSystem : .instanceMethod yX9_parseSystem ∈ bigw ∧ .selects (yX9_parseSystem : MethodName).cls yX9_parseSystem yX9_parseSystem ∈ bigw := ⟨(gb2 157 (by decide +kernel) (by decide +kernel)), (gb2 158 (by decide +kernel) (by decide +kernel))⟩
theorem lkL_171 : LKV RL 171 yX9_parseSystem cX9_parseSystem 2 (some .int) 0 := ⟨⟨(gb2 156 (by decide +kernel) (by decide +kernel)), mc_X9_parseSystem, mi_X9_parseSystem, by decide, by decide +kernel⟩, ms_X9_parseSystem.1, ms_X9_parseSystem.2⟩
set_option maxRecDepth 100000 in
theorem mc_X6_parse : .code yX6_parse cX6_parse 4 (some .boolean) ∈ bigw := (gb2 163 rfl (by decide +kernel))
theorem mi_X6_parse : .initialized (yX6_parse : MethodName).cls ∈ bigw := (gb1 5 (by decide +kernel) (by decide +kernel))
theorem ms_X6_parse : .instanceMethod yX6_parse ∈ bigw ∧ .selects (yX6_parse : MethodName).cls yX6_parse yX6_parse ∈ bigw := ⟨(gb2 161 (by decide +kernel) (by decide +kernel)), (gb2 162 (by decide +kernel) (by decide +kernel))⟩
theorem lkX9_106 : LKV RX9 106 yX6_parse cX6_parse 4 (some .boolean) 0 := ⟨⟨(gb2 160 (by decide +kernel) (by decide +kernel)), mc_X6_parse, mi_X6_parse, by decide, by decide +kernel⟩, ms_X6_parse.1, ms_X6_parse.2⟩
set_option maxRecDepth 100000 in
theorem mc_X1_clear : .code yX1_clear cX1_clear 1 none ∈ bigw := (gb2 167 rfl (by decide +kernel))
theorem mi_X1_clear : .initialized (yX1_clear : MethodName).cls ∈ bigw := (gb1 4 (by decide +kernel) (by decide +kernel))
theorem ms_X1_clear : .instanceMethod yX1_clear ∈ bigw ∧ .selects (yX1_clear : MethodName).cls yX1_clear yX1_clear ∈ bigw := ⟨(gb2 165 (by decide +kernel) (by decide +kernel)), (gb2 166 (by decide +kernel) (by decide +kernel))⟩
theorem lkX6_22 : LKV RX6 22 yX1_clear cX1_clear 1 none 0 := ⟨⟨(gb2 164 (by decide +kernel) (by decide +kernel)), mc_X1_clear, mi_X1_clear, by decide, by decide +kernel⟩, ms_X1_clear.1, ms_X1_clear.2⟩
set_option maxRecDepth 100000 in
theorem mc_X2_begin : .code yX2_begin cX2_begin 1 none ∈ bigw := (gb2 171 rfl (by decide +kernel))
theorem mi_X2_begin : .initialized (yX2_begin : MethodName).cls ∈ bigw := (gb1 3 (by decide +kernel) (by decide +kernel))
theorem ms_X2_begin : .instanceMethod yX2_begin ∈ bigw ∧ .selects (yX2_begin : MethodName).cls yX2_begin yX2_begin ∈ bigw := ⟨(gb2 169 (by decide +kernel) (by decide +kernel)), (gb2 170 (by decide +kernel) (by decide +kernel))⟩
theorem lkX6_25 : LKV RX6 25 yX2_begin cX2_begin 1 none 0 := ⟨⟨(gb2 168 (by decide +kernel) (by decide +kernel)), mc_X2_begin, mi_X2_begin, by decide, by decide +kernel⟩, ms_X2_begin.1, ms_X2_begin.2⟩
set_option maxRecDepth 100000 in
theorem mc_X2_advance : .code yX2_advance cX2_advance 2 none ∈ bigw := (gb2 175 rfl (by decide +kernel))
theorem mi_X2_advance : .initialized (yX2_advance : MethodName).cls ∈ bigw := (gb1 3 (by decide +kernel) (by decide +kernel))
theorem ms_X2_advance : .instanceMethod yX2_advance ∈ bigw ∧ .selects (yX2_advance : MethodName).cls yX2_advance yX2_advance ∈ bigw := ⟨(gb2 173 (by decide +kernel) (by decide +kernel)), (gb2 174 (by decide +kernel) (by decide +kernel))⟩
theorem lkX2_34 : LKV RX2 34 yX2_advance cX2_advance 2 none 0 := ⟨⟨(gb2 172 (by decide +kernel) (by decide +kernel)), mc_X2_advance, mi_X2_advance, by decide, by decide +kernel⟩, ms_X2_advance.1, ms_X2_advance.2⟩
set_option maxRecDepth 100000 in
theorem mc_X8_byteAt : .code yX8_byteAt cX8_byteAt 2 (some .int) ∈ bigw := (gb2 179 rfl (by decide +kernel))
theorem mi_X8_byteAt : .initialized (yX8_byteAt : MethodName).cls ∈ bigw := (gb1 2 (by decide +kernel) (by decide +kernel))
theorem ms_X8_byteAt : .instanceMethod yX8_byteAt ∈ bigw ∧ .selects (yX8_byteAt : MethodName).cls yX8_byteAt yX8_byteAt ∈ bigw := ⟨(gb2 177 (by decide +kernel) (by decide +kernel)), (gb2 178 (by decide +kernel) (by decide +kernel))⟩
theorem lkX2_42 : LKV RX2 42 yX8_byteAt cX8_byteAt 2 (some .int) 1 := ⟨⟨(gb2 176 (by decide +kernel) (by decide +kernel)), mc_X8_byteAt, mi_X8_byteAt, by decide, by decide +kernel⟩, ms_X8_byteAt.1, ms_X8_byteAt.2⟩
set_option maxRecDepth 100000 in
theorem mc_X2_kindOf : .code yX2_kindOf cX2_kindOf 1 (some .int) ∈ bigw := (gb2 182 rfl (by decide +kernel))
theorem mi_X2_kindOf : .initialized (yX2_kindOf : MethodName).cls ∈ bigw := (gb1 3 (by decide +kernel) (by decide +kernel))
theorem ms_X2_kindOf : .static yX2_kindOf ∈ bigw := (gb2 181 (by decide +kernel) (by decide +kernel))
theorem lkX2_46 : LKS RX2 46 yX2_kindOf cX2_kindOf 1 (some .int) 1 := ⟨⟨(gb2 180 (by decide +kernel) (by decide +kernel)), mc_X2_kindOf, mi_X2_kindOf, by decide, by decide +kernel⟩, ms_X2_kindOf⟩
set_option maxRecDepth 100000 in
theorem mc_Math_min : .code Lib.Math.min.name Lib.Math.min.code 2 (some .int) ∈ bigw := (gb2 185 rfl (by decide +kernel))
theorem mi_Math_min : .initialized (Lib.Math.min.name : MethodName).cls ∈ bigw := (gb1 17 (by decide +kernel) (by decide +kernel))
theorem ms_Math_min : .static Lib.Math.min.name ∈ bigw := (gb2 184 (by decide +kernel) (by decide +kernel))
theorem lkX2_49 : LKS RX2 49 Lib.Math.min.name Lib.Math.min.code 2 (some .int) 2 := ⟨⟨(gb2 183 (by decide +kernel) (by decide +kernel)), mc_Math_min, mi_Math_min, by decide, by decide +kernel⟩, ms_Math_min⟩
set_option maxRecDepth 100000 in
theorem mc_X6_section : .code yX6_section cX6_section 1 (some .int) ∈ bigw := (gb2 189 rfl (by decide +kernel))
theorem mi_X6_section : .initialized (yX6_section : MethodName).cls ∈ bigw := (gb1 5 (by decide +kernel) (by decide +kernel))
theorem ms_X6_section : .instanceMethod yX6_section ∈ bigw ∧ .selects (yX6_section : MethodName).cls yX6_section yX6_section ∈ bigw := ⟨(gb2 188 (by decide +kernel) (by decide +kernel)), (gb0 0 (by decide +kernel) (by decide +kernel))⟩
theorem lkX6_37 : LKV RX6 37 yX6_section cX6_section 1 (some .int) 0 := ⟨⟨(gb2 186 (by decide +kernel) (by decide +kernel)), mc_X6_section, mi_X6_section, by decide, by decide +kernel⟩, ms_X6_section.1, ms_X6_section.2⟩
set_option maxRecDepth 100000 in
theorem mc_X2_isWord : .code yX2_isWord cX2_isWord 3 (some .boolean) ∈ bigw := (gb2 194 rfl (by decide +kernel))
theorem mi_X2_isWord : .initialized (yX2_isWord : MethodName).cls ∈ bigw := (gb1 3 (by decide +kernel) (by decide +kernel))
theorem ms_X2_isWord : .instanceMethod yX2_isWord ∈ bigw ∧ .selects (yX2_isWord : MethodName).cls yX2_isWord yX2_isWord ∈ bigw := ⟨(gb2 192 (by decide +kernel) (by decide +kernel)), (gb2 193 (by decide +kernel) (by decide +kernel))⟩
theorem lkX6_72 : LKV RX6 72 yX2_isWord cX2_isWord 3 (some .boolean) 1 := ⟨⟨(gb2 191 (by decide +kernel) (by decide +kernel)), mc_X2_isWord, mi_X2_isWord, by decide, by decide +kernel⟩, ms_X2_isWord.1, ms_X2_isWord.2⟩
set_option maxRecDepth 100000 in
theorem mc_String_length : .code ⟨"java/lang/String", "length", "()I"⟩ prog_22_method_54_code 1 (some .int) ∈ bigw := (gb2 198 rfl (by decide +kernel))
theorem mi_String_length : .initialized (⟨"java/lang/String", "length", "()I"⟩ : MethodName).cls ∈ bigw := (gb1 18 (by decide +kernel) (by decide +kernel))
theorem ms_String_length : .instanceMethod ⟨"java/lang/String", "length", "()I"⟩ ∈ bigw ∧ .selects (⟨"java/lang/String", "length", "()I"⟩ : MethodName).cls ⟨"java/lang/String", "length", "()I"⟩ ⟨"java/lang/String", "length", "()I"⟩ ∈ bigw := ⟨(gb2 196 (by decide +kernel) (by decide +kernel)), (gb2 197 (by decide +kernel) (by decide +kernel))⟩
theorem lkX2_55 : LKV RX2 55 ⟨"java/lang/String", "length", "()I"⟩ prog_22_method_54_code 1 (some .int) 0 := ⟨⟨(gb2 195 (by decide +kernel) (by decide +kernel)), mc_String_length, mi_String_length, by decide, by decide +kernel⟩, ms_String_length.1, ms_String_length.2⟩
set_option maxRecDepth 100000 in
theorem mc_String_charAt : .code ⟨"java/lang/String", "charAt", "(I)C"⟩ prog_22_method_56_code 2 (some .char) ∈ bigw := (gb2 208 rfl (by decide +kernel))
theorem mi_String_charAt : .initialized (⟨"java/lang/String", "charAt", "(I)C"⟩ : MethodName).cls ∈ bigw := (gb1 18 (by decide +kernel) (by decide +kernel))
theorem ms_String_charAt : .instanceMethod ⟨"java/lang/String", "charAt", "(I)C"⟩ ∈ bigw ∧ .selects (⟨"java/lang/String", "charAt", "(I)C"⟩ : MethodName).cls ⟨"java/lang/String", "charAt", "(I)C"⟩ ⟨"java/lang/String", "charAt", "(I)C"⟩ ∈ bigw := ⟨(gb2 206 (by decide +kernel) (by decide +kernel)), (gb2 207 (by decide +kernel) (by decide +kernel))⟩
theorem lkX2_60 : LKV RX2 60 ⟨"java/lang/String", "charAt", "(I)C"⟩ prog_22_method_56_code 2 (some .char) 1 := ⟨⟨(gb2 205 (by decide +kernel) (by decide +kernel)), mc_String_charAt, mi_String_charAt, by decide, by decide +kernel⟩, ms_String_charAt.1, ms_String_charAt.2⟩
set_option maxRecDepth 100000 in
theorem mc_X2_fail : .code yX2_fail cX2_fail 3 none ∈ bigw := (gb3 9 rfl (by decide +kernel))
theorem mi_X2_fail : .initialized (yX2_fail : MethodName).cls ∈ bigw := (gb1 3 (by decide +kernel) (by decide +kernel))
theorem ms_X2_fail : .instanceMethod yX2_fail ∈ bigw ∧ .selects (yX2_fail : MethodName).cls yX2_fail yX2_fail ∈ bigw := ⟨(gb3 7 (by decide +kernel) (by decide +kernel)), (gb3 8 (by decide +kernel) (by decide +kernel))⟩
theorem lkX6_47 : LKV RX6 47 yX2_fail cX2_fail 3 none 2 := ⟨⟨(gb3 6 (by decide +kernel) (by decide +kernel)), mc_X2_fail, mi_X2_fail, by decide, by decide +kernel⟩, ms_X2_fail.1, ms_X2_fail.2⟩
set_option maxRecDepth 100000 in
theorem mc_X6_isFull : .code yX6_isFull cX6_isFull 2 (some .boolean) ∈ bigw := (gb3 13 rfl (by decide +kernel))
theorem mi_X6_isFull : .initialized (yX6_isFull : MethodName).cls ∈ bigw := (gb1 5 (by decide +kernel) (by decide +kernel))
theorem ms_X6_isFull : .instanceMethod yX6_isFull ∈ bigw ∧ .selects (yX6_isFull : MethodName).cls yX6_isFull yX6_isFull ∈ bigw := ⟨(gb3 12 (by decide +kernel) (by decide +kernel)), (gb0 1 (by decide +kernel) (by decide +kernel))⟩
theorem lkX6_51 : LKV RX6 51 yX6_isFull cX6_isFull 2 (some .boolean) 1 := ⟨⟨(gb3 10 (by decide +kernel) (by decide +kernel)), mc_X6_isFull, mi_X6_isFull, by decide, by decide +kernel⟩, ms_X6_isFull.1, ms_X6_isFull.2⟩
theorem lkX6_55 : LKV RX6 55 yX2_advance cX2_advance 2 none 0 := ⟨⟨(gb3 14 (by decide +kernel) (by decide +kernel)), mc_X2_advance, mi_X2_advance, by decide, by decide +kernel⟩, ms_X2_advance.1, ms_X2_advance.2⟩
set_option maxRecDepth 100000 in
theorem mc_X6_readChamber : .code yX6_readChamber cX6_readChamber 4 none ∈ bigw := (gb3 18 rfl (by decide +kernel))
theorem mi_X6_readChamber : .initialized (yX6_readChamber : MethodName).cls ∈ bigw := (gb1 5 (by decide +kernel) (by decide +kernel))
theorem ms_X6_readChamber : .instanceMethod yX6_readChamber ∈ bigw ∧ .selects (yX6_readChamber : MethodName).cls yX6_readChamber yX6_readChamber ∈ bigw := ⟨(gb3 17 (by decide +kernel) (by decide +kernel)), (gb0 2 (by decide +kernel) (by decide +kernel))⟩
theorem lkX6_58 : LKV RX6 58 yX6_readChamber cX6_readChamber 4 none 0 := ⟨⟨(gb3 15 (by decide +kernel) (by decide +kernel)), mc_X6_readChamber, mi_X6_readChamber, by decide, by decide +kernel⟩, ms_X6_readChamber.1, ms_X6_readChamber.2⟩
set_option maxRecDepth 100000 in
theorem mc_X2_readNumber : .code yX2_readNumber cX2_readNumber 4 (some .int) ∈ bigw := (gb3 22 rfl (by decide +kernel))
theorem mi_X2_readNumber : .initialized (yX2_readNumber : MethodName).cls ∈ bigw := (gb1 3 (by decide +kernel) (by decide +kernel))
theorem ms_X2_readNumber : .instanceMethod yX2_readNumber ∈ bigw ∧ .selects (yX2_readNumber : MethodName).cls yX2_readNumber yX2_readNumber ∈ bigw := ⟨(gb3 20 (by decide +kernel) (by decide +kernel)), (gb3 21 (by decide +kernel) (by decide +kernel))⟩
theorem lkX6_91 : LKV RX6 91 yX2_readNumber cX2_readNumber 4 (some .int) 2 := ⟨⟨(gb3 19 (by decide +kernel) (by decide +kernel)), mc_X2_readNumber, mi_X2_readNumber, by decide, by decide +kernel⟩, ms_X2_readNumber.1, ms_X2_readNumber.2⟩
theorem lkX2_64 : LKV RX2 64 yX2_fail cX2_fail 3 none 2 := ⟨⟨(gb3 23 (by decide +kernel) (by decide +kernel)), mc_X2_fail, mi_X2_fail, by decide, by decide +kernel⟩, ms_X2_fail.1, ms_X2_fail.2⟩
set_option maxRecDepth 100000 in
theorem mc_X2_readSemicolon : .code yX2_readSemicolon cX2_readSemicolon 1 none ∈ bigw := (gb3 27 rfl (by decide +kernel))
theorem mi_X2_readSemicolon : .initialized (yX2_readSemicolon : MethodName).cls ∈ bigw := (gb1 3 (by decide +kernel) (by decide +kernel))
theorem ms_X2_readSemicolon : .instanceMethod yX2_readSemicolon ∈ bigw ∧ .selects (yX2_readSemicolon : MethodName).cls yX2_readSemicolon yX2_readSemicolon ∈ bigw := ⟨(gb3 25 (by decide +kernel) (by decide +kernel)), (gb3 26 (by decide +kernel) (by decide +kernel))⟩
theorem lkX6_95 : LKV RX6 95 yX2_readSemicolon cX2_readSemicolon 1 none 0 := ⟨⟨(gb3 24 (by decide +kernel) (by decide +kernel)), mc_X2_readSemicolon, mi_X2_readSemicolon, by decide, by decide +kernel⟩, ms_X2_readSemicolon.1, ms_X2_readSemicolon.2⟩
set_option maxRecDepth 100000 in
theorem mc_X1_addChamber : .code yX1_addChamber cX1_addChamber 4 none ∈ bigw := (gb3 31 rfl (by decide +kernel))
theorem mi_X1_addChamber : .initialized (yX1_addChamber : MethodName).cls ∈ bigw := (gb1 4 (by decide +kernel) (by decide +kernel))
theorem ms_X1_addChamber : .instanceMethod yX1_addChamber ∈ bigw ∧ .selects (yX1_addChamber : MethodName).cls yX1_addChamber yX1_addChamber ∈ bigw := ⟨(gb3 29 (by decide +kernel) (by decide +kernel)), (gb3 30 (by decide +kernel) (by decide +kernel))⟩
theorem lkX6_98 : LKV RX6 98 yX1_addChamber cX1_addChamber 4 none 3 := ⟨⟨(gb3 28 (by decide +kernel) (by decide +kernel)), mc_X1_addChamber, mi_X1_addChamber, by decide, by decide +kernel⟩, ms_X1_addChamber.1, ms_X1_addChamber.2⟩
set_option maxRecDepth 100000 in
theorem mc_X6_readPump : .code yX6_readPump cX6_readPump 7 none ∈ bigw := (gb3 35 rfl (by decide +kernel))
theorem mi_X6_readPump : .initialized (yX6_readPump : MethodName).cls ∈ bigw := (gb1 5 (by decide +kernel) (by decide +kernel))
theorem ms_X6_readPump : .instanceMethod yX6_readPump ∈ bigw ∧ .selects (yX6_readPump : MethodName).cls yX6_readPump yX6_readPump ∈ bigw := ⟨(gb3 34 (by decide +kernel) (by decide +kernel)), (gb0 3 (by decide +kernel) (by decide +kernel))⟩
theorem lkX6_61 : LKV RX6 61 yX6_readPump cX6_readPump 7 none 0 := ⟨⟨(gb3 32 (by decide +kernel) (by decide +kernel)), mc_X6_readPump, mi_X6_readPump, by decide, by decide +kernel⟩, ms_X6_readPump.1, ms_X6_readPump.2⟩
set_option maxRecDepth 100000 in
theorem mc_X6_readOtherSide : .code yX6_readOtherSide cX6_readOtherSide 4 (some .int) ∈ bigw := (gb3 39 rfl (by decide +kernel))
theorem mi_X6_readOtherSide : .initialized (yX6_readOtherSide : MethodName).cls ∈ bigw := (gb1 5 (by decide +kernel) (by decide +kernel))
theorem ms_X6_readOtherSide : .instanceMethod yX6_readOtherSide ∈ bigw ∧ .selects (yX6_readOtherSide : MethodName).cls yX6_readOtherSide yX6_readOtherSide ∈ bigw := ⟨(gb3 38 (by decide +kernel) (by decide +kernel)), (gb0 4 (by decide +kernel) (by decide +kernel))⟩
theorem lkX6_102 : LKV RX6 102 yX6_readOtherSide cX6_readOtherSide 4 (some .int) 1 := ⟨⟨(gb3 36 (by decide +kernel) (by decide +kernel)), mc_X6_readOtherSide, mi_X6_readOtherSide, by decide, by decide +kernel⟩, ms_X6_readOtherSide.1, ms_X6_readOtherSide.2⟩
set_option maxRecDepth 100000 in
theorem mc_X1_addPump : .code yX1_addPump cX1_addPump 7 none ∈ bigw := (gb3 45 rfl (by decide +kernel))
theorem mi_X1_addPump : .initialized (yX1_addPump : MethodName).cls ∈ bigw := (gb1 4 (by decide +kernel) (by decide +kernel))
theorem ms_X1_addPump : .instanceMethod yX1_addPump ∈ bigw ∧ .selects (yX1_addPump : MethodName).cls yX1_addPump yX1_addPump ∈ bigw := ⟨(gb3 43 (by decide +kernel) (by decide +kernel)), (gb3 44 (by decide +kernel) (by decide +kernel))⟩
theorem lkX6_107 : LKV RX6 107 yX1_addPump cX1_addPump 7 none 6 := ⟨⟨(gb3 42 (by decide +kernel) (by decide +kernel)), mc_X1_addPump, mi_X1_addPump, by decide, by decide +kernel⟩, ms_X1_addPump.1, ms_X1_addPump.2⟩
set_option maxRecDepth 100000 in
theorem mc_X6_readValve : .code yX6_readValve cX6_readValve 5 none ∈ bigw := (gb3 49 rfl (by decide +kernel))
theorem mi_X6_readValve : .initialized (yX6_readValve : MethodName).cls ∈ bigw := (gb1 5 (by decide +kernel) (by decide +kernel))
theorem ms_X6_readValve : .instanceMethod yX6_readValve ∈ bigw ∧ .selects (yX6_readValve : MethodName).cls yX6_readValve yX6_readValve ∈ bigw := ⟨(gb3 48 (by decide +kernel) (by decide +kernel)), (gb0 5 (by decide +kernel) (by decide +kernel))⟩
theorem lkX6_64 : LKV RX6 64 yX6_readValve cX6_readValve 5 none 0 := ⟨⟨(gb3 46 (by decide +kernel) (by decide +kernel)), mc_X6_readValve, mi_X6_readValve, by decide, by decide +kernel⟩, ms_X6_readValve.1, ms_X6_readValve.2⟩
set_option maxRecDepth 100000 in
theorem mc_X1_addValve : .code yX1_addValve cX1_addValve 5 none ∈ bigw := (gb3 53 rfl (by decide +kernel))
theorem mi_X1_addValve : .initialized (yX1_addValve : MethodName).cls ∈ bigw := (gb1 4 (by decide +kernel) (by decide +kernel))
theorem ms_X1_addValve : .instanceMethod yX1_addValve ∈ bigw ∧ .selects (yX1_addValve : MethodName).cls yX1_addValve yX1_addValve ∈ bigw := ⟨(gb3 51 (by decide +kernel) (by decide +kernel)), (gb3 52 (by decide +kernel) (by decide +kernel))⟩
theorem lkX6_111 : LKV RX6 111 yX1_addValve cX1_addValve 5 none 4 := ⟨⟨(gb3 50 (by decide +kernel) (by decide +kernel)), mc_X1_addValve, mi_X1_addValve, by decide, by decide +kernel⟩, ms_X1_addValve.1, ms_X1_addValve.2⟩
set_option maxRecDepth 100000 in
theorem mc_X6_readFlange : .code yX6_readFlange cX6_readFlange 3 none ∈ bigw := (gb3 57 rfl (by decide +kernel))
theorem mi_X6_readFlange : .initialized (yX6_readFlange : MethodName).cls ∈ bigw := (gb1 5 (by decide +kernel) (by decide +kernel))
theorem ms_X6_readFlange : .instanceMethod yX6_readFlange ∈ bigw ∧ .selects (yX6_readFlange : MethodName).cls yX6_readFlange yX6_readFlange ∈ bigw := ⟨(gb3 56 (by decide +kernel) (by decide +kernel)), (gb0 6 (by decide +kernel) (by decide +kernel))⟩
theorem lkX6_67 : LKV RX6 67 yX6_readFlange cX6_readFlange 3 none 0 := ⟨⟨(gb3 54 (by decide +kernel) (by decide +kernel)), mc_X6_readFlange, mi_X6_readFlange, by decide, by decide +kernel⟩, ms_X6_readFlange.1, ms_X6_readFlange.2⟩
set_option maxRecDepth 100000 in
theorem mc_X1_addFlange : .code yX1_addFlange cX1_addFlange 3 none ∈ bigw := (gb3 61 rfl (by decide +kernel))
theorem mi_X1_addFlange : .initialized (yX1_addFlange : MethodName).cls ∈ bigw := (gb1 4 (by decide +kernel) (by decide +kernel))
theorem ms_X1_addFlange : .instanceMethod yX1_addFlange ∈ bigw ∧ .selects (yX1_addFlange : MethodName).cls yX1_addFlange yX1_addFlange ∈ bigw := ⟨(gb3 59 (by decide +kernel) (by decide +kernel)), (gb3 60 (by decide +kernel) (by decide +kernel))⟩
theorem lkX6_115 : LKV RX6 115 yX1_addFlange cX1_addFlange 3 none 2 := ⟨⟨(gb3 58 (by decide +kernel) (by decide +kernel)), mc_X1_addFlange, mi_X1_addFlange, by decide, by decide +kernel⟩, ms_X1_addFlange.1, ms_X1_addFlange.2⟩
set_option maxRecDepth 100000 in
theorem mc_X1_copyFrom : .code yX1_copyFrom cX1_copyFrom 2 none ∈ bigw := (gb3 65 rfl (by decide +kernel))
theorem mi_X1_copyFrom : .initialized (yX1_copyFrom : MethodName).cls ∈ bigw := (gb1 4 (by decide +kernel) (by decide +kernel))
theorem ms_X1_copyFrom : .instanceMethod yX1_copyFrom ∈ bigw ∧ .selects (yX1_copyFrom : MethodName).cls yX1_copyFrom yX1_copyFrom ∈ bigw := ⟨(gb3 63 (by decide +kernel) (by decide +kernel)), (gb3 64 (by decide +kernel) (by decide +kernel))⟩
theorem lkX9_119 : LKV RX9 119 yX1_copyFrom cX1_copyFrom 2 none 1 := ⟨⟨(gb3 62 (by decide +kernel) (by decide +kernel)), mc_X1_copyFrom, mi_X1_copyFrom, by decide, by decide +kernel⟩, ms_X1_copyFrom.1, ms_X1_copyFrom.2⟩
theorem lkX1_70 : LKA RX1 70 := ⟨(gb3 66 (by decide +kernel) (by decide +kernel)), (gb3 68 (by decide +kernel) (by decide +kernel)), (gb3 67 (by decide +kernel) (by decide +kernel)), (gb1 22 (by decide +kernel) (by decide +kernel))⟩
set_option maxRecDepth 100000 in
theorem mc_X5_reset : .code yX5_reset cX5_reset 2 none ∈ bigw := (gb3 72 rfl (by decide +kernel))
theorem mi_X5_reset : .initialized (yX5_reset : MethodName).cls ∈ bigw := (gb1 9 (by decide +kernel) (by decide +kernel))
theorem ms_X5_reset : .instanceMethod yX5_reset ∈ bigw ∧ .selects (yX5_reset : MethodName).cls yX5_reset yX5_reset ∈ bigw := ⟨(gb3 70 (by decide +kernel) (by decide +kernel)), (gb3 71 (by decide +kernel) (by decide +kernel))⟩
theorem lkX9_122 : LKV RX9 122 yX5_reset cX5_reset 2 none 0 := ⟨⟨(gb3 69 (by decide +kernel) (by decide +kernel)), mc_X5_reset, mi_X5_reset, by decide, by decide +kernel⟩, ms_X5_reset.1, ms_X5_reset.2⟩
set_option maxRecDepth 100000 in
theorem mc_X5_addGas : .code yX5_addGas cX5_addGas 5 none ∈ bigw := (gb3 77 rfl (by decide +kernel))
theorem mi_X5_addGas : .initialized (yX5_addGas : MethodName).cls ∈ bigw := (gb1 9 (by decide +kernel) (by decide +kernel))
theorem ms_X5_addGas : .instanceMethod yX5_addGas ∈ bigw ∧ .selects (yX5_addGas : MethodName).cls yX5_addGas yX5_addGas ∈ bigw := ⟨(gb3 76 (by decide +kernel) (by decide +kernel)), (gb0 7 (by decide +kernel) (by decide +kernel))⟩
theorem lkX5_72 : LKV RX5 72 yX5_addGas cX5_addGas 5 none 2 := ⟨⟨(gb3 74 (by decide +kernel) (by decide +kernel)), mc_X5_addGas, mi_X5_addGas, by decide, by decide +kernel⟩, ms_X5_addGas.1, ms_X5_addGas.2⟩
set_option maxRecDepth 100000 in
theorem mc_X5_putLeak : .code yX5_putLeak cX5_putLeak 3 none ∈ bigw := (gb3 81 rfl (by decide +kernel))
theorem mi_X5_putLeak : .initialized (yX5_putLeak : MethodName).cls ∈ bigw := (gb1 9 (by decide +kernel) (by decide +kernel))
theorem ms_X5_putLeak : .instanceMethod yX5_putLeak ∈ bigw ∧ .selects (yX5_putLeak : MethodName).cls yX5_putLeak yX5_putLeak ∈ bigw := ⟨(gb3 79 (by decide +kernel) (by decide +kernel)), (gb3 80 (by decide +kernel) (by decide +kernel))⟩
theorem lkX5_94 : LKV RX5 94 yX5_putLeak cX5_putLeak 3 none 2 := ⟨⟨(gb3 78 (by decide +kernel) (by decide +kernel)), mc_X5_putLeak, mi_X5_putLeak, by decide, by decide +kernel⟩, ms_X5_putLeak.1, ms_X5_putLeak.2⟩
set_option maxRecDepth 100000 in
theorem mc_X9_errorCode : .code yX9_errorCode cX9_errorCode 1 (some .int) ∈ bigw := (gb3 85 rfl (by decide +kernel))
theorem mi_X9_errorCode : .initialized (yX9_errorCode : MethodName).cls ∈ bigw := (gb1 1 (by decide +kernel) (by decide +kernel))
theorem ms_X9_errorCode : .instanceMethod yX9_errorCode ∈ bigw ∧ .selects (yX9_errorCode : MethodName).cls yX9_errorCode yX9_errorCode ∈ bigw := ⟨(gb3 83 (by decide +kernel) (by decide +kernel)), (gb3 84 (by decide +kernel) (by decide +kernel))⟩
theorem lkL_175 : LKV RL 175 yX9_errorCode cX9_errorCode 1 (some .int) 0 := ⟨⟨(gb3 82 (by decide +kernel) (by decide +kernel)), mc_X9_errorCode, mi_X9_errorCode, by decide, by decide +kernel⟩, ms_X9_errorCode.1, ms_X9_errorCode.2⟩
set_option maxRecDepth 100000 in
theorem mc_X9_errorPosition : .code yX9_errorPosition cX9_errorPosition 1 (some .int) ∈ bigw := (gb3 89 rfl (by decide +kernel))
theorem mi_X9_errorPosition : .initialized (yX9_errorPosition : MethodName).cls ∈ bigw := (gb1 1 (by decide +kernel) (by decide +kernel))
theorem ms_X9_errorPosition : .instanceMethod yX9_errorPosition ∈ bigw ∧ .selects (yX9_errorPosition : MethodName).cls yX9_errorPosition yX9_errorPosition ∈ bigw := ⟨(gb3 87 (by decide +kernel) (by decide +kernel)), (gb3 88 (by decide +kernel) (by decide +kernel))⟩
theorem lkL_179 : LKV RL 179 yX9_errorPosition cX9_errorPosition 1 (some .int) 0 := ⟨⟨(gb3 86 (by decide +kernel) (by decide +kernel)), mc_X9_errorPosition, mi_X9_errorPosition, by decide, by decide +kernel⟩, ms_X9_errorPosition.1, ms_X9_errorPosition.2⟩
set_option maxRecDepth 100000 in
theorem mc_X9_runRecipe : .code yX9_runRecipe cX9_runRecipe 2 (some .int) ∈ bigw := (gb3 93 rfl (by decide +kernel))
theorem mi_X9_runRecipe : .initialized (yX9_runRecipe : MethodName).cls ∈ bigw := (gb1 1 (by decide +kernel) (by decide +kernel))
theorem ms_X9_runRecipe : .instanceMethod yX9_runRecipe ∈ bigw ∧ .selects (yX9_runRecipe : MethodName).cls yX9_runRecipe yX9_runRecipe ∈ bigw := ⟨(gb3 91 (by decide +kernel) (by decide +kernel)), (gb3 92 (by decide +kernel) (by decide +kernel))⟩
theorem lkL_217 : LKV RL 217 yX9_runRecipe cX9_runRecipe 2 (some .int) 0 := ⟨⟨(gb3 90 (by decide +kernel) (by decide +kernel)), mc_X9_runRecipe, mi_X9_runRecipe, by decide, by decide +kernel⟩, ms_X9_runRecipe.1, ms_X9_runRecipe.2⟩
set_option maxRecDepth 100000 in
theorem mc_X9_beginTrial : .code yX9_beginTrial cX9_beginTrial 1 none ∈ bigw := (gb3 97 rfl (by decide +kernel))
theorem mi_X9_beginTrial : .initialized (yX9_beginTrial : MethodName).cls ∈ bigw := (gb1 1 (by decide +kernel) (by decide +kernel))
theorem ms_X9_beginTrial : .instanceMethod yX9_beginTrial ∈ bigw ∧ .selects (yX9_beginTrial : MethodName).cls yX9_beginTrial yX9_beginTrial ∈ bigw := ⟨(gb3 96 (by decide +kernel) (by decide +kernel)), (gb0 8 (by decide +kernel) (by decide +kernel))⟩
theorem lkX9_139 : LKV RX9 139 yX9_beginTrial cX9_beginTrial 1 none 0 := ⟨⟨(gb3 94 (by decide +kernel) (by decide +kernel)), mc_X9_beginTrial, mi_X9_beginTrial, by decide, by decide +kernel⟩, ms_X9_beginTrial.1, ms_X9_beginTrial.2⟩
set_option maxRecDepth 100000 in
theorem mc_X5_copyFrom : .code yX5_copyFrom cX5_copyFrom 2 none ∈ bigw := (gb3 101 rfl (by decide +kernel))
theorem mi_X5_copyFrom : .initialized (yX5_copyFrom : MethodName).cls ∈ bigw := (gb1 9 (by decide +kernel) (by decide +kernel))
theorem ms_X5_copyFrom : .instanceMethod yX5_copyFrom ∈ bigw ∧ .selects (yX5_copyFrom : MethodName).cls yX5_copyFrom yX5_copyFrom ∈ bigw := ⟨(gb3 99 (by decide +kernel) (by decide +kernel)), (gb3 100 (by decide +kernel) (by decide +kernel))⟩
theorem lkX9_382 : LKV RX9 382 yX5_copyFrom cX5_copyFrom 2 none 1 := ⟨⟨(gb3 98 (by decide +kernel) (by decide +kernel)), mc_X5_copyFrom, mi_X5_copyFrom, by decide, by decide +kernel⟩, ms_X5_copyFrom.1, ms_X5_copyFrom.2⟩
theorem lkX5_98 : LKA RX5 98 := ⟨(gb3 102 (by decide +kernel) (by decide +kernel)), (gb3 68 (by decide +kernel) (by decide +kernel)), (gb3 67 (by decide +kernel) (by decide +kernel)), (gb1 22 (by decide +kernel) (by decide +kernel))⟩
set_option maxRecDepth 100000 in
theorem mc_X7_copyFrom : .code yX7_copyFrom cX7_copyFrom 2 none ∈ bigw := (gb3 106 rfl (by decide +kernel))
theorem mi_X7_copyFrom : .initialized (yX7_copyFrom : MethodName).cls ∈ bigw := (gb1 10 (by decide +kernel) (by decide +kernel))
theorem ms_X7_copyFrom : .instanceMethod yX7_copyFrom ∈ bigw ∧ .selects (yX7_copyFrom : MethodName).cls yX7_copyFrom yX7_copyFrom ∈ bigw := ⟨(gb3 104 (by decide +kernel) (by decide +kernel)), (gb3 105 (by decide +kernel) (by decide +kernel))⟩
theorem lkX5_104 : LKV RX5 104 yX7_copyFrom cX7_copyFrom 2 none 1 := ⟨⟨(gb3 103 (by decide +kernel) (by decide +kernel)), mc_X7_copyFrom, mi_X7_copyFrom, by decide, by decide +kernel⟩, ms_X7_copyFrom.1, ms_X7_copyFrom.2⟩
theorem lkX7_24 : LKA RX7 24 := ⟨(gb3 107 (by decide +kernel) (by decide +kernel)), (gb3 68 (by decide +kernel) (by decide +kernel)), (gb3 67 (by decide +kernel) (by decide +kernel)), (gb1 22 (by decide +kernel) (by decide +kernel))⟩
set_option maxRecDepth 100000 in
theorem mc_X3_run : .code yX3_run cX3_run 6 (some .int) ∈ bigw := (gb3 111 rfl (by decide +kernel))
theorem mi_X3_run : .initialized (yX3_run : MethodName).cls ∈ bigw := (gb1 6 (by decide +kernel) (by decide +kernel))
theorem ms_X3_run : .instanceMethod yX3_run ∈ bigw ∧ .selects (yX3_run : MethodName).cls yX3_run yX3_run ∈ bigw := ⟨(gb3 109 (by decide +kernel) (by decide +kernel)), (gb3 110 (by decide +kernel) (by decide +kernel))⟩
theorem lkX9_216 : LKV RX9 216 yX3_run cX3_run 6 (some .int) 1 := ⟨⟨(gb3 108 (by decide +kernel) (by decide +kernel)), mc_X3_run, mi_X3_run, by decide, by decide +kernel⟩, ms_X3_run.1, ms_X3_run.2⟩
theorem lkX3_26 : LKV RX3 26 yX2_begin cX2_begin 1 none 0 := ⟨⟨(gb3 112 (by decide +kernel) (by decide +kernel)), mc_X2_begin, mi_X2_begin, by decide, by decide +kernel⟩, ms_X2_begin.1, ms_X2_begin.2⟩
set_option maxRecDepth 100000 in
theorem mc_X3_readStep : .code yX3_readStep cX3_readStep 2 (some .int) ∈ bigw := (gb3 116 rfl (by decide +kernel))
theorem mi_X3_readStep : .initialized (yX3_readStep : MethodName).cls ∈ bigw := (gb1 6 (by decide +kernel) (by decide +kernel))
theorem ms_X3_readStep : .instanceMethod yX3_readStep ∈ bigw ∧ .selects (yX3_readStep : MethodName).cls yX3_readStep yX3_readStep ∈ bigw := ⟨(gb3 115 (by decide +kernel) (by decide +kernel)), (gb0 9 (by decide +kernel) (by decide +kernel))⟩
theorem lkX3_37 : LKV RX3 37 yX3_readStep cX3_readStep 2 (some .int) 0 := ⟨⟨(gb3 113 (by decide +kernel) (by decide +kernel)), mc_X3_readStep, mi_X3_readStep, by decide, by decide +kernel⟩, ms_X3_readStep.1, ms_X3_readStep.2⟩
set_option maxRecDepth 100000 in
theorem mc_X3_step : .code yX3_step cX3_step 1 (some .int) ∈ bigw := (gb3 120 rfl (by decide +kernel))
theorem mi_X3_step : .initialized (yX3_step : MethodName).cls ∈ bigw := (gb1 6 (by decide +kernel) (by decide +kernel))
theorem ms_X3_step : .instanceMethod yX3_step ∈ bigw ∧ .selects (yX3_step : MethodName).cls yX3_step yX3_step ∈ bigw := ⟨(gb3 119 (by decide +kernel) (by decide +kernel)), (gb0 10 (by decide +kernel) (by decide +kernel))⟩
theorem lkX3_55 : LKV RX3 55 yX3_step cX3_step 1 (some .int) 0 := ⟨⟨(gb3 117 (by decide +kernel) (by decide +kernel)), mc_X3_step, mi_X3_step, by decide, by decide +kernel⟩, ms_X3_step.1, ms_X3_step.2⟩
theorem lkX3_71 : LKV RX3 71 yX2_isWord cX2_isWord 3 (some .boolean) 1 := ⟨⟨(gb3 122 (by decide +kernel) (by decide +kernel)), mc_X2_isWord, mi_X2_isWord, by decide, by decide +kernel⟩, ms_X2_isWord.1, ms_X2_isWord.2⟩
theorem lkX3_48 : LKV RX3 48 yX2_fail cX2_fail 3 none 2 := ⟨⟨(gb3 130 (by decide +kernel) (by decide +kernel)), mc_X2_fail, mi_X2_fail, by decide, by decide +kernel⟩, ms_X2_fail.1, ms_X2_fail.2⟩
theorem lkX3_58 : LKV RX3 58 yX2_advance cX2_advance 2 none 0 := ⟨⟨(gb3 131 (by decide +kernel) (by decide +kernel)), mc_X2_advance, mi_X2_advance, by decide, by decide +kernel⟩, ms_X2_advance.1, ms_X2_advance.2⟩
theorem lkX3_62 : LKV RX3 62 yX2_readNumber cX2_readNumber 4 (some .int) 2 := ⟨⟨(gb3 133 (by decide +kernel) (by decide +kernel)), mc_X2_readNumber, mi_X2_readNumber, by decide, by decide +kernel⟩, ms_X2_readNumber.1, ms_X2_readNumber.2⟩
theorem lkX3_66 : LKV RX3 66 yX2_readSemicolon cX2_readSemicolon 1 none 0 := ⟨⟨(gb3 134 (by decide +kernel) (by decide +kernel)), mc_X2_readSemicolon, mi_X2_readSemicolon, by decide, by decide +kernel⟩, ms_X2_readSemicolon.1, ms_X2_readSemicolon.2⟩
set_option maxRecDepth 100000 in
theorem mc_X3_execute : .code yX3_execute cX3_execute 3 (some .boolean) ∈ bigw := (gb3 138 rfl (by decide +kernel))
theorem mi_X3_execute : .initialized (yX3_execute : MethodName).cls ∈ bigw := (gb1 6 (by decide +kernel) (by decide +kernel))
theorem ms_X3_execute : .instanceMethod yX3_execute ∈ bigw ∧ .selects (yX3_execute : MethodName).cls yX3_execute yX3_execute ∈ bigw := ⟨(gb3 137 (by decide +kernel) (by decide +kernel)), (gb0 11 (by decide +kernel) (by decide +kernel))⟩
theorem lkX3_44 : LKV RX3 44 yX3_execute cX3_execute 3 (some .boolean) 2 := ⟨⟨(gb3 135 (by decide +kernel) (by decide +kernel)), mc_X3_execute, mi_X3_execute, by decide, by decide +kernel⟩, ms_X3_execute.1, ms_X3_execute.2⟩
set_option maxRecDepth 100000 in
theorem mc_X1_hasValve : .code yX1_hasValve cX1_hasValve 2 (some .boolean) ∈ bigw := (gb3 142 rfl (by decide +kernel))
theorem mi_X1_hasValve : .initialized (yX1_hasValve : MethodName).cls ∈ bigw := (gb1 4 (by decide +kernel) (by decide +kernel))
theorem ms_X1_hasValve : .instanceMethod yX1_hasValve ∈ bigw ∧ .selects (yX1_hasValve : MethodName).cls yX1_hasValve yX1_hasValve ∈ bigw := ⟨(gb3 140 (by decide +kernel) (by decide +kernel)), (gb3 141 (by decide +kernel) (by decide +kernel))⟩
theorem lkX3_88 : LKV RX3 88 yX1_hasValve cX1_hasValve 2 (some .boolean) 1 := ⟨⟨(gb3 139 (by decide +kernel) (by decide +kernel)), mc_X1_hasValve, mi_X1_hasValve, by decide, by decide +kernel⟩, ms_X1_hasValve.1, ms_X1_hasValve.2⟩
set_option maxRecDepth 100000 in
theorem mc_X3_turnValve : .code yX3_turnValve cX3_turnValve 3 (some .boolean) ∈ bigw := (gb3 145 rfl (by decide +kernel))
theorem mi_X3_turnValve : .initialized (yX3_turnValve : MethodName).cls ∈ bigw := (gb1 6 (by decide +kernel) (by decide +kernel))
theorem ms_X3_turnValve : .static yX3_turnValve ∈ bigw := (gb3 144 (by decide +kernel) (by decide +kernel))
theorem lkX3_94 : LKS RX3 94 yX3_turnValve cX3_turnValve 3 (some .boolean) 3 := ⟨⟨(gb3 143 (by decide +kernel) (by decide +kernel)), mc_X3_turnValve, mi_X3_turnValve, by decide, by decide +kernel⟩, ms_X3_turnValve⟩
set_option maxRecDepth 100000 in
theorem mc_X5_openingBar : .code yX5_openingBar cX5_openingBar 2 (some .int) ∈ bigw := (gb3 149 rfl (by decide +kernel))
theorem mi_X5_openingBar : .initialized (yX5_openingBar : MethodName).cls ∈ bigw := (gb1 9 (by decide +kernel) (by decide +kernel))
theorem ms_X5_openingBar : .instanceMethod yX5_openingBar ∈ bigw ∧ .selects (yX5_openingBar : MethodName).cls yX5_openingBar yX5_openingBar ∈ bigw := ⟨(gb3 147 (by decide +kernel) (by decide +kernel)), (gb3 148 (by decide +kernel) (by decide +kernel))⟩
theorem lkX3_137 : LKV RX3 137 yX5_openingBar cX5_openingBar 2 (some .int) 1 := ⟨⟨(gb3 146 (by decide +kernel) (by decide +kernel)), mc_X5_openingBar, mi_X5_openingBar, by decide, by decide +kernel⟩, ms_X5_openingBar.1, ms_X5_openingBar.2⟩
set_option maxRecDepth 100000 in
theorem mc_X5_isOpen : .code yX5_isOpen cX5_isOpen 2 (some .boolean) ∈ bigw := (gb3 153 rfl (by decide +kernel))
theorem mi_X5_isOpen : .initialized (yX5_isOpen : MethodName).cls ∈ bigw := (gb1 9 (by decide +kernel) (by decide +kernel))
theorem ms_X5_isOpen : .instanceMethod yX5_isOpen ∈ bigw ∧ .selects (yX5_isOpen : MethodName).cls yX5_isOpen yX5_isOpen ∈ bigw := ⟨(gb3 151 (by decide +kernel) (by decide +kernel)), (gb3 152 (by decide +kernel) (by decide +kernel))⟩
theorem lkX5_123 : LKV RX5 123 yX5_isOpen cX5_isOpen 2 (some .boolean) 1 := ⟨⟨(gb3 150 (by decide +kernel) (by decide +kernel)), mc_X5_isOpen, mi_X5_isOpen, by decide, by decide +kernel⟩, ms_X5_isOpen.1, ms_X5_isOpen.2⟩
set_option maxRecDepth 100000 in
theorem mc_X5_difference : .code yX5_difference cX5_difference 2 (some .int) ∈ bigw := (gb3 157 rfl (by decide +kernel))
theorem mi_X5_difference : .initialized (yX5_difference : MethodName).cls ∈ bigw := (gb1 9 (by decide +kernel) (by decide +kernel))
theorem ms_X5_difference : .instanceMethod yX5_difference ∈ bigw ∧ .selects (yX5_difference : MethodName).cls yX5_difference yX5_difference ∈ bigw := ⟨(gb3 155 (by decide +kernel) (by decide +kernel)), (gb3 156 (by decide +kernel) (by decide +kernel))⟩
theorem lkX5_127 : LKV RX5 127 yX5_difference cX5_difference 2 (some .int) 1 := ⟨⟨(gb3 154 (by decide +kernel) (by decide +kernel)), mc_X5_difference, mi_X5_difference, by decide, by decide +kernel⟩, ms_X5_difference.1, ms_X5_difference.2⟩
set_option maxRecDepth 100000 in
theorem mc_Math_abs : .code Lib.Math.abs.name Lib.Math.abs.code 1 (some .int) ∈ bigw := (gb3 160 rfl (by decide +kernel))
theorem mi_Math_abs : .initialized (Lib.Math.abs.name : MethodName).cls ∈ bigw := (gb1 17 (by decide +kernel) (by decide +kernel))
theorem ms_Math_abs : .static Lib.Math.abs.name ∈ bigw := (gb3 159 (by decide +kernel) (by decide +kernel))
theorem lkX5_117 : LKS RX5 117 Lib.Math.abs.name Lib.Math.abs.code 1 (some .int) 1 := ⟨⟨(gb3 158 (by decide +kernel) (by decide +kernel)), mc_Math_abs, mi_Math_abs, by decide, by decide +kernel⟩, ms_Math_abs⟩
theorem lkX3_140 : LKV RX3 140 yX5_isOpen cX5_isOpen 2 (some .boolean) 1 := ⟨⟨(gb3 161 (by decide +kernel) (by decide +kernel)), mc_X5_isOpen, mi_X5_isOpen, by decide, by decide +kernel⟩, ms_X5_isOpen.1, ms_X5_isOpen.2⟩
set_option maxRecDepth 100000 in
theorem mc_X5_openValve : .code yX5_openValve cX5_openValve 2 none ∈ bigw := (gb3 165 rfl (by decide +kernel))
theorem mi_X5_openValve : .initialized (yX5_openValve : MethodName).cls ∈ bigw := (gb1 9 (by decide +kernel) (by decide +kernel))
theorem ms_X5_openValve : .instanceMethod yX5_openValve ∈ bigw ∧ .selects (yX5_openValve : MethodName).cls yX5_openValve yX5_openValve ∈ bigw := ⟨(gb3 163 (by decide +kernel) (by decide +kernel)), (gb3 164 (by decide +kernel) (by decide +kernel))⟩
theorem lkX3_143 : LKV RX3 143 yX5_openValve cX5_openValve 2 none 1 := ⟨⟨(gb3 162 (by decide +kernel) (by decide +kernel)), mc_X5_openValve, mi_X5_openValve, by decide, by decide +kernel⟩, ms_X5_openValve.1, ms_X5_openValve.2⟩
set_option maxRecDepth 100000 in
theorem mc_X5_closeValve : .code yX5_closeValve cX5_closeValve 2 none ∈ bigw := (gb3 169 rfl (by decide +kernel))
theorem mi_X5_closeValve : .initialized (yX5_closeValve : MethodName).cls ∈ bigw := (gb1 9 (by decide +kernel) (by decide +kernel))
theorem ms_X5_closeValve : .instanceMethod yX5_closeValve ∈ bigw ∧ .selects (yX5_closeValve : MethodName).cls yX5_closeValve yX5_closeValve ∈ bigw := ⟨(gb3 167 (by decide +kernel) (by decide +kernel)), (gb3 168 (by decide +kernel) (by decide +kernel))⟩
theorem lkX3_147 : LKV RX3 147 yX5_closeValve cX5_closeValve 2 none 1 := ⟨⟨(gb3 166 (by decide +kernel) (by decide +kernel)), mc_X5_closeValve, mi_X5_closeValve, by decide, by decide +kernel⟩, ms_X5_closeValve.1, ms_X5_closeValve.2⟩
set_option maxRecDepth 100000 in
theorem mc_X1_hasPump : .code yX1_hasPump cX1_hasPump 2 (some .boolean) ∈ bigw := (gb3 173 rfl (by decide +kernel))
theorem mi_X1_hasPump : .initialized (yX1_hasPump : MethodName).cls ∈ bigw := (gb1 4 (by decide +kernel) (by decide +kernel))
theorem ms_X1_hasPump : .instanceMethod yX1_hasPump ∈ bigw ∧ .selects (yX1_hasPump : MethodName).cls yX1_hasPump yX1_hasPump ∈ bigw := ⟨(gb3 171 (by decide +kernel) (by decide +kernel)), (gb3 172 (by decide +kernel) (by decide +kernel))⟩
theorem lkX3_98 : LKV RX3 98 yX1_hasPump cX1_hasPump 2 (some .boolean) 1 := ⟨⟨(gb3 170 (by decide +kernel) (by decide +kernel)), mc_X1_hasPump, mi_X1_hasPump, by decide, by decide +kernel⟩, ms_X1_hasPump.1, ms_X1_hasPump.2⟩
set_option maxRecDepth 100000 in
theorem mc_X3_switchPump : .code yX3_switchPump cX3_switchPump 3 (some .boolean) ∈ bigw := (gb3 176 rfl (by decide +kernel))
theorem mi_X3_switchPump : .initialized (yX3_switchPump : MethodName).cls ∈ bigw := (gb1 6 (by decide +kernel) (by decide +kernel))
theorem ms_X3_switchPump : .static yX3_switchPump ∈ bigw := (gb3 175 (by decide +kernel) (by decide +kernel))
theorem lkX3_101 : LKS RX3 101 yX3_switchPump cX3_switchPump 3 (some .boolean) 3 := ⟨⟨(gb3 174 (by decide +kernel) (by decide +kernel)), mc_X3_switchPump, mi_X3_switchPump, by decide, by decide +kernel⟩, ms_X3_switchPump⟩
set_option maxRecDepth 100000 in
theorem mc_X5_startingBar : .code yX5_startingBar cX5_startingBar 2 (some .int) ∈ bigw := (gb3 180 rfl (by decide +kernel))
theorem mi_X5_startingBar : .initialized (yX5_startingBar : MethodName).cls ∈ bigw := (gb1 9 (by decide +kernel) (by decide +kernel))
theorem ms_X5_startingBar : .instanceMethod yX5_startingBar ∈ bigw ∧ .selects (yX5_startingBar : MethodName).cls yX5_startingBar yX5_startingBar ∈ bigw := ⟨(gb3 178 (by decide +kernel) (by decide +kernel)), (gb3 179 (by decide +kernel) (by decide +kernel))⟩
theorem lkX3_150 : LKV RX3 150 yX5_startingBar cX5_startingBar 2 (some .int) 1 := ⟨⟨(gb3 177 (by decide +kernel) (by decide +kernel)), mc_X5_startingBar, mi_X5_startingBar, by decide, by decide +kernel⟩, ms_X5_startingBar.1, ms_X5_startingBar.2⟩
set_option maxRecDepth 100000 in
theorem mc_X5_isRunning : .code yX5_isRunning cX5_isRunning 2 (some .boolean) ∈ bigw := (gb3 184 rfl (by decide +kernel))
theorem mi_X5_isRunning : .initialized (yX5_isRunning : MethodName).cls ∈ bigw := (gb1 9 (by decide +kernel) (by decide +kernel))
theorem ms_X5_isRunning : .instanceMethod yX5_isRunning ∈ bigw ∧ .selects (yX5_isRunning : MethodName).cls yX5_isRunning yX5_isRunning ∈ bigw := ⟨(gb3 182 (by decide +kernel) (by decide +kernel)), (gb3 183 (by decide +kernel) (by decide +kernel))⟩
theorem lkX5_130 : LKV RX5 130 yX5_isRunning cX5_isRunning 2 (some .boolean) 1 := ⟨⟨(gb3 181 (by decide +kernel) (by decide +kernel)), mc_X5_isRunning, mi_X5_isRunning, by decide, by decide +kernel⟩, ms_X5_isRunning.1, ms_X5_isRunning.2⟩
set_option maxRecDepth 100000 in
theorem mc_X5_conditionBar : .code yX5_conditionBar cX5_conditionBar 3 (some .int) ∈ bigw := (gb3 188 rfl (by decide +kernel))
theorem mi_X5_conditionBar : .initialized (yX5_conditionBar : MethodName).cls ∈ bigw := (gb1 9 (by decide +kernel) (by decide +kernel))
theorem ms_X5_conditionBar : .instanceMethod yX5_conditionBar ∈ bigw ∧ .selects (yX5_conditionBar : MethodName).cls yX5_conditionBar yX5_conditionBar ∈ bigw := ⟨(gb3 187 (by decide +kernel) (by decide +kernel)), (gb0 12 (by decide +kernel) (by decide +kernel))⟩
theorem lkX5_133 : LKV RX5 133 yX5_conditionBar cX5_conditionBar 3 (some .int) 1 := ⟨⟨(gb3 185 (by decide +kernel) (by decide +kernel)), mc_X5_conditionBar, mi_X5_conditionBar, by decide, by decide +kernel⟩, ms_X5_conditionBar.1, ms_X5_conditionBar.2⟩
theorem lkX3_153 : LKV RX3 153 yX5_isRunning cX5_isRunning 2 (some .boolean) 1 := ⟨⟨(gb3 189 (by decide +kernel) (by decide +kernel)), mc_X5_isRunning, mi_X5_isRunning, by decide, by decide +kernel⟩, ms_X5_isRunning.1, ms_X5_isRunning.2⟩
set_option maxRecDepth 100000 in
theorem mc_X5_startPump : .code yX5_startPump cX5_startPump 2 none ∈ bigw := (gb3 193 rfl (by decide +kernel))
theorem mi_X5_startPump : .initialized (yX5_startPump : MethodName).cls ∈ bigw := (gb1 9 (by decide +kernel) (by decide +kernel))
theorem ms_X5_startPump : .instanceMethod yX5_startPump ∈ bigw ∧ .selects (yX5_startPump : MethodName).cls yX5_startPump yX5_startPump ∈ bigw := ⟨(gb3 191 (by decide +kernel) (by decide +kernel)), (gb3 192 (by decide +kernel) (by decide +kernel))⟩
theorem lkX3_156 : LKV RX3 156 yX5_startPump cX5_startPump 2 none 1 := ⟨⟨(gb3 190 (by decide +kernel) (by decide +kernel)), mc_X5_startPump, mi_X5_startPump, by decide, by decide +kernel⟩, ms_X5_startPump.1, ms_X5_startPump.2⟩
set_option maxRecDepth 100000 in
theorem mc_X5_stopPump : .code yX5_stopPump cX5_stopPump 2 none ∈ bigw := (gb3 197 rfl (by decide +kernel))
theorem mi_X5_stopPump : .initialized (yX5_stopPump : MethodName).cls ∈ bigw := (gb1 9 (by decide +kernel) (by decide +kernel))
theorem ms_X5_stopPump : .instanceMethod yX5_stopPump ∈ bigw ∧ .selects (yX5_stopPump : MethodName).cls yX5_stopPump yX5_stopPump ∈ bigw := ⟨(gb3 195 (by decide +kernel) (by decide +kernel)), (gb3 196 (by decide +kernel) (by decide +kernel))⟩
theorem lkX3_159 : LKV RX3 159 yX5_stopPump cX5_stopPump 2 none 1 := ⟨⟨(gb3 194 (by decide +kernel) (by decide +kernel)), mc_X5_stopPump, mi_X5_stopPump, by decide, by decide +kernel⟩, ms_X5_stopPump.1, ms_X5_stopPump.2⟩
set_option maxRecDepth 100000 in
theorem mc_X5_passTicks : .code yX5_passTicks cX5_passTicks 4 (some .int) ∈ bigw := (gb3 204 rfl (by decide +kernel))
theorem mi_X5_passTicks : .initialized (yX5_passTicks : MethodName).cls ∈ bigw := (gb1 9 (by decide +kernel) (by decide +kernel))
theorem ms_X5_passTicks : .instanceMethod yX5_passTicks ∈ bigw ∧ .selects (yX5_passTicks : MethodName).cls yX5_passTicks yX5_passTicks ∈ bigw := ⟨(gb3 202 (by decide +kernel) (by decide +kernel)), (gb3 203 (by decide +kernel) (by decide +kernel))⟩
theorem lkX3_107 : LKV RX3 107 yX5_passTicks cX5_passTicks 4 (some .int) 1 := ⟨⟨(gb3 201 (by decide +kernel) (by decide +kernel)), mc_X5_passTicks, mi_X5_passTicks, by decide, by decide +kernel⟩, ms_X5_passTicks.1, ms_X5_passTicks.2⟩
set_option maxRecDepth 100000 in
theorem mc_X5_tick : .code yX5_tick cX5_tick 2 (some .int) ∈ bigw := (gb3 208 rfl (by decide +kernel))
theorem mi_X5_tick : .initialized (yX5_tick : MethodName).cls ∈ bigw := (gb1 9 (by decide +kernel) (by decide +kernel))
theorem ms_X5_tick : .instanceMethod yX5_tick ∈ bigw ∧ .selects (yX5_tick : MethodName).cls yX5_tick yX5_tick ∈ bigw := ⟨(gb3 206 (by decide +kernel) (by decide +kernel)), (gb3 207 (by decide +kernel) (by decide +kernel))⟩
theorem lkX5_155 : LKV RX5 155 yX5_tick cX5_tick 2 (some .int) 0 := ⟨⟨(gb3 205 (by decide +kernel) (by decide +kernel)), mc_X5_tick, mi_X5_tick, by decide, by decide +kernel⟩, ms_X5_tick.1, ms_X5_tick.2⟩
set_option maxRecDepth 100000 in
theorem mc_X5_tripValves : .code yX5_tripValves cX5_tripValves 3 (some .int) ∈ bigw := (gb3 212 rfl (by decide +kernel))
theorem mi_X5_tripValves : .initialized (yX5_tripValves : MethodName).cls ∈ bigw := (gb1 9 (by decide +kernel) (by decide +kernel))
theorem ms_X5_tripValves : .instanceMethod yX5_tripValves ∈ bigw ∧ .selects (yX5_tripValves : MethodName).cls yX5_tripValves yX5_tripValves ∈ bigw := ⟨(gb3 211 (by decide +kernel) (by decide +kernel)), (gb0 13 (by decide +kernel) (by decide +kernel))⟩
theorem lkX5_167 : LKV RX5 167 yX5_tripValves cX5_tripValves 3 (some .int) 0 := ⟨⟨(gb3 209 (by decide +kernel) (by decide +kernel)), mc_X5_tripValves, mi_X5_tripValves, by decide, by decide +kernel⟩, ms_X5_tripValves.1, ms_X5_tripValves.2⟩
theorem lkX5_179 : LKV RX5 179 yX5_closeValve cX5_closeValve 2 none 1 := ⟨⟨(gb3 213 (by decide +kernel) (by decide +kernel)), mc_X5_closeValve, mi_X5_closeValve, by decide, by decide +kernel⟩, ms_X5_closeValve.1, ms_X5_closeValve.2⟩
set_option maxRecDepth 100000 in
theorem mc_X5_letGasIn : .code yX5_letGasIn cX5_letGasIn 4 none ∈ bigw := (gb3 217 rfl (by decide +kernel))
theorem mi_X5_letGasIn : .initialized (yX5_letGasIn : MethodName).cls ∈ bigw := (gb1 9 (by decide +kernel) (by decide +kernel))
theorem ms_X5_letGasIn : .instanceMethod yX5_letGasIn ∈ bigw ∧ .selects (yX5_letGasIn : MethodName).cls yX5_letGasIn yX5_letGasIn ∈ bigw := ⟨(gb3 216 (by decide +kernel) (by decide +kernel)), (gb0 14 (by decide +kernel) (by decide +kernel))⟩
theorem lkX5_170 : LKV RX5 170 yX5_letGasIn cX5_letGasIn 4 none 0 := ⟨⟨(gb3 214 (by decide +kernel) (by decide +kernel)), mc_X5_letGasIn, mi_X5_letGasIn, by decide, by decide +kernel⟩, ms_X5_letGasIn.1, ms_X5_letGasIn.2⟩
set_option maxRecDepth 100000 in
theorem mc_X5_moveThroughValves : .code yX5_moveThroughValves cX5_moveThroughValves 6 none ∈ bigw := (gb3 222 rfl (by decide +kernel))
theorem mi_X5_moveThroughValves : .initialized (yX5_moveThroughValves : MethodName).cls ∈ bigw := (gb1 9 (by decide +kernel) (by decide +kernel))
theorem ms_X5_moveThroughValves : .instanceMethod yX5_moveThroughValves ∈ bigw ∧ .selects (yX5_moveThroughValves : MethodName).cls yX5_moveThroughValves yX5_moveThroughValves ∈ bigw := ⟨(gb3 221 (by decide +kernel) (by decide +kernel)), (gb0 15 (by decide +kernel) (by decide +kernel))⟩
theorem lkX5_173 : LKV RX5 173 yX5_moveThroughValves cX5_moveThroughValves 6 none 0 := ⟨⟨(gb3 219 (by decide +kernel) (by decide +kernel)), mc_X5_moveThroughValves, mi_X5_moveThroughValves, by decide, by decide +kernel⟩, ms_X5_moveThroughValves.1, ms_X5_moveThroughValves.2⟩
set_option maxRecDepth 100000 in
theorem mc_X5_flow : .code yX5_flow cX5_flow 13 (some .long) ∈ bigw := (gb3 226 rfl (by decide +kernel))
theorem mi_X5_flow : .initialized (yX5_flow : MethodName).cls ∈ bigw := (gb1 9 (by decide +kernel) (by decide +kernel))
theorem ms_X5_flow : .instanceMethod yX5_flow ∈ bigw ∧ .selects (yX5_flow : MethodName).cls yX5_flow yX5_flow ∈ bigw := ⟨(gb3 225 (by decide +kernel) (by decide +kernel)), (gb0 16 (by decide +kernel) (by decide +kernel))⟩
theorem lkX5_187 : LKV RX5 187 yX5_flow cX5_flow 13 (some .long) 2 := ⟨⟨(gb3 223 (by decide +kernel) (by decide +kernel)), mc_X5_flow, mi_X5_flow, by decide, by decide +kernel⟩, ms_X5_flow.1, ms_X5_flow.2⟩
set_option maxRecDepth 100000 in
theorem mc_Math_min_l : .code Lib.MathLoose.min_long.x Lib.MathLoose.min_long.code 4 (some .long) ∈ bigw := (gb3 229 rfl (by decide +kernel))
theorem mi_Math_min_l : .initialized (Lib.MathLoose.min_long.x : MethodName).cls ∈ bigw := (gb1 17 (by decide +kernel) (by decide +kernel))
theorem ms_Math_min_l : .static Lib.MathLoose.min_long.x ∈ bigw := (gb3 228 (by decide +kernel) (by decide +kernel))
theorem lkX5_194 : LKS RX5 194 Lib.MathLoose.min_long.x Lib.MathLoose.min_long.code 4 (some .long) 2 := ⟨⟨(gb3 227 (by decide +kernel) (by decide +kernel)), mc_Math_min_l, mi_Math_min_l, by decide, by decide +kernel⟩, ms_Math_min_l⟩
set_option maxRecDepth 100000 in
theorem mc_X5_runPumps : .code yX5_runPumps cX5_runPumps 6 (some .int) ∈ bigw := (gb3 233 rfl (by decide +kernel))
theorem mi_X5_runPumps : .initialized (yX5_runPumps : MethodName).cls ∈ bigw := (gb1 9 (by decide +kernel) (by decide +kernel))
theorem ms_X5_runPumps : .instanceMethod yX5_runPumps ∈ bigw ∧ .selects (yX5_runPumps : MethodName).cls yX5_runPumps yX5_runPumps ∈ bigw := ⟨(gb3 232 (by decide +kernel) (by decide +kernel)), (gb0 17 (by decide +kernel) (by decide +kernel))⟩
theorem lkX5_176 : LKV RX5 176 yX5_runPumps cX5_runPumps 6 (some .int) 0 := ⟨⟨(gb3 230 (by decide +kernel) (by decide +kernel)), mc_X5_runPumps, mi_X5_runPumps, by decide, by decide +kernel⟩, ms_X5_runPumps.1, ms_X5_runPumps.2⟩
theorem lkX5_198 : LKV RX5 198 yX5_stopPump cX5_stopPump 2 none 1 := ⟨⟨(gb3 234 (by decide +kernel) (by decide +kernel)), mc_X5_stopPump, mi_X5_stopPump, by decide, by decide +kernel⟩, ms_X5_stopPump.1, ms_X5_stopPump.2⟩
set_option maxRecDepth 100000 in
theorem mc_X1_hasChamber : .code yX1_hasChamber cX1_hasChamber 2 (some .boolean) ∈ bigw := (gb3 238 rfl (by decide +kernel))
theorem mi_X1_hasChamber : .initialized (yX1_hasChamber : MethodName).cls ∈ bigw := (gb1 4 (by decide +kernel) (by decide +kernel))
theorem ms_X1_hasChamber : .instanceMethod yX1_hasChamber ∈ bigw ∧ .selects (yX1_hasChamber : MethodName).cls yX1_hasChamber yX1_hasChamber ∈ bigw := ⟨(gb3 236 (by decide +kernel) (by decide +kernel)), (gb3 237 (by decide +kernel) (by decide +kernel))⟩
theorem lkX3_113 : LKV RX3 113 yX1_hasChamber cX1_hasChamber 2 (some .boolean) 1 := ⟨⟨(gb3 235 (by decide +kernel) (by decide +kernel)), mc_X1_hasChamber, mi_X1_hasChamber, by decide, by decide +kernel⟩, ms_X1_hasChamber.1, ms_X1_hasChamber.2⟩
set_option maxRecDepth 100000 in
theorem mc_X5_passUntilAtMost : .code yX5_passUntilAtMost cX5_passUntilAtMost 4 (some .int) ∈ bigw := (gb4 6 rfl (by decide +kernel))
theorem mi_X5_passUntilAtMost : .initialized (yX5_passUntilAtMost : MethodName).cls ∈ bigw := (gb1 9 (by decide +kernel) (by decide +kernel))
theorem ms_X5_passUntilAtMost : .instanceMethod yX5_passUntilAtMost ∈ bigw ∧ .selects (yX5_passUntilAtMost : MethodName).cls yX5_passUntilAtMost yX5_passUntilAtMost ∈ bigw := ⟨(gb4 4 (by decide +kernel) (by decide +kernel)), (gb4 5 (by decide +kernel) (by decide +kernel))⟩
theorem lkX3_119 : LKV RX3 119 yX5_passUntilAtMost cX5_passUntilAtMost 4 (some .int) 2 := ⟨⟨(gb4 3 (by decide +kernel) (by decide +kernel)), mc_X5_passUntilAtMost, mi_X5_passUntilAtMost, by decide, by decide +kernel⟩, ms_X5_passUntilAtMost.1, ms_X5_passUntilAtMost.2⟩
set_option maxRecDepth 100000 in
theorem mc_X1_hasFlange : .code yX1_hasFlange cX1_hasFlange 2 (some .boolean) ∈ bigw := (gb4 10 rfl (by decide +kernel))
theorem mi_X1_hasFlange : .initialized (yX1_hasFlange : MethodName).cls ∈ bigw := (gb1 4 (by decide +kernel) (by decide +kernel))
theorem ms_X1_hasFlange : .instanceMethod yX1_hasFlange ∈ bigw ∧ .selects (yX1_hasFlange : MethodName).cls yX1_hasFlange yX1_hasFlange ∈ bigw := ⟨(gb4 8 (by decide +kernel) (by decide +kernel)), (gb4 9 (by decide +kernel) (by decide +kernel))⟩
theorem lkX3_122 : LKV RX3 122 yX1_hasFlange cX1_hasFlange 2 (some .boolean) 1 := ⟨⟨(gb4 7 (by decide +kernel) (by decide +kernel)), mc_X1_hasFlange, mi_X1_hasFlange, by decide, by decide +kernel⟩, ms_X1_hasFlange.1, ms_X1_hasFlange.2⟩
theorem lkX3_125 : LKV RX3 125 yX5_putLeak cX5_putLeak 3 none 2 := ⟨⟨(gb4 11 (by decide +kernel) (by decide +kernel)), mc_X5_putLeak, mi_X5_putLeak, by decide, by decide +kernel⟩, ms_X5_putLeak.1, ms_X5_putLeak.2⟩
set_option maxRecDepth 100000 in
theorem mc_X9_isTicks : .code yX9_isTicks cX9_isTicks 1 (some .boolean) ∈ bigw := (gb3 200 rfl (by decide +kernel))
theorem mi_X9_isTicks : .initialized (yX9_isTicks : MethodName).cls ∈ bigw := (gb1 1 (by decide +kernel) (by decide +kernel))
theorem ms_X9_isTicks : .static yX9_isTicks ∈ bigw := (gb3 199 (by decide +kernel) (by decide +kernel))
theorem lkX9_179 : LKS RX9 179 yX9_isTicks cX9_isTicks 1 (some .boolean) 1 := ⟨⟨(gb4 15 (by decide +kernel) (by decide +kernel)), mc_X9_isTicks, mi_X9_isTicks, by decide, by decide +kernel⟩, ms_X9_isTicks⟩
set_option maxRecDepth 100000 in
theorem mc_X5_isShutOff : .code yX5_isShutOff cX5_isShutOff 4 (some .boolean) ∈ bigw := (gb4 19 rfl (by decide +kernel))
theorem mi_X5_isShutOff : .initialized (yX5_isShutOff : MethodName).cls ∈ bigw := (gb1 9 (by decide +kernel) (by decide +kernel))
theorem ms_X5_isShutOff : .instanceMethod yX5_isShutOff ∈ bigw ∧ .selects (yX5_isShutOff : MethodName).cls yX5_isShutOff yX5_isShutOff ∈ bigw := ⟨(gb4 17 (by decide +kernel) (by decide +kernel)), (gb4 18 (by decide +kernel) (by decide +kernel))⟩
theorem lkX3_131 : LKV RX3 131 yX5_isShutOff cX5_isShutOff 4 (some .boolean) 1 := ⟨⟨(gb4 16 (by decide +kernel) (by decide +kernel)), mc_X5_isShutOff, mi_X5_isShutOff, by decide, by decide +kernel⟩, ms_X5_isShutOff.1, ms_X5_isShutOff.2⟩
set_option maxRecDepth 100000 in
theorem mc_X1_valvesOf : .code yX1_valvesOf cX1_valvesOf 4 (some .int) ∈ bigw := (gb4 23 rfl (by decide +kernel))
theorem mi_X1_valvesOf : .initialized (yX1_valvesOf : MethodName).cls ∈ bigw := (gb1 4 (by decide +kernel) (by decide +kernel))
theorem ms_X1_valvesOf : .instanceMethod yX1_valvesOf ∈ bigw ∧ .selects (yX1_valvesOf : MethodName).cls yX1_valvesOf yX1_valvesOf ∈ bigw := ⟨(gb4 21 (by decide +kernel) (by decide +kernel)), (gb4 22 (by decide +kernel) (by decide +kernel))⟩
theorem lkX5_148 : LKV RX5 148 yX1_valvesOf cX1_valvesOf 4 (some .int) 1 := ⟨⟨(gb4 20 (by decide +kernel) (by decide +kernel)), mc_X1_valvesOf, mi_X1_valvesOf, by decide, by decide +kernel⟩, ms_X1_valvesOf.1, ms_X1_valvesOf.2⟩
set_option maxRecDepth 100000 in
theorem mc_X5_makeTest : .code yX5_makeTest cX5_makeTest 13 (some .int) ∈ bigw := (gb4 27 rfl (by decide +kernel))
theorem mi_X5_makeTest : .initialized (yX5_makeTest : MethodName).cls ∈ bigw := (gb1 9 (by decide +kernel) (by decide +kernel))
theorem ms_X5_makeTest : .instanceMethod yX5_makeTest ∈ bigw ∧ .selects (yX5_makeTest : MethodName).cls yX5_makeTest yX5_makeTest ∈ bigw := ⟨(gb4 25 (by decide +kernel) (by decide +kernel)), (gb4 26 (by decide +kernel) (by decide +kernel))⟩
theorem lkX3_134 : LKV RX3 134 yX5_makeTest cX5_makeTest 13 (some .int) 2 := ⟨⟨(gb4 24 (by decide +kernel) (by decide +kernel)), mc_X5_makeTest, mi_X5_makeTest, by decide, by decide +kernel⟩, ms_X5_makeTest.1, ms_X5_makeTest.2⟩
set_option maxRecDepth 100000 in
theorem mc_X7_add : .code yX7_add cX7_add 9 none ∈ bigw := (gb4 33 rfl (by decide +kernel))
theorem mi_X7_add : .initialized (yX7_add : MethodName).cls ∈ bigw := (gb1 10 (by decide +kernel) (by decide +kernel))
theorem ms_X7_add : .instanceMethod yX7_add ∈ bigw ∧ .selects (yX7_add : MethodName).cls yX7_add yX7_add ∈ bigw := ⟨(gb4 31 (by decide +kernel) (by decide +kernel)), (gb4 32 (by decide +kernel) (by decide +kernel))⟩
theorem lkX5_163 : LKV RX5 163 yX7_add cX7_add 9 none 6 := ⟨⟨(gb4 30 (by decide +kernel) (by decide +kernel)), mc_X7_add, mi_X7_add, by decide, by decide +kernel⟩, ms_X7_add.1, ms_X7_add.2⟩
theorem lkX7_30 : LKS RX7 30 Lib.Math.min.name Lib.Math.min.code 2 (some .int) 2 := ⟨⟨(gb4 34 (by decide +kernel) (by decide +kernel)), mc_Math_min, mi_Math_min, by decide, by decide +kernel⟩, ms_Math_min⟩
set_option maxRecDepth 100000 in
theorem mc_X9_keepTrial : .code yX9_keepTrial cX9_keepTrial 2 none ∈ bigw := (gb4 38 rfl (by decide +kernel))
theorem mi_X9_keepTrial : .initialized (yX9_keepTrial : MethodName).cls ∈ bigw := (gb1 1 (by decide +kernel) (by decide +kernel))
theorem ms_X9_keepTrial : .instanceMethod yX9_keepTrial ∈ bigw ∧ .selects (yX9_keepTrial : MethodName).cls yX9_keepTrial yX9_keepTrial ∈ bigw := ⟨(gb4 37 (by decide +kernel) (by decide +kernel)), (gb0 18 (by decide +kernel) (by decide +kernel))⟩
theorem lkX9_145 : LKV RX9 145 yX9_keepTrial cX9_keepTrial 2 none 0 := ⟨⟨(gb4 35 (by decide +kernel) (by decide +kernel)), mc_X9_keepTrial, mi_X9_keepTrial, by decide, by decide +kernel⟩, ms_X9_keepTrial.1, ms_X9_keepTrial.2⟩
theorem lkX9_317 : LKS RX9 317 Lib.Math.min.name Lib.Math.min.code 2 (some .int) 2 := ⟨⟨(gb4 39 (by decide +kernel) (by decide +kernel)), mc_Math_min, mi_Math_min, by decide, by decide +kernel⟩, ms_Math_min⟩
set_option maxRecDepth 100000 in
theorem mc_X9_openable : .code yX9_openable cX9_openable 3 (some .int) ∈ bigw := (gb4 43 rfl (by decide +kernel))
theorem mi_X9_openable : .initialized (yX9_openable : MethodName).cls ∈ bigw := (gb1 1 (by decide +kernel) (by decide +kernel))
theorem ms_X9_openable : .instanceMethod yX9_openable ∈ bigw ∧ .selects (yX9_openable : MethodName).cls yX9_openable yX9_openable ∈ bigw := ⟨(gb4 41 (by decide +kernel) (by decide +kernel)), (gb4 42 (by decide +kernel) (by decide +kernel))⟩
theorem lkL_270 : LKV RL 270 yX9_openable cX9_openable 3 (some .int) 0 := ⟨⟨(gb4 40 (by decide +kernel) (by decide +kernel)), mc_X9_openable, mi_X9_openable, by decide, by decide +kernel⟩, ms_X9_openable.1, ms_X9_openable.2⟩
theorem lkX9_135 : LKV RX9 135 yX5_openingBar cX5_openingBar 2 (some .int) 1 := ⟨⟨(gb4 44 (by decide +kernel) (by decide +kernel)), mc_X5_openingBar, mi_X5_openingBar, by decide, by decide +kernel⟩, ms_X5_openingBar.1, ms_X5_openingBar.2⟩
set_option maxRecDepth 100000 in
theorem mc_X9_writeReport : .code yX9_writeReport cX9_writeReport 2 (some .int) ∈ bigw := (gb4 48 rfl (by decide +kernel))
theorem mi_X9_writeReport : .initialized (yX9_writeReport : MethodName).cls ∈ bigw := (gb1 1 (by decide +kernel) (by decide +kernel))
theorem ms_X9_writeReport : .instanceMethod yX9_writeReport ∈ bigw ∧ .selects (yX9_writeReport : MethodName).cls yX9_writeReport yX9_writeReport ∈ bigw := ⟨(gb4 46 (by decide +kernel) (by decide +kernel)), (gb4 47 (by decide +kernel) (by decide +kernel))⟩
theorem lkL_312 : LKV RL 312 yX9_writeReport cX9_writeReport 2 (some .int) 0 := ⟨⟨(gb4 45 (by decide +kernel) (by decide +kernel)), mc_X9_writeReport, mi_X9_writeReport, by decide, by decide +kernel⟩, ms_X9_writeReport.1, ms_X9_writeReport.2⟩
set_option maxRecDepth 100000 in
theorem mc_X4_addText : .code yX4_addText cX4_addText 3 none ∈ bigw := (gb4 53 rfl (by decide +kernel))
theorem mi_X4_addText : .initialized (yX4_addText : MethodName).cls ∈ bigw := (gb1 8 (by decide +kernel) (by decide +kernel))
theorem ms_X4_addText : .instanceMethod yX4_addText ∈ bigw ∧ .selects (yX4_addText : MethodName).cls yX4_addText yX4_addText ∈ bigw := ⟨(gb4 51 (by decide +kernel) (by decide +kernel)), (gb4 52 (by decide +kernel) (by decide +kernel))⟩
theorem lkX9_353 : LKV RX9 353 yX4_addText cX4_addText 3 none 1 := ⟨⟨(gb4 50 (by decide +kernel) (by decide +kernel)), mc_X4_addText, mi_X4_addText, by decide, by decide +kernel⟩, ms_X4_addText.1, ms_X4_addText.2⟩
theorem lkX4_17 : LKV RX4 17 ⟨"java/lang/String", "length", "()I"⟩ prog_22_method_54_code 1 (some .int) 0 := ⟨⟨(gb4 54 (by decide +kernel) (by decide +kernel)), mc_String_length, mi_String_length, by decide, by decide +kernel⟩, ms_String_length.1, ms_String_length.2⟩
theorem lkX4_22 : LKV RX4 22 ⟨"java/lang/String", "charAt", "(I)C"⟩ prog_22_method_56_code 2 (some .char) 1 := ⟨⟨(gb4 55 (by decide +kernel) (by decide +kernel)), mc_String_charAt, mi_String_charAt, by decide, by decide +kernel⟩, ms_String_charAt.1, ms_String_charAt.2⟩
set_option maxRecDepth 100000 in
theorem mc_X4_addByte : .code yX4_addByte cX4_addByte 2 none ∈ bigw := (gb4 59 rfl (by decide +kernel))
theorem mi_X4_addByte : .initialized (yX4_addByte : MethodName).cls ∈ bigw := (gb1 8 (by decide +kernel) (by decide +kernel))
theorem ms_X4_addByte : .instanceMethod yX4_addByte ∈ bigw ∧ .selects (yX4_addByte : MethodName).cls yX4_addByte yX4_addByte ∈ bigw := ⟨(gb4 58 (by decide +kernel) (by decide +kernel)), (gb0 19 (by decide +kernel) (by decide +kernel))⟩
theorem lkX4_26 : LKV RX4 26 yX4_addByte cX4_addByte 2 none 1 := ⟨⟨(gb4 56 (by decide +kernel) (by decide +kernel)), mc_X4_addByte, mi_X4_addByte, by decide, by decide +kernel⟩, ms_X4_addByte.1, ms_X4_addByte.2⟩
set_option maxRecDepth 100000 in
theorem mc_X4_addNumber : .code yX4_addNumber cX4_addNumber 3 none ∈ bigw := (gb4 63 rfl (by decide +kernel))
theorem mi_X4_addNumber : .initialized (yX4_addNumber : MethodName).cls ∈ bigw := (gb1 8 (by decide +kernel) (by decide +kernel))
theorem ms_X4_addNumber : .instanceMethod yX4_addNumber ∈ bigw ∧ .selects (yX4_addNumber : MethodName).cls yX4_addNumber yX4_addNumber ∈ bigw := ⟨(gb4 61 (by decide +kernel) (by decide +kernel)), (gb4 62 (by decide +kernel) (by decide +kernel))⟩
theorem lkX9_357 : LKV RX9 357 yX4_addNumber cX4_addNumber 3 none 1 := ⟨⟨(gb4 60 (by decide +kernel) (by decide +kernel)), mc_X4_addNumber, mi_X4_addNumber, by decide, by decide +kernel⟩, ms_X4_addNumber.1, ms_X4_addNumber.2⟩
theorem lkX9_260 : LKV RX9 260 yX1_valvesOf cX1_valvesOf 4 (some .int) 1 := ⟨⟨(gb4 67 (by decide +kernel) (by decide +kernel)), mc_X1_valvesOf, mi_X1_valvesOf, by decide, by decide +kernel⟩, ms_X1_valvesOf.1, ms_X1_valvesOf.2⟩
set_option maxRecDepth 100000 in
theorem mc_X4_addSet : .code yX4_addSet cX4_addSet 5 none ∈ bigw := (gb4 71 rfl (by decide +kernel))
theorem mi_X4_addSet : .initialized (yX4_addSet : MethodName).cls ∈ bigw := (gb1 8 (by decide +kernel) (by decide +kernel))
theorem ms_X4_addSet : .instanceMethod yX4_addSet ∈ bigw ∧ .selects (yX4_addSet : MethodName).cls yX4_addSet yX4_addSet ∈ bigw := ⟨(gb4 69 (by decide +kernel) (by decide +kernel)), (gb4 70 (by decide +kernel) (by decide +kernel))⟩
theorem lkX9_367 : LKV RX9 367 yX4_addSet cX4_addSet 5 none 3 := ⟨⟨(gb4 68 (by decide +kernel) (by decide +kernel)), mc_X4_addSet, mi_X4_addSet, by decide, by decide +kernel⟩, ms_X4_addSet.1, ms_X4_addSet.2⟩
theorem lkX4_37 : LKV RX4 37 yX4_addText cX4_addText 3 none 1 := ⟨⟨(gb4 75 (by decide +kernel) (by decide +kernel)), mc_X4_addText, mi_X4_addText, by decide, by decide +kernel⟩, ms_X4_addText.1, ms_X4_addText.2⟩
theorem lkX4_41 : LKV RX4 41 yX4_addNumber cX4_addNumber 3 none 1 := ⟨⟨(gb4 76 (by decide +kernel) (by decide +kernel)), mc_X4_addNumber, mi_X4_addNumber, by decide, by decide +kernel⟩, ms_X4_addNumber.1, ms_X4_addNumber.2⟩
set_option maxRecDepth 100000 in
theorem mc_X1_pumpsOf : .code yX1_pumpsOf cX1_pumpsOf 4 (some .int) ∈ bigw := (gb4 81 rfl (by decide +kernel))
theorem mi_X1_pumpsOf : .initialized (yX1_pumpsOf : MethodName).cls ∈ bigw := (gb1 4 (by decide +kernel) (by decide +kernel))
theorem ms_X1_pumpsOf : .instanceMethod yX1_pumpsOf ∈ bigw ∧ .selects (yX1_pumpsOf : MethodName).cls yX1_pumpsOf yX1_pumpsOf ∈ bigw := ⟨(gb4 79 (by decide +kernel) (by decide +kernel)), (gb4 80 (by decide +kernel) (by decide +kernel))⟩
theorem lkX9_263 : LKV RX9 263 yX1_pumpsOf cX1_pumpsOf 4 (some .int) 1 := ⟨⟨(gb4 78 (by decide +kernel) (by decide +kernel)), mc_X1_pumpsOf, mi_X1_pumpsOf, by decide, by decide +kernel⟩, ms_X1_pumpsOf.1, ms_X1_pumpsOf.2⟩
set_option maxRecDepth 100000 in
theorem mc_X9_undoDepth : .code yX9_undoDepth cX9_undoDepth 1 (some .int) ∈ bigw := (gb4 86 rfl (by decide +kernel))
theorem mi_X9_undoDepth : .initialized (yX9_undoDepth : MethodName).cls ∈ bigw := (gb1 1 (by decide +kernel) (by decide +kernel))
theorem ms_X9_undoDepth : .instanceMethod yX9_undoDepth ∈ bigw ∧ .selects (yX9_undoDepth : MethodName).cls yX9_undoDepth yX9_undoDepth ∈ bigw := ⟨(gb4 84 (by decide +kernel) (by decide +kernel)), (gb4 85 (by decide +kernel) (by decide +kernel))⟩
theorem lkL_322 : LKV RL 322 yX9_undoDepth cX9_undoDepth 1 (some .int) 0 := ⟨⟨(gb4 83 (by decide +kernel) (by decide +kernel)), mc_X9_undoDepth, mi_X9_undoDepth, by decide, by decide +kernel⟩, ms_X9_undoDepth.1, ms_X9_undoDepth.2⟩
set_option maxRecDepth 100000 in
theorem mc_X9_appendText : .code yX9_appendText cX9_appendText 6 (some .int) ∈ bigw := (gb4 94 rfl (by decide +kernel))
theorem mi_X9_appendText : .initialized (yX9_appendText : MethodName).cls ∈ bigw := (gb1 1 (by decide +kernel) (by decide +kernel))
theorem ms_X9_appendText : .instanceMethod yX9_appendText ∈ bigw ∧ .selects (yX9_appendText : MethodName).cls yX9_appendText yX9_appendText ∈ bigw := ⟨(gb4 92 (by decide +kernel) (by decide +kernel)), (gb4 93 (by decide +kernel) (by decide +kernel))⟩
theorem lkL_7 : LKV RL 7 yX9_appendText cX9_appendText 6 (some .int) 5 := ⟨⟨(gb4 91 (by decide +kernel) (by decide +kernel)), mc_X9_appendText, mi_X9_appendText, by decide, by decide +kernel⟩, ms_X9_appendText.1, ms_X9_appendText.2⟩
set_option maxRecDepth 100000 in
theorem mc_X8_addWord : .code yX8_addWord cX8_addWord 3 none ∈ bigw := (gb4 162 rfl (by decide +kernel))
theorem mi_X8_addWord : .initialized (yX8_addWord : MethodName).cls ∈ bigw := (gb1 2 (by decide +kernel) (by decide +kernel))
theorem ms_X8_addWord : .instanceMethod yX8_addWord ∈ bigw ∧ .selects (yX8_addWord : MethodName).cls yX8_addWord yX8_addWord ∈ bigw := ⟨(gb4 160 (by decide +kernel) (by decide +kernel)), (gb4 161 (by decide +kernel) (by decide +kernel))⟩
theorem lkX9_99 : LKV RX9 99 yX8_addWord cX8_addWord 3 none 1 := ⟨⟨(gb4 159 (by decide +kernel) (by decide +kernel)), mc_X8_addWord, mi_X8_addWord, by decide, by decide +kernel⟩, ms_X8_addWord.1, ms_X8_addWord.2⟩
set_option maxRecDepth 100000 in
theorem mc_X9_truncateText : .code yX9_truncateText cX9_truncateText 2 (some .int) ∈ bigw := (gb4 170 rfl (by decide +kernel))
theorem mi_X9_truncateText : .initialized (yX9_truncateText : MethodName).cls ∈ bigw := (gb1 1 (by decide +kernel) (by decide +kernel))
theorem ms_X9_truncateText : .instanceMethod yX9_truncateText ∈ bigw ∧ .selects (yX9_truncateText : MethodName).cls yX9_truncateText yX9_truncateText ∈ bigw := ⟨(gb4 168 (by decide +kernel) (by decide +kernel)), (gb4 169 (by decide +kernel) (by decide +kernel))⟩
theorem lkL_15 : LKV RL 15 yX9_truncateText cX9_truncateText 2 (some .int) 1 := ⟨⟨(gb4 167 (by decide +kernel) (by decide +kernel)), mc_X9_truncateText, mi_X9_truncateText, by decide, by decide +kernel⟩, ms_X9_truncateText.1, ms_X9_truncateText.2⟩
set_option maxRecDepth 100000 in
theorem mc_X9_open : .code yX9_open cX9_open 2 (some .int) ∈ bigw := (gb4 193 rfl (by decide +kernel))
theorem mi_X9_open : .initialized (yX9_open : MethodName).cls ∈ bigw := (gb1 1 (by decide +kernel) (by decide +kernel))
theorem ms_X9_open : .instanceMethod yX9_open ∈ bigw ∧ .selects (yX9_open : MethodName).cls yX9_open yX9_open ∈ bigw := ⟨(gb4 191 (by decide +kernel) (by decide +kernel)), (gb4 192 (by decide +kernel) (by decide +kernel))⟩
theorem lkL_21 : LKV RL 21 yX9_open cX9_open 2 (some .int) 1 := ⟨⟨(gb4 190 (by decide +kernel) (by decide +kernel)), mc_X9_open, mi_X9_open, by decide, by decide +kernel⟩, ms_X9_open.1, ms_X9_open.2⟩
theorem lkX9_128 : LKV RX9 128 yX1_hasValve cX1_hasValve 2 (some .boolean) 1 := ⟨⟨(gb4 194 (by decide +kernel) (by decide +kernel)), mc_X1_hasValve, mi_X1_hasValve, by decide, by decide +kernel⟩, ms_X1_hasValve.1, ms_X1_hasValve.2⟩
theorem lkX9_142 : LKV RX9 142 yX5_openValve cX5_openValve 2 none 1 := ⟨⟨(gb4 210 (by decide +kernel) (by decide +kernel)), mc_X5_openValve, mi_X5_openValve, by decide, by decide +kernel⟩, ms_X5_openValve.1, ms_X5_openValve.2⟩
theorem lkX9_148 : LKV RX9 148 yX5_difference cX5_difference 2 (some .int) 1 := ⟨⟨(gb4 211 (by decide +kernel) (by decide +kernel)), mc_X5_difference, mi_X5_difference, by decide, by decide +kernel⟩, ms_X5_difference.1, ms_X5_difference.2⟩
set_option maxRecDepth 100000 in
theorem mc_X9_close : .code yX9_close cX9_close 2 (some .int) ∈ bigw := (gb4 218 rfl (by decide +kernel))
theorem mi_X9_close : .initialized (yX9_close : MethodName).cls ∈ bigw := (gb1 1 (by decide +kernel) (by decide +kernel))
theorem ms_X9_close : .instanceMethod yX9_close ∈ bigw ∧ .selects (yX9_close : MethodName).cls yX9_close yX9_close ∈ bigw := ⟨(gb4 216 (by decide +kernel) (by decide +kernel)), (gb4 217 (by decide +kernel) (by decide +kernel))⟩
theorem lkL_26 : LKV RL 26 yX9_close cX9_close 2 (some .int) 1 := ⟨⟨(gb4 215 (by decide +kernel) (by decide +kernel)), mc_X9_close, mi_X9_close, by decide, by decide +kernel⟩, ms_X9_close.1, ms_X9_close.2⟩
theorem lkX9_151 : LKV RX9 151 yX5_isOpen cX5_isOpen 2 (some .boolean) 1 := ⟨⟨(gb4 219 (by decide +kernel) (by decide +kernel)), mc_X5_isOpen, mi_X5_isOpen, by decide, by decide +kernel⟩, ms_X5_isOpen.1, ms_X5_isOpen.2⟩
theorem lkX9_154 : LKV RX9 154 yX5_closeValve cX5_closeValve 2 none 1 := ⟨⟨(gb4 220 (by decide +kernel) (by decide +kernel)), mc_X5_closeValve, mi_X5_closeValve, by decide, by decide +kernel⟩, ms_X5_closeValve.1, ms_X5_closeValve.2⟩
set_option maxRecDepth 100000 in
theorem mc_X9_start : .code yX9_start cX9_start 2 (some .int) ∈ bigw := (gb4 227 rfl (by decide +kernel))
theorem mi_X9_start : .initialized (yX9_start : MethodName).cls ∈ bigw := (gb1 1 (by decide +kernel) (by decide +kernel))
theorem ms_X9_start : .instanceMethod yX9_start ∈ bigw ∧ .selects (yX9_start : MethodName).cls yX9_start yX9_start ∈ bigw := ⟨(gb4 225 (by decide +kernel) (by decide +kernel)), (gb4 226 (by decide +kernel) (by decide +kernel))⟩
theorem lkL_29 : LKV RL 29 yX9_start cX9_start 2 (some .int) 1 := ⟨⟨(gb4 224 (by decide +kernel) (by decide +kernel)), mc_X9_start, mi_X9_start, by decide, by decide +kernel⟩, ms_X9_start.1, ms_X9_start.2⟩
theorem lkX9_157 : LKV RX9 157 yX1_hasPump cX1_hasPump 2 (some .boolean) 1 := ⟨⟨(gb4 228 (by decide +kernel) (by decide +kernel)), mc_X1_hasPump, mi_X1_hasPump, by decide, by decide +kernel⟩, ms_X1_hasPump.1, ms_X1_hasPump.2⟩
theorem lkX9_160 : LKV RX9 160 yX5_startingBar cX5_startingBar 2 (some .int) 1 := ⟨⟨(gb4 229 (by decide +kernel) (by decide +kernel)), mc_X5_startingBar, mi_X5_startingBar, by decide, by decide +kernel⟩, ms_X5_startingBar.1, ms_X5_startingBar.2⟩
theorem lkX9_163 : LKV RX9 163 yX5_startPump cX5_startPump 2 none 1 := ⟨⟨(gb4 230 (by decide +kernel) (by decide +kernel)), mc_X5_startPump, mi_X5_startPump, by decide, by decide +kernel⟩, ms_X5_startPump.1, ms_X5_startPump.2⟩
set_option maxRecDepth 100000 in
theorem mc_X9_stop : .code yX9_stop cX9_stop 2 (some .int) ∈ bigw := (gb4 237 rfl (by decide +kernel))
theorem mi_X9_stop : .initialized (yX9_stop : MethodName).cls ∈ bigw := (gb1 1 (by decide +kernel) (by decide +kernel))
theorem ms_X9_stop : .instanceMethod yX9_stop ∈ bigw ∧ .selects (yX9_stop : MethodName).cls yX9_stop yX9_stop ∈ bigw := ⟨(gb4 235 (by decide +kernel) (by decide +kernel)), (gb4 236 (by decide +kernel) (by decide +kernel))⟩
theorem lkL_32 : LKV RL 32 yX9_stop cX9_stop 2 (some .int) 1 := ⟨⟨(gb4 234 (by decide +kernel) (by decide +kernel)), mc_X9_stop, mi_X9_stop, by decide, by decide +kernel⟩, ms_X9_stop.1, ms_X9_stop.2⟩
theorem lkX9_173 : LKV RX9 173 yX5_isRunning cX5_isRunning 2 (some .boolean) 1 := ⟨⟨(gb4 238 (by decide +kernel) (by decide +kernel)), mc_X5_isRunning, mi_X5_isRunning, by decide, by decide +kernel⟩, ms_X5_isRunning.1, ms_X5_isRunning.2⟩
theorem lkX9_176 : LKV RX9 176 yX5_stopPump cX5_stopPump 2 none 1 := ⟨⟨(gb4 239 (by decide +kernel) (by decide +kernel)), mc_X5_stopPump, mi_X5_stopPump, by decide, by decide +kernel⟩, ms_X5_stopPump.1, ms_X5_stopPump.2⟩
set_option maxRecDepth 100000 in
theorem mc_X9_pass : .code yX9_pass cX9_pass 3 (some .int) ∈ bigw := (gb5 6 rfl (by decide +kernel))
theorem mi_X9_pass : .initialized (yX9_pass : MethodName).cls ∈ bigw := (gb1 1 (by decide +kernel) (by decide +kernel))
theorem ms_X9_pass : .instanceMethod yX9_pass ∈ bigw ∧ .selects (yX9_pass : MethodName).cls yX9_pass yX9_pass ∈ bigw := ⟨(gb5 4 (by decide +kernel) (by decide +kernel)), (gb5 5 (by decide +kernel) (by decide +kernel))⟩
theorem lkL_35 : LKV RL 35 yX9_pass cX9_pass 3 (some .int) 1 := ⟨⟨(gb5 3 (by decide +kernel) (by decide +kernel)), mc_X9_pass, mi_X9_pass, by decide, by decide +kernel⟩, ms_X9_pass.1, ms_X9_pass.2⟩
theorem lkX9_182 : LKV RX9 182 yX5_passTicks cX5_passTicks 4 (some .int) 1 := ⟨⟨(gb5 7 (by decide +kernel) (by decide +kernel)), mc_X5_passTicks, mi_X5_passTicks, by decide, by decide +kernel⟩, ms_X5_passTicks.1, ms_X5_passTicks.2⟩
set_option maxRecDepth 100000 in
theorem mc_X9_passUntil : .code yX9_passUntil cX9_passUntil 4 (some .int) ∈ bigw := (gb5 14 rfl (by decide +kernel))
theorem mi_X9_passUntil : .initialized (yX9_passUntil : MethodName).cls ∈ bigw := (gb1 1 (by decide +kernel) (by decide +kernel))
theorem ms_X9_passUntil : .instanceMethod yX9_passUntil ∈ bigw ∧ .selects (yX9_passUntil : MethodName).cls yX9_passUntil yX9_passUntil ∈ bigw := ⟨(gb5 12 (by decide +kernel) (by decide +kernel)), (gb5 13 (by decide +kernel) (by decide +kernel))⟩
theorem lkL_38 : LKV RL 38 yX9_passUntil cX9_passUntil 4 (some .int) 2 := ⟨⟨(gb5 11 (by decide +kernel) (by decide +kernel)), mc_X9_passUntil, mi_X9_passUntil, by decide, by decide +kernel⟩, ms_X9_passUntil.1, ms_X9_passUntil.2⟩
theorem lkX9_185 : LKV RX9 185 yX1_hasChamber cX1_hasChamber 2 (some .boolean) 1 := ⟨⟨(gb5 15 (by decide +kernel) (by decide +kernel)), mc_X1_hasChamber, mi_X1_hasChamber, by decide, by decide +kernel⟩, ms_X1_hasChamber.1, ms_X1_hasChamber.2⟩
set_option maxRecDepth 100000 in
theorem mc_X9_isPressure : .code yX9_isPressure cX9_isPressure 1 (some .boolean) ∈ bigw := (gb4 1 rfl (by decide +kernel))
theorem mi_X9_isPressure : .initialized (yX9_isPressure : MethodName).cls ∈ bigw := (gb1 1 (by decide +kernel) (by decide +kernel))
theorem ms_X9_isPressure : .static yX9_isPressure ∈ bigw := (gb4 0 (by decide +kernel) (by decide +kernel))
theorem lkX9_188 : LKS RX9 188 yX9_isPressure cX9_isPressure 1 (some .boolean) 1 := ⟨⟨(gb5 16 (by decide +kernel) (by decide +kernel)), mc_X9_isPressure, mi_X9_isPressure, by decide, by decide +kernel⟩, ms_X9_isPressure⟩
theorem lkX9_191 : LKV RX9 191 yX5_passUntilAtMost cX5_passUntilAtMost 4 (some .int) 2 := ⟨⟨(gb5 17 (by decide +kernel) (by decide +kernel)), mc_X5_passUntilAtMost, mi_X5_passUntilAtMost, by decide, by decide +kernel⟩, ms_X5_passUntilAtMost.1, ms_X5_passUntilAtMost.2⟩
set_option maxRecDepth 100000 in
theorem mc_X9_seal : .code yX9_seal cX9_seal 2 (some .int) ∈ bigw := (gb5 24 rfl (by decide +kernel))
theorem mi_X9_seal : .initialized (yX9_seal : MethodName).cls ∈ bigw := (gb1 1 (by decide +kernel) (by decide +kernel))
theorem ms_X9_seal : .instanceMethod yX9_seal ∈ bigw ∧ .selects (yX9_seal : MethodName).cls yX9_seal yX9_seal ∈ bigw := ⟨(gb5 22 (by decide +kernel) (by decide +kernel)), (gb5 23 (by decide +kernel) (by decide +kernel))⟩
theorem lkL_42 : LKV RL 42 yX9_seal cX9_seal 2 (some .int) 1 := ⟨⟨(gb5 21 (by decide +kernel) (by decide +kernel)), mc_X9_seal, mi_X9_seal, by decide, by decide +kernel⟩, ms_X9_seal.1, ms_X9_seal.2⟩
theorem lkX9_195 : LKV RX9 195 yX1_hasFlange cX1_hasFlange 2 (some .boolean) 1 := ⟨⟨(gb5 25 (by decide +kernel) (by decide +kernel)), mc_X1_hasFlange, mi_X1_hasFlange, by decide, by decide +kernel⟩, ms_X1_hasFlange.1, ms_X1_hasFlange.2⟩
set_option maxRecDepth 100000 in
theorem mc_X9_changeLeak : .code yX9_changeLeak cX9_changeLeak 4 (some .int) ∈ bigw := (gb5 29 rfl (by decide +kernel))
theorem mi_X9_changeLeak : .initialized (yX9_changeLeak : MethodName).cls ∈ bigw := (gb1 1 (by decide +kernel) (by decide +kernel))
theorem ms_X9_changeLeak : .instanceMethod yX9_changeLeak ∈ bigw ∧ .selects (yX9_changeLeak : MethodName).cls yX9_changeLeak yX9_changeLeak ∈ bigw := ⟨(gb5 28 (by decide +kernel) (by decide +kernel)), (gb0 21 (by decide +kernel) (by decide +kernel))⟩
theorem lkX9_198 : LKV RX9 198 yX9_changeLeak cX9_changeLeak 4 (some .int) 2 := ⟨⟨(gb5 26 (by decide +kernel) (by decide +kernel)), mc_X9_changeLeak, mi_X9_changeLeak, by decide, by decide +kernel⟩, ms_X9_changeLeak.1, ms_X9_changeLeak.2⟩
theorem lkX9_385 : LKV RX9 385 yX5_putLeak cX5_putLeak 3 none 2 := ⟨⟨(gb5 30 (by decide +kernel) (by decide +kernel)), mc_X5_putLeak, mi_X5_putLeak, by decide, by decide +kernel⟩, ms_X5_putLeak.1, ms_X5_putLeak.2⟩
set_option maxRecDepth 100000 in
theorem mc_X9_setLeak : .code yX9_setLeak cX9_setLeak 3 (some .int) ∈ bigw := (gb5 37 rfl (by decide +kernel))
theorem mi_X9_setLeak : .initialized (yX9_setLeak : MethodName).cls ∈ bigw := (gb1 1 (by decide +kernel) (by decide +kernel))
theorem ms_X9_setLeak : .instanceMethod yX9_setLeak ∈ bigw ∧ .selects (yX9_setLeak : MethodName).cls yX9_setLeak yX9_setLeak ∈ bigw := ⟨(gb5 35 (by decide +kernel) (by decide +kernel)), (gb5 36 (by decide +kernel) (by decide +kernel))⟩
theorem lkL_45 : LKV RL 45 yX9_setLeak cX9_setLeak 3 (some .int) 2 := ⟨⟨(gb5 34 (by decide +kernel) (by decide +kernel)), mc_X9_setLeak, mi_X9_setLeak, by decide, by decide +kernel⟩, ms_X9_setLeak.1, ms_X9_setLeak.2⟩
set_option maxRecDepth 100000 in
theorem mc_X9_setOutgassing : .code yX9_setOutgassing cX9_setOutgassing 4 (some .int) ∈ bigw := (gb5 44 rfl (by decide +kernel))
theorem mi_X9_setOutgassing : .initialized (yX9_setOutgassing : MethodName).cls ∈ bigw := (gb1 1 (by decide +kernel) (by decide +kernel))
theorem ms_X9_setOutgassing : .instanceMethod yX9_setOutgassing ∈ bigw ∧ .selects (yX9_setOutgassing : MethodName).cls yX9_setOutgassing yX9_setOutgassing ∈ bigw := ⟨(gb5 42 (by decide +kernel) (by decide +kernel)), (gb5 43 (by decide +kernel) (by decide +kernel))⟩
theorem lkL_48 : LKV RL 48 yX9_setOutgassing cX9_setOutgassing 4 (some .int) 2 := ⟨⟨(gb5 41 (by decide +kernel) (by decide +kernel)), mc_X9_setOutgassing, mi_X9_setOutgassing, by decide, by decide +kernel⟩, ms_X9_setOutgassing.1, ms_X9_setOutgassing.2⟩
set_option maxRecDepth 100000 in
theorem mc_X9_setRule : .code yX9_setRule cX9_setRule 4 (some .int) ∈ bigw := (gb5 51 rfl (by decide +kernel))
theorem mi_X9_setRule : .initialized (yX9_setRule : MethodName).cls ∈ bigw := (gb1 1 (by decide +kernel) (by decide +kernel))
theorem ms_X9_setRule : .instanceMethod yX9_setRule ∈ bigw ∧ .selects (yX9_setRule : MethodName).cls yX9_setRule yX9_setRule ∈ bigw := ⟨(gb5 49 (by decide +kernel) (by decide +kernel)), (gb5 50 (by decide +kernel) (by decide +kernel))⟩
theorem lkL_51 : LKV RL 51 yX9_setRule cX9_setRule 4 (some .int) 2 := ⟨⟨(gb5 48 (by decide +kernel) (by decide +kernel)), mc_X9_setRule, mi_X9_setRule, by decide, by decide +kernel⟩, ms_X9_setRule.1, ms_X9_setRule.2⟩
set_option maxRecDepth 100000 in
theorem mc_X9_test : .code yX9_test cX9_test 4 (some .int) ∈ bigw := (gb5 58 rfl (by decide +kernel))
theorem mi_X9_test : .initialized (yX9_test : MethodName).cls ∈ bigw := (gb1 1 (by decide +kernel) (by decide +kernel))
theorem ms_X9_test : .instanceMethod yX9_test ∈ bigw ∧ .selects (yX9_test : MethodName).cls yX9_test yX9_test ∈ bigw := ⟨(gb5 56 (by decide +kernel) (by decide +kernel)), (gb5 57 (by decide +kernel) (by decide +kernel))⟩
theorem lkL_54 : LKV RL 54 yX9_test cX9_test 4 (some .int) 2 := ⟨⟨(gb5 55 (by decide +kernel) (by decide +kernel)), mc_X9_test, mi_X9_test, by decide, by decide +kernel⟩, ms_X9_test.1, ms_X9_test.2⟩
set_option maxRecDepth 100000 in
theorem mc_X9_isTestTicks : .code yX9_isTestTicks cX9_isTestTicks 1 (some .boolean) ∈ bigw := (gb4 14 rfl (by decide +kernel))
theorem mi_X9_isTestTicks : .initialized (yX9_isTestTicks : MethodName).cls ∈ bigw := (gb1 1 (by decide +kernel) (by decide +kernel))
theorem ms_X9_isTestTicks : .static yX9_isTestTicks ∈ bigw := (gb4 13 (by decide +kernel) (by decide +kernel))
theorem lkX9_207 : LKS RX9 207 yX9_isTestTicks cX9_isTestTicks 1 (some .boolean) 1 := ⟨⟨(gb5 59 (by decide +kernel) (by decide +kernel)), mc_X9_isTestTicks, mi_X9_isTestTicks, by decide, by decide +kernel⟩, ms_X9_isTestTicks⟩
theorem lkX9_210 : LKV RX9 210 yX5_isShutOff cX5_isShutOff 4 (some .boolean) 1 := ⟨⟨(gb5 60 (by decide +kernel) (by decide +kernel)), mc_X5_isShutOff, mi_X5_isShutOff, by decide, by decide +kernel⟩, ms_X5_isShutOff.1, ms_X5_isShutOff.2⟩
theorem lkX9_213 : LKV RX9 213 yX5_makeTest cX5_makeTest 13 (some .int) 2 := ⟨⟨(gb5 61 (by decide +kernel) (by decide +kernel)), mc_X5_makeTest, mi_X5_makeTest, by decide, by decide +kernel⟩, ms_X5_makeTest.1, ms_X5_makeTest.2⟩
set_option maxRecDepth 100000 in
theorem mc_X9_count : .code yX9_count cX9_count 2 (some .int) ∈ bigw := (gb5 68 rfl (by decide +kernel))
theorem mi_X9_count : .initialized (yX9_count : MethodName).cls ∈ bigw := (gb1 1 (by decide +kernel) (by decide +kernel))
theorem ms_X9_count : .instanceMethod yX9_count ∈ bigw ∧ .selects (yX9_count : MethodName).cls yX9_count yX9_count ∈ bigw := ⟨(gb5 66 (by decide +kernel) (by decide +kernel)), (gb5 67 (by decide +kernel) (by decide +kernel))⟩
theorem lkL_57 : LKV RL 57 yX9_count cX9_count 2 (some .int) 1 := ⟨⟨(gb5 65 (by decide +kernel) (by decide +kernel)), mc_X9_count, mi_X9_count, by decide, by decide +kernel⟩, ms_X9_count.1, ms_X9_count.2⟩
set_option maxRecDepth 100000 in
theorem mc_X9_sum : .code yX9_sum cX9_sum 4 (some .int) ∈ bigw := (gb5 71 rfl (by decide +kernel))
theorem mi_X9_sum : .initialized (yX9_sum : MethodName).cls ∈ bigw := (gb1 1 (by decide +kernel) (by decide +kernel))
theorem ms_X9_sum : .static yX9_sum ∈ bigw := (gb5 70 (by decide +kernel) (by decide +kernel))
theorem lkX9_235 : LKS RX9 235 yX9_sum cX9_sum 4 (some .int) 2 := ⟨⟨(gb5 69 (by decide +kernel) (by decide +kernel)), mc_X9_sum, mi_X9_sum, by decide, by decide +kernel⟩, ms_X9_sum⟩
set_option maxRecDepth 100000 in
theorem mc_X9_chamber : .code yX9_chamber cX9_chamber 3 (some .int) ∈ bigw := (gb5 78 rfl (by decide +kernel))
theorem mi_X9_chamber : .initialized (yX9_chamber : MethodName).cls ∈ bigw := (gb1 1 (by decide +kernel) (by decide +kernel))
theorem ms_X9_chamber : .instanceMethod yX9_chamber ∈ bigw ∧ .selects (yX9_chamber : MethodName).cls yX9_chamber yX9_chamber ∈ bigw := ⟨(gb5 76 (by decide +kernel) (by decide +kernel)), (gb5 77 (by decide +kernel) (by decide +kernel))⟩
theorem lkL_60 : LKV RL 60 yX9_chamber cX9_chamber 3 (some .int) 2 := ⟨⟨(gb5 75 (by decide +kernel) (by decide +kernel)), mc_X9_chamber, mi_X9_chamber, by decide, by decide +kernel⟩, ms_X9_chamber.1, ms_X9_chamber.2⟩
set_option maxRecDepth 100000 in
theorem mc_X9_gas : .code yX9_gas cX9_gas 2 (some .long) ∈ bigw := (gb5 85 rfl (by decide +kernel))
theorem mi_X9_gas : .initialized (yX9_gas : MethodName).cls ∈ bigw := (gb1 1 (by decide +kernel) (by decide +kernel))
theorem ms_X9_gas : .instanceMethod yX9_gas ∈ bigw ∧ .selects (yX9_gas : MethodName).cls yX9_gas yX9_gas ∈ bigw := ⟨(gb5 83 (by decide +kernel) (by decide +kernel)), (gb5 84 (by decide +kernel) (by decide +kernel))⟩
theorem lkL_63 : LKV RL 63 yX9_gas cX9_gas 2 (some .long) 1 := ⟨⟨(gb5 82 (by decide +kernel) (by decide +kernel)), mc_X9_gas, mi_X9_gas, by decide, by decide +kernel⟩, ms_X9_gas.1, ms_X9_gas.2⟩
set_option maxRecDepth 100000 in
theorem mc_X9_pump : .code yX9_pump cX9_pump 3 (some .int) ∈ bigw := (gb5 92 rfl (by decide +kernel))
theorem mi_X9_pump : .initialized (yX9_pump : MethodName).cls ∈ bigw := (gb1 1 (by decide +kernel) (by decide +kernel))
theorem ms_X9_pump : .instanceMethod yX9_pump ∈ bigw ∧ .selects (yX9_pump : MethodName).cls yX9_pump yX9_pump ∈ bigw := ⟨(gb5 90 (by decide +kernel) (by decide +kernel)), (gb5 91 (by decide +kernel) (by decide +kernel))⟩
theorem lkL_67 : LKV RL 67 yX9_pump cX9_pump 3 (some .int) 2 := ⟨⟨(gb5 89 (by decide +kernel) (by decide +kernel)), mc_X9_pump, mi_X9_pump, by decide, by decide +kernel⟩, ms_X9_pump.1, ms_X9_pump.2⟩
set_option maxRecDepth 100000 in
theorem mc_X9_told : .code yX9_told cX9_told 1 (some .int) ∈ bigw := (gb5 95 rfl (by decide +kernel))
theorem mi_X9_told : .initialized (yX9_told : MethodName).cls ∈ bigw := (gb1 1 (by decide +kernel) (by decide +kernel))
theorem ms_X9_told : .static yX9_told ∈ bigw := (gb5 94 (by decide +kernel) (by decide +kernel))
theorem lkX9_273 : LKS RX9 273 yX9_told cX9_told 1 (some .int) 1 := ⟨⟨(gb5 93 (by decide +kernel) (by decide +kernel)), mc_X9_told, mi_X9_told, by decide, by decide +kernel⟩, ms_X9_told⟩
set_option maxRecDepth 100000 in
theorem mc_X9_valve : .code yX9_valve cX9_valve 3 (some .int) ∈ bigw := (gb5 102 rfl (by decide +kernel))
theorem mi_X9_valve : .initialized (yX9_valve : MethodName).cls ∈ bigw := (gb1 1 (by decide +kernel) (by decide +kernel))
theorem ms_X9_valve : .instanceMethod yX9_valve ∈ bigw ∧ .selects (yX9_valve : MethodName).cls yX9_valve yX9_valve ∈ bigw := ⟨(gb5 100 (by decide +kernel) (by decide +kernel)), (gb5 101 (by decide +kernel) (by decide +kernel))⟩
theorem lkL_70 : LKV RL 70 yX9_valve cX9_valve 3 (some .int) 2 := ⟨⟨(gb5 99 (by decide +kernel) (by decide +kernel)), mc_X9_valve, mi_X9_valve, by decide, by decide +kernel⟩, ms_X9_valve.1, ms_X9_valve.2⟩
set_option maxRecDepth 100000 in
theorem mc_X9_flange : .code yX9_flange cX9_flange 3 (some .int) ∈ bigw := (gb5 109 rfl (by decide +kernel))
theorem mi_X9_flange : .initialized (yX9_flange : MethodName).cls ∈ bigw := (gb1 1 (by decide +kernel) (by decide +kernel))
theorem ms_X9_flange : .instanceMethod yX9_flange ∈ bigw ∧ .selects (yX9_flange : MethodName).cls yX9_flange yX9_flange ∈ bigw := ⟨(gb5 107 (by decide +kernel) (by decide +kernel)), (gb5 108 (by decide +kernel) (by decide +kernel))⟩
theorem lkL_73 : LKV RL 73 yX9_flange cX9_flange 3 (some .int) 2 := ⟨⟨(gb5 106 (by decide +kernel) (by decide +kernel)), mc_X9_flange, mi_X9_flange, by decide, by decide +kernel⟩, ms_X9_flange.1, ms_X9_flange.2⟩
set_option maxRecDepth 100000 in
theorem mc_X9_rise : .code yX9_rise cX9_rise 3 (some .int) ∈ bigw := (gb5 116 rfl (by decide +kernel))
theorem mi_X9_rise : .initialized (yX9_rise : MethodName).cls ∈ bigw := (gb1 1 (by decide +kernel) (by decide +kernel))
theorem ms_X9_rise : .instanceMethod yX9_rise ∈ bigw ∧ .selects (yX9_rise : MethodName).cls yX9_rise yX9_rise ∈ bigw := ⟨(gb5 114 (by decide +kernel) (by decide +kernel)), (gb5 115 (by decide +kernel) (by decide +kernel))⟩
theorem lkL_76 : LKV RL 76 yX9_rise cX9_rise 3 (some .int) 2 := ⟨⟨(gb5 113 (by decide +kernel) (by decide +kernel)), mc_X9_rise, mi_X9_rise, by decide, by decide +kernel⟩, ms_X9_rise.1, ms_X9_rise.2⟩
set_option maxRecDepth 100000 in
theorem mc_X7_fact : .code yX7_fact cX7_fact 3 (some .int) ∈ bigw := (gb5 120 rfl (by decide +kernel))
theorem mi_X7_fact : .initialized (yX7_fact : MethodName).cls ∈ bigw := (gb1 10 (by decide +kernel) (by decide +kernel))
theorem ms_X7_fact : .instanceMethod yX7_fact ∈ bigw ∧ .selects (yX7_fact : MethodName).cls yX7_fact yX7_fact ∈ bigw := ⟨(gb5 118 (by decide +kernel) (by decide +kernel)), (gb5 119 (by decide +kernel) (by decide +kernel))⟩
theorem lkX9_303 : LKV RX9 303 yX7_fact cX7_fact 3 (some .int) 2 := ⟨⟨(gb5 117 (by decide +kernel) (by decide +kernel)), mc_X7_fact, mi_X7_fact, by decide, by decide +kernel⟩, ms_X7_fact.1, ms_X7_fact.2⟩
set_option maxRecDepth 100000 in
theorem mc_X7_slot : .code yX7_slot cX7_slot 2 (some .int) ∈ bigw := (gb5 124 rfl (by decide +kernel))
theorem mi_X7_slot : .initialized (yX7_slot : MethodName).cls ∈ bigw := (gb1 10 (by decide +kernel) (by decide +kernel))
theorem ms_X7_slot : .instanceMethod yX7_slot ∈ bigw ∧ .selects (yX7_slot : MethodName).cls yX7_slot yX7_slot ∈ bigw := ⟨(gb5 123 (by decide +kernel) (by decide +kernel)), (gb0 22 (by decide +kernel) (by decide +kernel))⟩
theorem lkX7_36 : LKV RX7 36 yX7_slot cX7_slot 2 (some .int) 1 := ⟨⟨(gb5 121 (by decide +kernel) (by decide +kernel)), mc_X7_slot, mi_X7_slot, by decide, by decide +kernel⟩, ms_X7_slot.1, ms_X7_slot.2⟩
set_option maxRecDepth 100000 in
theorem mc_X9_riseGas : .code yX9_riseGas cX9_riseGas 3 (some .long) ∈ bigw := (gb5 131 rfl (by decide +kernel))
theorem mi_X9_riseGas : .initialized (yX9_riseGas : MethodName).cls ∈ bigw := (gb1 1 (by decide +kernel) (by decide +kernel))
theorem ms_X9_riseGas : .instanceMethod yX9_riseGas ∈ bigw ∧ .selects (yX9_riseGas : MethodName).cls yX9_riseGas yX9_riseGas ∈ bigw := ⟨(gb5 129 (by decide +kernel) (by decide +kernel)), (gb5 130 (by decide +kernel) (by decide +kernel))⟩
theorem lkL_79 : LKV RL 79 yX9_riseGas cX9_riseGas 3 (some .long) 2 := ⟨⟨(gb5 128 (by decide +kernel) (by decide +kernel)), mc_X9_riseGas, mi_X9_riseGas, by decide, by decide +kernel⟩, ms_X9_riseGas.1, ms_X9_riseGas.2⟩
set_option maxRecDepth 100000 in
theorem mc_X7_riseOf : .code yX7_riseOf cX7_riseOf 3 (some .long) ∈ bigw := (gb5 135 rfl (by decide +kernel))
theorem mi_X7_riseOf : .initialized (yX7_riseOf : MethodName).cls ∈ bigw := (gb1 10 (by decide +kernel) (by decide +kernel))
theorem ms_X7_riseOf : .instanceMethod yX7_riseOf ∈ bigw ∧ .selects (yX7_riseOf : MethodName).cls yX7_riseOf yX7_riseOf ∈ bigw := ⟨(gb5 133 (by decide +kernel) (by decide +kernel)), (gb5 134 (by decide +kernel) (by decide +kernel))⟩
theorem lkX9_306 : LKV RX9 306 yX7_riseOf cX7_riseOf 3 (some .long) 2 := ⟨⟨(gb5 132 (by decide +kernel) (by decide +kernel)), mc_X7_riseOf, mi_X7_riseOf, by decide, by decide +kernel⟩, ms_X7_riseOf.1, ms_X7_riseOf.2⟩
set_option maxRecDepth 100000 in
theorem mc_X9_mayOpen : .code yX9_mayOpen cX9_mayOpen 2 (some .int) ∈ bigw := (gb5 142 rfl (by decide +kernel))
theorem mi_X9_mayOpen : .initialized (yX9_mayOpen : MethodName).cls ∈ bigw := (gb1 1 (by decide +kernel) (by decide +kernel))
theorem ms_X9_mayOpen : .instanceMethod yX9_mayOpen ∈ bigw ∧ .selects (yX9_mayOpen : MethodName).cls yX9_mayOpen yX9_mayOpen ∈ bigw := ⟨(gb5 140 (by decide +kernel) (by decide +kernel)), (gb5 141 (by decide +kernel) (by decide +kernel))⟩
theorem lkL_83 : LKV RL 83 yX9_mayOpen cX9_mayOpen 2 (some .int) 1 := ⟨⟨(gb5 139 (by decide +kernel) (by decide +kernel)), mc_X9_mayOpen, mi_X9_mayOpen, by decide, by decide +kernel⟩, ms_X9_mayOpen.1, ms_X9_mayOpen.2⟩
set_option maxRecDepth 100000 in
theorem mc_X9_mayStart : .code yX9_mayStart cX9_mayStart 2 (some .int) ∈ bigw := (gb5 149 rfl (by decide +kernel))
theorem mi_X9_mayStart : .initialized (yX9_mayStart : MethodName).cls ∈ bigw := (gb1 1 (by decide +kernel) (by decide +kernel))
theorem ms_X9_mayStart : .instanceMethod yX9_mayStart ∈ bigw ∧ .selects (yX9_mayStart : MethodName).cls yX9_mayStart yX9_mayStart ∈ bigw := ⟨(gb5 147 (by decide +kernel) (by decide +kernel)), (gb5 148 (by decide +kernel) (by decide +kernel))⟩
theorem lkL_86 : LKV RL 86 yX9_mayStart cX9_mayStart 2 (some .int) 1 := ⟨⟨(gb5 146 (by decide +kernel) (by decide +kernel)), mc_X9_mayStart, mi_X9_mayStart, by decide, by decide +kernel⟩, ms_X9_mayStart.1, ms_X9_mayStart.2⟩
set_option maxRecDepth 100000 in
theorem mc_X9_joined : .code yX9_joined cX9_joined 2 (some .int) ∈ bigw := (gb5 156 rfl (by decide +kernel))
theorem mi_X9_joined : .initialized (yX9_joined : MethodName).cls ∈ bigw := (gb1 1 (by decide +kernel) (by decide +kernel))
theorem ms_X9_joined : .instanceMethod yX9_joined ∈ bigw ∧ .selects (yX9_joined : MethodName).cls yX9_joined yX9_joined ∈ bigw := ⟨(gb5 154 (by decide +kernel) (by decide +kernel)), (gb5 155 (by decide +kernel) (by decide +kernel))⟩
theorem lkL_89 : LKV RL 89 yX9_joined cX9_joined 2 (some .int) 1 := ⟨⟨(gb5 153 (by decide +kernel) (by decide +kernel)), mc_X9_joined, mi_X9_joined, by decide, by decide +kernel⟩, ms_X9_joined.1, ms_X9_joined.2⟩
set_option maxRecDepth 100000 in
theorem mc_X5_reach : .code yX5_reach cX5_reach 4 (some .int) ∈ bigw := (gb5 160 rfl (by decide +kernel))
theorem mi_X5_reach : .initialized (yX5_reach : MethodName).cls ∈ bigw := (gb1 9 (by decide +kernel) (by decide +kernel))
theorem ms_X5_reach : .instanceMethod yX5_reach ∈ bigw ∧ .selects (yX5_reach : MethodName).cls yX5_reach yX5_reach ∈ bigw := ⟨(gb5 158 (by decide +kernel) (by decide +kernel)), (gb5 159 (by decide +kernel) (by decide +kernel))⟩
theorem lkX9_310 : LKV RX9 310 yX5_reach cX5_reach 4 (some .int) 1 := ⟨⟨(gb5 157 (by decide +kernel) (by decide +kernel)), mc_X5_reach, mi_X5_reach, by decide, by decide +kernel⟩, ms_X5_reach.1, ms_X5_reach.2⟩
set_option maxRecDepth 100000 in
theorem mc_X1_grown : .code yX1_grown cX1_grown 5 (some .int) ∈ bigw := (gb5 164 rfl (by decide +kernel))
theorem mi_X1_grown : .initialized (yX1_grown : MethodName).cls ∈ bigw := (gb1 4 (by decide +kernel) (by decide +kernel))
theorem ms_X1_grown : .instanceMethod yX1_grown ∈ bigw ∧ .selects (yX1_grown : MethodName).cls yX1_grown yX1_grown ∈ bigw := ⟨(gb5 162 (by decide +kernel) (by decide +kernel)), (gb5 163 (by decide +kernel) (by decide +kernel))⟩
theorem lkX5_151 : LKV RX5 151 yX1_grown cX1_grown 5 (some .int) 2 := ⟨⟨(gb5 161 (by decide +kernel) (by decide +kernel)), mc_X1_grown, mi_X1_grown, by decide, by decide +kernel⟩, ms_X1_grown.1, ms_X1_grown.2⟩
set_option maxRecDepth 100000 in
theorem mc_X9_isVented : .code yX9_isVented cX9_isVented 2 (some .boolean) ∈ bigw := (gb5 172 rfl (by decide +kernel))
theorem mi_X9_isVented : .initialized (yX9_isVented : MethodName).cls ∈ bigw := (gb1 1 (by decide +kernel) (by decide +kernel))
theorem ms_X9_isVented : .instanceMethod yX9_isVented ∈ bigw ∧ .selects (yX9_isVented : MethodName).cls yX9_isVented yX9_isVented ∈ bigw := ⟨(gb5 170 (by decide +kernel) (by decide +kernel)), (gb5 171 (by decide +kernel) (by decide +kernel))⟩
theorem lkL_92 : LKV RL 92 yX9_isVented cX9_isVented 2 (some .boolean) 1 := ⟨⟨(gb5 169 (by decide +kernel) (by decide +kernel)), mc_X9_isVented, mi_X9_isVented, by decide, by decide +kernel⟩, ms_X9_isVented.1, ms_X9_isVented.2⟩
set_option maxRecDepth 100000 in
theorem mc_X9_has : .code yX9_has cX9_has 2 (some .boolean) ∈ bigw := (gb4 74 rfl (by decide +kernel))
theorem mi_X9_has : .initialized (yX9_has : MethodName).cls ∈ bigw := (gb1 1 (by decide +kernel) (by decide +kernel))
theorem ms_X9_has : .static yX9_has ∈ bigw := (gb4 73 (by decide +kernel) (by decide +kernel))
theorem lkX9_313 : LKS RX9 313 yX9_has cX9_has 2 (some .boolean) 2 := ⟨⟨(gb5 173 (by decide +kernel) (by decide +kernel)), mc_X9_has, mi_X9_has, by decide, by decide +kernel⟩, ms_X9_has⟩
set_option maxRecDepth 100000 in
theorem mc_X9_spread : .code yX9_spread cX9_spread 6 (some .int) ∈ bigw := (gb5 180 rfl (by decide +kernel))
theorem mi_X9_spread : .initialized (yX9_spread : MethodName).cls ∈ bigw := (gb1 1 (by decide +kernel) (by decide +kernel))
theorem ms_X9_spread : .instanceMethod yX9_spread ∈ bigw ∧ .selects (yX9_spread : MethodName).cls yX9_spread yX9_spread ∈ bigw := ⟨(gb5 178 (by decide +kernel) (by decide +kernel)), (gb5 179 (by decide +kernel) (by decide +kernel))⟩
theorem lkL_96 : LKV RL 96 yX9_spread cX9_spread 6 (some .int) 1 := ⟨⟨(gb5 177 (by decide +kernel) (by decide +kernel)), mc_X9_spread, mi_X9_spread, by decide, by decide +kernel⟩, ms_X9_spread.1, ms_X9_spread.2⟩
set_option maxRecDepth 100000 in
theorem mc_Math_max : .code Lib.Math.max.name Lib.Math.max.code 2 (some .int) ∈ bigw := (gb5 183 rfl (by decide +kernel))
theorem mi_Math_max : .initialized (Lib.Math.max.name : MethodName).cls ∈ bigw := (gb1 17 (by decide +kernel) (by decide +kernel))
theorem ms_Math_max : .static Lib.Math.max.name ∈ bigw := (gb5 182 (by decide +kernel) (by decide +kernel))
theorem lkX9_322 : LKS RX9 322 Lib.Math.max.name Lib.Math.max.code 2 (some .int) 2 := ⟨⟨(gb5 181 (by decide +kernel) (by decide +kernel)), mc_Math_max, mi_Math_max, by decide, by decide +kernel⟩, ms_Math_max⟩
set_option maxRecDepth 100000 in
theorem mc_X9_isIsolated : .code yX9_isIsolated cX9_isIsolated 2 (some .boolean) ∈ bigw := (gb5 190 rfl (by decide +kernel))
theorem mi_X9_isIsolated : .initialized (yX9_isIsolated : MethodName).cls ∈ bigw := (gb1 1 (by decide +kernel) (by decide +kernel))
theorem ms_X9_isIsolated : .instanceMethod yX9_isIsolated ∈ bigw ∧ .selects (yX9_isIsolated : MethodName).cls yX9_isIsolated yX9_isIsolated ∈ bigw := ⟨(gb5 188 (by decide +kernel) (by decide +kernel)), (gb5 189 (by decide +kernel) (by decide +kernel))⟩
theorem lkL_99 : LKV RL 99 yX9_isIsolated cX9_isIsolated 2 (some .boolean) 1 := ⟨⟨(gb5 187 (by decide +kernel) (by decide +kernel)), mc_X9_isIsolated, mi_X9_isIsolated, by decide, by decide +kernel⟩, ms_X9_isIsolated.1, ms_X9_isIsolated.2⟩
set_option maxRecDepth 100000 in
theorem mc_X9_fewestValves : .code yX9_fewestValves cX9_fewestValves 6 (some .int) ∈ bigw := (gb5 197 rfl (by decide +kernel))
theorem mi_X9_fewestValves : .initialized (yX9_fewestValves : MethodName).cls ∈ bigw := (gb1 1 (by decide +kernel) (by decide +kernel))
theorem ms_X9_fewestValves : .instanceMethod yX9_fewestValves ∈ bigw ∧ .selects (yX9_fewestValves : MethodName).cls yX9_fewestValves yX9_fewestValves ∈ bigw := ⟨(gb5 195 (by decide +kernel) (by decide +kernel)), (gb5 196 (by decide +kernel) (by decide +kernel))⟩
theorem lkL_102 : LKV RL 102 yX9_fewestValves cX9_fewestValves 6 (some .int) 2 := ⟨⟨(gb5 194 (by decide +kernel) (by decide +kernel)), mc_X9_fewestValves, mi_X9_fewestValves, by decide, by decide +kernel⟩, ms_X9_fewestValves.1, ms_X9_fewestValves.2⟩
set_option maxRecDepth 100000 in
theorem mc_X1_allValves : .code yX1_allValves cX1_allValves 1 (some .int) ∈ bigw := (gb5 201 rfl (by decide +kernel))
theorem mi_X1_allValves : .initialized (yX1_allValves : MethodName).cls ∈ bigw := (gb1 4 (by decide +kernel) (by decide +kernel))
theorem ms_X1_allValves : .instanceMethod yX1_allValves ∈ bigw ∧ .selects (yX1_allValves : MethodName).cls yX1_allValves yX1_allValves ∈ bigw := ⟨(gb5 199 (by decide +kernel) (by decide +kernel)), (gb5 200 (by decide +kernel) (by decide +kernel))⟩
theorem lkX9_325 : LKV RX9 325 yX1_allValves cX1_allValves 1 (some .int) 0 := ⟨⟨(gb5 198 (by decide +kernel) (by decide +kernel)), mc_X1_allValves, mi_X1_allValves, by decide, by decide +kernel⟩, ms_X1_allValves.1, ms_X1_allValves.2⟩
theorem lkX9_329 : LKV RX9 329 yX1_grown cX1_grown 5 (some .int) 2 := ⟨⟨(gb5 202 (by decide +kernel) (by decide +kernel)), mc_X1_grown, mi_X1_grown, by decide, by decide +kernel⟩, ms_X1_grown.1, ms_X1_grown.2⟩
set_option maxRecDepth 100000 in
theorem mc_X9_settled : .code yX9_settled cX9_settled 7 (some .int) ∈ bigw := (gb5 209 rfl (by decide +kernel))
theorem mi_X9_settled : .initialized (yX9_settled : MethodName).cls ∈ bigw := (gb1 1 (by decide +kernel) (by decide +kernel))
theorem ms_X9_settled : .instanceMethod yX9_settled ∈ bigw ∧ .selects (yX9_settled : MethodName).cls yX9_settled yX9_settled ∈ bigw := ⟨(gb5 207 (by decide +kernel) (by decide +kernel)), (gb5 208 (by decide +kernel) (by decide +kernel))⟩
theorem lkL_105 : LKV RL 105 yX9_settled cX9_settled 7 (some .int) 1 := ⟨⟨(gb5 206 (by decide +kernel) (by decide +kernel)), mc_X9_settled, mi_X9_settled, by decide, by decide +kernel⟩, ms_X9_settled.1, ms_X9_settled.2⟩
set_option maxRecDepth 100000 in
theorem mc_X9_widest : .code yX9_widest cX9_widest 4 (some .int) ∈ bigw := (gb5 217 rfl (by decide +kernel))
theorem mi_X9_widest : .initialized (yX9_widest : MethodName).cls ∈ bigw := (gb1 1 (by decide +kernel) (by decide +kernel))
theorem ms_X9_widest : .instanceMethod yX9_widest ∈ bigw ∧ .selects (yX9_widest : MethodName).cls yX9_widest yX9_widest ∈ bigw := ⟨(gb5 215 (by decide +kernel) (by decide +kernel)), (gb5 216 (by decide +kernel) (by decide +kernel))⟩
theorem lkL_108 : LKV RL 108 yX9_widest cX9_widest 4 (some .int) 0 := ⟨⟨(gb5 214 (by decide +kernel) (by decide +kernel)), mc_X9_widest, mi_X9_widest, by decide, by decide +kernel⟩, ms_X9_widest.1, ms_X9_widest.2⟩
set_option maxRecDepth 100000 in
theorem mc_X9_pressureAfter : .code yX9_pressureAfter cX9_pressureAfter 3 (some .int) ∈ bigw := (gb5 239 rfl (by decide +kernel))
theorem mi_X9_pressureAfter : .initialized (yX9_pressureAfter : MethodName).cls ∈ bigw := (gb1 1 (by decide +kernel) (by decide +kernel))
theorem ms_X9_pressureAfter : .instanceMethod yX9_pressureAfter ∈ bigw ∧ .selects (yX9_pressureAfter : MethodName).cls yX9_pressureAfter yX9_pressureAfter ∈ bigw := ⟨(gb5 237 (by decide +kernel) (by decide +kernel)), (gb5 238 (by decide +kernel) (by decide +kernel))⟩
theorem lkL_114 : LKV RL 114 yX9_pressureAfter cX9_pressureAfter 3 (some .int) 2 := ⟨⟨(gb5 236 (by decide +kernel) (by decide +kernel)), mc_X9_pressureAfter, mi_X9_pressureAfter, by decide, by decide +kernel⟩, ms_X9_pressureAfter.1, ms_X9_pressureAfter.2⟩
set_option maxRecDepth 100000 in
theorem mc_X9_lowest : .code yX9_lowest cX9_lowest 5 (some .int) ∈ bigw := (gb6 6 rfl (by decide +kernel))
theorem mi_X9_lowest : .initialized (yX9_lowest : MethodName).cls ∈ bigw := (gb1 1 (by decide +kernel) (by decide +kernel))
theorem ms_X9_lowest : .instanceMethod yX9_lowest ∈ bigw ∧ .selects (yX9_lowest : MethodName).cls yX9_lowest yX9_lowest ∈ bigw := ⟨(gb6 4 (by decide +kernel) (by decide +kernel)), (gb6 5 (by decide +kernel) (by decide +kernel))⟩
theorem lkL_117 : LKV RL 117 yX9_lowest cX9_lowest 5 (some .int) 2 := ⟨⟨(gb6 3 (by decide +kernel) (by decide +kernel)), mc_X9_lowest, mi_X9_lowest, by decide, by decide +kernel⟩, ms_X9_lowest.1, ms_X9_lowest.2⟩
theorem lkX9_335 : LKV RX9 335 yX5_tick cX5_tick 2 (some .int) 0 := ⟨⟨(gb6 7 (by decide +kernel) (by decide +kernel)), mc_X5_tick, mi_X5_tick, by decide, by decide +kernel⟩, ms_X5_tick.1, ms_X5_tick.2⟩
set_option maxRecDepth 100000 in
theorem mc_X9_ticksTo : .code yX9_ticksTo cX9_ticksTo 4 (some .int) ∈ bigw := (gb6 14 rfl (by decide +kernel))
theorem mi_X9_ticksTo : .initialized (yX9_ticksTo : MethodName).cls ∈ bigw := (gb1 1 (by decide +kernel) (by decide +kernel))
theorem ms_X9_ticksTo : .instanceMethod yX9_ticksTo ∈ bigw ∧ .selects (yX9_ticksTo : MethodName).cls yX9_ticksTo yX9_ticksTo ∈ bigw := ⟨(gb6 12 (by decide +kernel) (by decide +kernel)), (gb6 13 (by decide +kernel) (by decide +kernel))⟩
theorem lkL_120 : LKV RL 120 yX9_ticksTo cX9_ticksTo 4 (some .int) 2 := ⟨⟨(gb6 11 (by decide +kernel) (by decide +kernel)), mc_X9_ticksTo, mi_X9_ticksTo, by decide, by decide +kernel⟩, ms_X9_ticksTo.1, ms_X9_ticksTo.2⟩
set_option maxRecDepth 100000 in
theorem mc_X9_tripsIn : .code yX9_tripsIn cX9_tripsIn 2 (some .int) ∈ bigw := (gb6 21 rfl (by decide +kernel))
theorem mi_X9_tripsIn : .initialized (yX9_tripsIn : MethodName).cls ∈ bigw := (gb1 1 (by decide +kernel) (by decide +kernel))
theorem ms_X9_tripsIn : .instanceMethod yX9_tripsIn ∈ bigw ∧ .selects (yX9_tripsIn : MethodName).cls yX9_tripsIn yX9_tripsIn ∈ bigw := ⟨(gb6 19 (by decide +kernel) (by decide +kernel)), (gb6 20 (by decide +kernel) (by decide +kernel))⟩
theorem lkL_123 : LKV RL 123 yX9_tripsIn cX9_tripsIn 2 (some .int) 1 := ⟨⟨(gb6 18 (by decide +kernel) (by decide +kernel)), mc_X9_tripsIn, mi_X9_tripsIn, by decide, by decide +kernel⟩, ms_X9_tripsIn.1, ms_X9_tripsIn.2⟩
set_option maxRecDepth 100000 in
theorem mc_X9_meanPressure : .code yX9_meanPressure cX9_meanPressure 6 (some .double) ∈ bigw := (gb6 28 rfl (by decide +kernel))
theorem mi_X9_meanPressure : .initialized (yX9_meanPressure : MethodName).cls ∈ bigw := (gb1 1 (by decide +kernel) (by decide +kernel))
theorem ms_X9_meanPressure : .instanceMethod yX9_meanPressure ∈ bigw ∧ .selects (yX9_meanPressure : MethodName).cls yX9_meanPressure yX9_meanPressure ∈ bigw := ⟨(gb6 26 (by decide +kernel) (by decide +kernel)), (gb6 27 (by decide +kernel) (by decide +kernel))⟩
theorem lkL_126 : LKV RL 126 yX9_meanPressure cX9_meanPressure 6 (some .double) 2 := ⟨⟨(gb6 25 (by decide +kernel) (by decide +kernel)), mc_X9_meanPressure, mi_X9_meanPressure, by decide, by decide +kernel⟩, ms_X9_meanPressure.1, ms_X9_meanPressure.2⟩
set_option maxRecDepth 100000 in
theorem mc_X9_bestPump : .code yX9_bestPump cX9_bestPump 6 (some .int) ∈ bigw := (gb6 35 rfl (by decide +kernel))
theorem mi_X9_bestPump : .initialized (yX9_bestPump : MethodName).cls ∈ bigw := (gb1 1 (by decide +kernel) (by decide +kernel))
theorem ms_X9_bestPump : .instanceMethod yX9_bestPump ∈ bigw ∧ .selects (yX9_bestPump : MethodName).cls yX9_bestPump yX9_bestPump ∈ bigw := ⟨(gb6 33 (by decide +kernel) (by decide +kernel)), (gb6 34 (by decide +kernel) (by decide +kernel))⟩
theorem lkL_130 : LKV RL 130 yX9_bestPump cX9_bestPump 6 (some .int) 2 := ⟨⟨(gb6 32 (by decide +kernel) (by decide +kernel)), mc_X9_bestPump, mi_X9_bestPump, by decide, by decide +kernel⟩, ms_X9_bestPump.1, ms_X9_bestPump.2⟩
set_option maxRecDepth 100000 in
theorem mc_X9_bestValve : .code yX9_bestValve cX9_bestValve 6 (some .int) ∈ bigw := (gb6 42 rfl (by decide +kernel))
theorem mi_X9_bestValve : .initialized (yX9_bestValve : MethodName).cls ∈ bigw := (gb1 1 (by decide +kernel) (by decide +kernel))
theorem ms_X9_bestValve : .instanceMethod yX9_bestValve ∈ bigw ∧ .selects (yX9_bestValve : MethodName).cls yX9_bestValve yX9_bestValve ∈ bigw := ⟨(gb6 40 (by decide +kernel) (by decide +kernel)), (gb6 41 (by decide +kernel) (by decide +kernel))⟩
theorem lkL_133 : LKV RL 133 yX9_bestValve cX9_bestValve 6 (some .int) 2 := ⟨⟨(gb6 39 (by decide +kernel) (by decide +kernel)), mc_X9_bestValve, mi_X9_bestValve, by decide, by decide +kernel⟩, ms_X9_bestValve.1, ms_X9_bestValve.2⟩
set_option maxRecDepth 100000 in
theorem mc_X9_spray : .code yX9_spray cX9_spray 4 (some .int) ∈ bigw := (gb6 49 rfl (by decide +kernel))
theorem mi_X9_spray : .initialized (yX9_spray : MethodName).cls ∈ bigw := (gb1 1 (by decide +kernel) (by decide +kernel))
theorem ms_X9_spray : .instanceMethod yX9_spray ∈ bigw ∧ .selects (yX9_spray : MethodName).cls yX9_spray yX9_spray ∈ bigw := ⟨(gb6 47 (by decide +kernel) (by decide +kernel)), (gb6 48 (by decide +kernel) (by decide +kernel))⟩
theorem lkL_136 : LKV RL 136 yX9_spray cX9_spray 4 (some .int) 1 := ⟨⟨(gb6 46 (by decide +kernel) (by decide +kernel)), mc_X9_spray, mi_X9_spray, by decide, by decide +kernel⟩, ms_X9_spray.1, ms_X9_spray.2⟩
set_option maxRecDepth 100000 in
theorem mc_X1_allFlanges : .code yX1_allFlanges cX1_allFlanges 1 (some .int) ∈ bigw := (gb6 53 rfl (by decide +kernel))
theorem mi_X1_allFlanges : .initialized (yX1_allFlanges : MethodName).cls ∈ bigw := (gb1 4 (by decide +kernel) (by decide +kernel))
theorem ms_X1_allFlanges : .instanceMethod yX1_allFlanges ∈ bigw ∧ .selects (yX1_allFlanges : MethodName).cls yX1_allFlanges yX1_allFlanges ∈ bigw := ⟨(gb6 51 (by decide +kernel) (by decide +kernel)), (gb6 52 (by decide +kernel) (by decide +kernel))⟩
theorem lkX9_338 : LKV RX9 338 yX1_allFlanges cX1_allFlanges 1 (some .int) 0 := ⟨⟨(gb6 50 (by decide +kernel) (by decide +kernel)), mc_X1_allFlanges, mi_X1_allFlanges, by decide, by decide +kernel⟩, ms_X1_allFlanges.1, ms_X1_allFlanges.2⟩
set_option maxRecDepth 100000 in
theorem mc_X9_sprays : .code yX9_sprays cX9_sprays 3 (some .int) ∈ bigw := (gb6 60 rfl (by decide +kernel))
theorem mi_X9_sprays : .initialized (yX9_sprays : MethodName).cls ∈ bigw := (gb1 1 (by decide +kernel) (by decide +kernel))
theorem ms_X9_sprays : .instanceMethod yX9_sprays ∈ bigw ∧ .selects (yX9_sprays : MethodName).cls yX9_sprays yX9_sprays ∈ bigw := ⟨(gb6 58 (by decide +kernel) (by decide +kernel)), (gb6 59 (by decide +kernel) (by decide +kernel))⟩
theorem lkL_139 : LKV RL 139 yX9_sprays cX9_sprays 3 (some .int) 2 := ⟨⟨(gb6 57 (by decide +kernel) (by decide +kernel)), mc_X9_sprays, mi_X9_sprays, by decide, by decide +kernel⟩, ms_X9_sprays.1, ms_X9_sprays.2⟩
set_option maxRecDepth 100000 in
theorem mc_X0_run : .code yX0_run cX0_run 7 none ∈ bigw := (gb6 64 rfl (by decide +kernel))
theorem mi_X0_run : .initialized (yX0_run : MethodName).cls ∈ bigw := (gb1 7 (by decide +kernel) (by decide +kernel))
theorem ms_X0_run : .instanceMethod yX0_run ∈ bigw ∧ .selects (yX0_run : MethodName).cls yX0_run yX0_run ∈ bigw := ⟨(gb6 62 (by decide +kernel) (by decide +kernel)), (gb6 63 (by decide +kernel) (by decide +kernel))⟩
theorem lkX9_341 : LKV RX9 341 yX0_run cX0_run 7 none 3 := ⟨⟨(gb6 61 (by decide +kernel) (by decide +kernel)), mc_X0_run, mi_X0_run, by decide, by decide +kernel⟩, ms_X0_run.1, ms_X0_run.2⟩
set_option maxRecDepth 100000 in
theorem mc_X0_collect : .code yX0_collect cX0_collect 5 (some .int) ∈ bigw := (gb6 68 rfl (by decide +kernel))
theorem mi_X0_collect : .initialized (yX0_collect : MethodName).cls ∈ bigw := (gb1 7 (by decide +kernel) (by decide +kernel))
theorem ms_X0_collect : .instanceMethod yX0_collect ∈ bigw ∧ .selects (yX0_collect : MethodName).cls yX0_collect yX0_collect ∈ bigw := ⟨(gb6 67 (by decide +kernel) (by decide +kernel)), (gb0 23 (by decide +kernel) (by decide +kernel))⟩
theorem lkX0_37 : LKV RX0 37 yX0_collect cX0_collect 5 (some .int) 2 := ⟨⟨(gb6 65 (by decide +kernel) (by decide +kernel)), mc_X0_collect, mi_X0_collect, by decide, by decide +kernel⟩, ms_X0_collect.1, ms_X0_collect.2⟩
set_option maxRecDepth 100000 in
theorem mc_X0_addGroup : .code yX0_addGroup cX0_addGroup 3 none ∈ bigw := (gb6 72 rfl (by decide +kernel))
theorem mi_X0_addGroup : .initialized (yX0_addGroup : MethodName).cls ∈ bigw := (gb1 7 (by decide +kernel) (by decide +kernel))
theorem ms_X0_addGroup : .instanceMethod yX0_addGroup ∈ bigw ∧ .selects (yX0_addGroup : MethodName).cls yX0_addGroup yX0_addGroup ∈ bigw := ⟨(gb6 71 (by decide +kernel) (by decide +kernel)), (gb0 24 (by decide +kernel) (by decide +kernel))⟩
theorem lkX0_41 : LKV RX0 41 yX0_addGroup cX0_addGroup 3 none 2 := ⟨⟨(gb6 69 (by decide +kernel) (by decide +kernel)), mc_X0_addGroup, mi_X0_addGroup, by decide, by decide +kernel⟩, ms_X0_addGroup.1, ms_X0_addGroup.2⟩
set_option maxRecDepth 100000 in
theorem mc_X0_sumOf : .code yX0_sumOf cX0_sumOf 5 (some .int) ∈ bigw := (gb6 76 rfl (by decide +kernel))
theorem mi_X0_sumOf : .initialized (yX0_sumOf : MethodName).cls ∈ bigw := (gb1 7 (by decide +kernel) (by decide +kernel))
theorem ms_X0_sumOf : .instanceMethod yX0_sumOf ∈ bigw ∧ .selects (yX0_sumOf : MethodName).cls yX0_sumOf yX0_sumOf ∈ bigw := ⟨(gb6 75 (by decide +kernel) (by decide +kernel)), (gb0 25 (by decide +kernel) (by decide +kernel))⟩
theorem lkX0_48 : LKV RX0 48 yX0_sumOf cX0_sumOf 5 (some .int) 2 := ⟨⟨(gb6 73 (by decide +kernel) (by decide +kernel)), mc_X0_sumOf, mi_X0_sumOf, by decide, by decide +kernel⟩, ms_X0_sumOf.1, ms_X0_sumOf.2⟩
set_option maxRecDepth 100000 in
theorem mc_X9_found : .code yX9_found cX9_found 3 (some .int) ∈ bigw := (gb6 83 rfl (by decide +kernel))
theorem mi_X9_found : .initialized (yX9_found : MethodName).cls ∈ bigw := (gb1 1 (by decide +kernel) (by decide +kernel))
theorem ms_X9_found : .instanceMethod yX9_found ∈ bigw ∧ .selects (yX9_found : MethodName).cls yX9_found yX9_found ∈ bigw := ⟨(gb6 81 (by decide +kernel) (by decide +kernel)), (gb6 82 (by decide +kernel) (by decide +kernel))⟩
theorem lkL_142 : LKV RL 142 yX9_found cX9_found 3 (some .int) 2 := ⟨⟨(gb6 80 (by decide +kernel) (by decide +kernel)), mc_X9_found, mi_X9_found, by decide, by decide +kernel⟩, ms_X9_found.1, ms_X9_found.2⟩
set_option maxRecDepth 100000 in
theorem mc_X9_worstFlange : .code yX9_worstFlange cX9_worstFlange 3 (some .int) ∈ bigw := (gb6 90 rfl (by decide +kernel))
theorem mi_X9_worstFlange : .initialized (yX9_worstFlange : MethodName).cls ∈ bigw := (gb1 1 (by decide +kernel) (by decide +kernel))
theorem ms_X9_worstFlange : .instanceMethod yX9_worstFlange ∈ bigw ∧ .selects (yX9_worstFlange : MethodName).cls yX9_worstFlange yX9_worstFlange ∈ bigw := ⟨(gb6 88 (by decide +kernel) (by decide +kernel)), (gb6 89 (by decide +kernel) (by decide +kernel))⟩
theorem lkL_145 : LKV RL 145 yX9_worstFlange cX9_worstFlange 3 (some .int) 0 := ⟨⟨(gb6 87 (by decide +kernel) (by decide +kernel)), mc_X9_worstFlange, mi_X9_worstFlange, by decide, by decide +kernel⟩, ms_X9_worstFlange.1, ms_X9_worstFlange.2⟩
set_option maxRecDepth 100000 in
theorem mc_X9_reportByte : .code yX9_reportByte cX9_reportByte 2 (some .int) ∈ bigw := (gb6 97 rfl (by decide +kernel))
theorem mi_X9_reportByte : .initialized (yX9_reportByte : MethodName).cls ∈ bigw := (gb1 1 (by decide +kernel) (by decide +kernel))
theorem ms_X9_reportByte : .instanceMethod yX9_reportByte ∈ bigw ∧ .selects (yX9_reportByte : MethodName).cls yX9_reportByte yX9_reportByte ∈ bigw := ⟨(gb6 95 (by decide +kernel) (by decide +kernel)), (gb6 96 (by decide +kernel) (by decide +kernel))⟩
theorem lkL_148 : LKV RL 148 yX9_reportByte cX9_reportByte 2 (some .int) 1 := ⟨⟨(gb6 94 (by decide +kernel) (by decide +kernel)), mc_X9_reportByte, mi_X9_reportByte, by decide, by decide +kernel⟩, ms_X9_reportByte.1, ms_X9_reportByte.2⟩
set_option maxRecDepth 100000 in
theorem mc_X9_undo : .code yX9_undo cX9_undo 2 (some .int) ∈ bigw := (gb6 104 rfl (by decide +kernel))
theorem mi_X9_undo : .initialized (yX9_undo : MethodName).cls ∈ bigw := (gb1 1 (by decide +kernel) (by decide +kernel))
theorem ms_X9_undo : .instanceMethod yX9_undo ∈ bigw ∧ .selects (yX9_undo : MethodName).cls yX9_undo yX9_undo ∈ bigw := ⟨(gb6 102 (by decide +kernel) (by decide +kernel)), (gb6 103 (by decide +kernel) (by decide +kernel))⟩
theorem lkL_151 : LKV RL 151 yX9_undo cX9_undo 2 (some .int) 0 := ⟨⟨(gb6 101 (by decide +kernel) (by decide +kernel)), mc_X9_undo, mi_X9_undo, by decide, by decide +kernel⟩, ms_X9_undo.1, ms_X9_undo.2⟩
set_option maxRecDepth 100000 in
theorem mc_X10_thrown : .code yX10_thrown cX10_thrown 1 (some .int) ∈ bigw := (gb6 175 rfl (by decide +kernel))
theorem mi_X10_thrown : .initialized (yX10_thrown : MethodName).cls ∈ bigw := (gb1 11 (by decide +kernel) (by decide +kernel))
theorem ms_X10_thrown : .instanceMethod yX10_thrown ∈ bigw ∧ .selects (yX10_thrown : MethodName).cls yX10_thrown yX10_thrown ∈ bigw := ⟨(gb6 173 (by decide +kernel) (by decide +kernel)), (gb6 174 (by decide +kernel) (by decide +kernel))⟩
theorem lkL_164 : LKV RL 164 yX10_thrown cX10_thrown 1 (some .int) 0 := ⟨⟨(gb6 172 (by decide +kernel) (by decide +kernel)), mc_X10_thrown, mi_X10_thrown, by decide, by decide +kernel⟩, ms_X10_thrown.1, ms_X10_thrown.2⟩
set_option maxRecDepth 100000 in
theorem mc_X10_undo : .code yX10_undo cX10_undo 2 (some .int) ∈ bigw := (gb6 179 rfl (by decide +kernel))
theorem mi_X10_undo : .initialized (yX10_undo : MethodName).cls ∈ bigw := (gb1 11 (by decide +kernel) (by decide +kernel))
theorem ms_X10_undo : .instanceMethod yX10_undo ∈ bigw ∧ .selects (yX10_undo : MethodName).cls yX10_undo yX10_undo ∈ bigw := ⟨(gb6 177 (by decide +kernel) (by decide +kernel)), (gb6 178 (by decide +kernel) (by decide +kernel))⟩
theorem lkL_321 : LKV RL 321 yX10_undo cX10_undo 2 (some .int) 0 := ⟨⟨(gb6 176 (by decide +kernel) (by decide +kernel)), mc_X10_undo, mi_X10_undo, by decide, by decide +kernel⟩, ms_X10_undo.1, ms_X10_undo.2⟩
set_option maxRecDepth 100000 in
theorem mc_X10_no : .code yX10_no cX10_no 2 (some .int) ∈ bigw := (gb6 183 rfl (by decide +kernel))
theorem mi_X10_no : .initialized (yX10_no : MethodName).cls ∈ bigw := (gb1 11 (by decide +kernel) (by decide +kernel))
theorem ms_X10_no : .instanceMethod yX10_no ∈ bigw ∧ .selects (yX10_no : MethodName).cls yX10_no yX10_no ∈ bigw := ⟨(gb6 182 (by decide +kernel) (by decide +kernel)), (gb0 26 (by decide +kernel) (by decide +kernel))⟩
theorem lkX10_57 : LKV RX10 57 yX10_no cX10_no 2 (some .int) 1 := ⟨⟨(gb6 180 (by decide +kernel) (by decide +kernel)), mc_X10_no, mi_X10_no, by decide, by decide +kernel⟩, ms_X10_no.1, ms_X10_no.2⟩
set_option maxRecDepth 100000 in
theorem mc_X10_undoDepth : .code yX10_undoDepth cX10_undoDepth 1 (some .int) ∈ bigw := (gb6 187 rfl (by decide +kernel))
theorem mi_X10_undoDepth : .initialized (yX10_undoDepth : MethodName).cls ∈ bigw := (gb1 11 (by decide +kernel) (by decide +kernel))
theorem ms_X10_undoDepth : .instanceMethod yX10_undoDepth ∈ bigw ∧ .selects (yX10_undoDepth : MethodName).cls yX10_undoDepth yX10_undoDepth ∈ bigw := ⟨(gb6 185 (by decide +kernel) (by decide +kernel)), (gb6 186 (by decide +kernel) (by decide +kernel))⟩
theorem lkL_325 : LKV RL 325 yX10_undoDepth cX10_undoDepth 1 (some .int) 0 := ⟨⟨(gb6 184 (by decide +kernel) (by decide +kernel)), mc_X10_undoDepth, mi_X10_undoDepth, by decide, by decide +kernel⟩, ms_X10_undoDepth.1, ms_X10_undoDepth.2⟩
set_option maxRecDepth 100000 in
theorem mc_X10_open : .code yX10_open cX10_open 2 (some .int) ∈ bigw := (gb6 191 rfl (by decide +kernel))
theorem mi_X10_open : .initialized (yX10_open : MethodName).cls ∈ bigw := (gb1 11 (by decide +kernel) (by decide +kernel))
theorem ms_X10_open : .instanceMethod yX10_open ∈ bigw ∧ .selects (yX10_open : MethodName).cls yX10_open yX10_open ∈ bigw := ⟨(gb6 189 (by decide +kernel) (by decide +kernel)), (gb6 190 (by decide +kernel) (by decide +kernel))⟩
theorem lkL_185 : LKV RL 185 yX10_open cX10_open 2 (some .int) 1 := ⟨⟨(gb6 188 (by decide +kernel) (by decide +kernel)), mc_X10_open, mi_X10_open, by decide, by decide +kernel⟩, ms_X10_open.1, ms_X10_open.2⟩
set_option maxRecDepth 100000 in
theorem mc_X10_isValve : .code yX10_isValve cX10_isValve 2 (some .boolean) ∈ bigw := (gb6 195 rfl (by decide +kernel))
theorem mi_X10_isValve : .initialized (yX10_isValve : MethodName).cls ∈ bigw := (gb1 11 (by decide +kernel) (by decide +kernel))
theorem ms_X10_isValve : .instanceMethod yX10_isValve ∈ bigw ∧ .selects (yX10_isValve : MethodName).cls yX10_isValve yX10_isValve ∈ bigw := ⟨(gb6 194 (by decide +kernel) (by decide +kernel)), (gb0 27 (by decide +kernel) (by decide +kernel))⟩
theorem lkX10_148 : LKV RX10 148 yX10_isValve cX10_isValve 2 (some .boolean) 1 := ⟨⟨(gb6 192 (by decide +kernel) (by decide +kernel)), mc_X10_isValve, mi_X10_isValve, by decide, by decide +kernel⟩, ms_X10_isValve.1, ms_X10_isValve.2⟩
set_option maxRecDepth 100000 in
theorem mc_X10_in : .code yX10_in cX10_in 6 (some .boolean) ∈ bigw := (gb6 198 rfl (by decide +kernel))
theorem mi_X10_in : .initialized (yX10_in : MethodName).cls ∈ bigw := (gb1 11 (by decide +kernel) (by decide +kernel))
theorem ms_X10_in : .static yX10_in ∈ bigw := (gb6 197 (by decide +kernel) (by decide +kernel))
theorem lkX10_39 : LKS RX10 39 yX10_in cX10_in 6 (some .boolean) 3 := ⟨⟨(gb6 196 (by decide +kernel) (by decide +kernel)), mc_X10_in, mi_X10_in, by decide, by decide +kernel⟩, ms_X10_in⟩
set_option maxRecDepth 100000 in
theorem mc_X10_fails : .code yX10_fails cX10_fails 3 (some .boolean) ∈ bigw := (gb6 202 rfl (by decide +kernel))
theorem mi_X10_fails : .initialized (yX10_fails : MethodName).cls ∈ bigw := (gb1 11 (by decide +kernel) (by decide +kernel))
theorem ms_X10_fails : .instanceMethod yX10_fails ∈ bigw ∧ .selects (yX10_fails : MethodName).cls yX10_fails yX10_fails ∈ bigw := ⟨(gb6 201 (by decide +kernel) (by decide +kernel)), (gb0 28 (by decide +kernel) (by decide +kernel))⟩
theorem lkX10_151 : LKV RX10 151 yX10_fails cX10_fails 3 (some .boolean) 2 := ⟨⟨(gb6 199 (by decide +kernel) (by decide +kernel)), mc_X10_fails, mi_X10_fails, by decide, by decide +kernel⟩, ms_X10_fails.1, ms_X10_fails.2⟩
set_option maxRecDepth 100000 in
theorem mc_X10_canOpen : .code yX10_canOpen cX10_canOpen 2 (some .boolean) ∈ bigw := (gb6 206 rfl (by decide +kernel))
theorem mi_X10_canOpen : .initialized (yX10_canOpen : MethodName).cls ∈ bigw := (gb1 11 (by decide +kernel) (by decide +kernel))
theorem ms_X10_canOpen : .instanceMethod yX10_canOpen ∈ bigw ∧ .selects (yX10_canOpen : MethodName).cls yX10_canOpen yX10_canOpen ∈ bigw := ⟨(gb6 205 (by decide +kernel) (by decide +kernel)), (gb0 29 (by decide +kernel) (by decide +kernel))⟩
theorem lkX10_155 : LKV RX10 155 yX10_canOpen cX10_canOpen 2 (some .boolean) 1 := ⟨⟨(gb6 203 (by decide +kernel) (by decide +kernel)), mc_X10_canOpen, mi_X10_canOpen, by decide, by decide +kernel⟩, ms_X10_canOpen.1, ms_X10_canOpen.2⟩
set_option maxRecDepth 100000 in
theorem mc_X10_isOpen : .code yX10_isOpen cX10_isOpen 2 (some .boolean) ∈ bigw := (gb6 210 rfl (by decide +kernel))
theorem mi_X10_isOpen : .initialized (yX10_isOpen : MethodName).cls ∈ bigw := (gb1 11 (by decide +kernel) (by decide +kernel))
theorem ms_X10_isOpen : .instanceMethod yX10_isOpen ∈ bigw ∧ .selects (yX10_isOpen : MethodName).cls yX10_isOpen yX10_isOpen ∈ bigw := ⟨(gb6 209 (by decide +kernel) (by decide +kernel)), (gb0 30 (by decide +kernel) (by decide +kernel))⟩
theorem lkX10_99 : LKV RX10 99 yX10_isOpen cX10_isOpen 2 (some .boolean) 1 := ⟨⟨(gb6 207 (by decide +kernel) (by decide +kernel)), mc_X10_isOpen, mi_X10_isOpen, by decide, by decide +kernel⟩, ms_X10_isOpen.1, ms_X10_isOpen.2⟩
set_option maxRecDepth 100000 in
theorem mc_X10_ofValve : .code yX10_ofValve cX10_ofValve 3 (some .int) ∈ bigw := (gb6 214 rfl (by decide +kernel))
theorem mi_X10_ofValve : .initialized (yX10_ofValve : MethodName).cls ∈ bigw := (gb1 11 (by decide +kernel) (by decide +kernel))
theorem ms_X10_ofValve : .instanceMethod yX10_ofValve ∈ bigw ∧ .selects (yX10_ofValve : MethodName).cls yX10_ofValve yX10_ofValve ∈ bigw := ⟨(gb6 213 (by decide +kernel) (by decide +kernel)), (gb0 31 (by decide +kernel) (by decide +kernel))⟩
theorem lkX10_74 : LKV RX10 74 yX10_ofValve cX10_ofValve 3 (some .int) 2 := ⟨⟨(gb6 211 (by decide +kernel) (by decide +kernel)), mc_X10_ofValve, mi_X10_ofValve, by decide, by decide +kernel⟩, ms_X10_ofValve.1, ms_X10_ofValve.2⟩
set_option maxRecDepth 100000 in
theorem mc_X10_valveAt : .code yX10_valveAt cX10_valveAt 1 (some .int) ∈ bigw := (gb6 217 rfl (by decide +kernel))
theorem mi_X10_valveAt : .initialized (yX10_valveAt : MethodName).cls ∈ bigw := (gb1 11 (by decide +kernel) (by decide +kernel))
theorem ms_X10_valveAt : .static yX10_valveAt ∈ bigw := (gb6 216 (by decide +kernel) (by decide +kernel))
theorem lkX10_68 : LKS RX10 68 yX10_valveAt cX10_valveAt 1 (some .int) 1 := ⟨⟨(gb6 215 (by decide +kernel) (by decide +kernel)), mc_X10_valveAt, mi_X10_valveAt, by decide, by decide +kernel⟩, ms_X10_valveAt⟩
set_option maxRecDepth 100000 in
theorem mc_X10_mayJoin : .code yX10_mayJoin cX10_mayJoin 2 (some .boolean) ∈ bigw := (gb6 221 rfl (by decide +kernel))
theorem mi_X10_mayJoin : .initialized (yX10_mayJoin : MethodName).cls ∈ bigw := (gb1 11 (by decide +kernel) (by decide +kernel))
theorem ms_X10_mayJoin : .instanceMethod yX10_mayJoin ∈ bigw ∧ .selects (yX10_mayJoin : MethodName).cls yX10_mayJoin yX10_mayJoin ∈ bigw := ⟨(gb6 220 (by decide +kernel) (by decide +kernel)), (gb0 32 (by decide +kernel) (by decide +kernel))⟩
theorem lkX10_103 : LKV RX10 103 yX10_mayJoin cX10_mayJoin 2 (some .boolean) 1 := ⟨⟨(gb6 218 (by decide +kernel) (by decide +kernel)), mc_X10_mayJoin, mi_X10_mayJoin, by decide, by decide +kernel⟩, ms_X10_mayJoin.1, ms_X10_mayJoin.2⟩
set_option maxRecDepth 100000 in
theorem mc_X10_difference : .code yX10_difference cX10_difference 2 (some .long) ∈ bigw := (gb6 225 rfl (by decide +kernel))
theorem mi_X10_difference : .initialized (yX10_difference : MethodName).cls ∈ bigw := (gb1 11 (by decide +kernel) (by decide +kernel))
theorem ms_X10_difference : .instanceMethod yX10_difference ∈ bigw ∧ .selects (yX10_difference : MethodName).cls yX10_difference yX10_difference ∈ bigw := ⟨(gb6 224 (by decide +kernel) (by decide +kernel)), (gb0 33 (by decide +kernel) (by decide +kernel))⟩
theorem lkX10_90 : LKV RX10 90 yX10_difference cX10_difference 2 (some .long) 1 := ⟨⟨(gb6 222 (by decide +kernel) (by decide +kernel)), mc_X10_difference, mi_X10_difference, by decide, by decide +kernel⟩, ms_X10_difference.1, ms_X10_difference.2⟩
set_option maxRecDepth 100000 in
theorem mc_X10_pressure : .code yX10_pressure cX10_pressure 2 (some .long) ∈ bigw := (gb6 229 rfl (by decide +kernel))
theorem mi_X10_pressure : .initialized (yX10_pressure : MethodName).cls ∈ bigw := (gb1 11 (by decide +kernel) (by decide +kernel))
theorem ms_X10_pressure : .instanceMethod yX10_pressure ∈ bigw ∧ .selects (yX10_pressure : MethodName).cls yX10_pressure yX10_pressure ∈ bigw := ⟨(gb6 228 (by decide +kernel) (by decide +kernel)), (gb0 34 (by decide +kernel) (by decide +kernel))⟩
theorem lkX10_78 : LKV RX10 78 yX10_pressure cX10_pressure 2 (some .long) 1 := ⟨⟨(gb6 226 (by decide +kernel) (by decide +kernel)), mc_X10_pressure, mi_X10_pressure, by decide, by decide +kernel⟩, ms_X10_pressure.1, ms_X10_pressure.2⟩
set_option maxRecDepth 100000 in
theorem mc_X10_chamberAt : .code yX10_chamberAt cX10_chamberAt 1 (some .int) ∈ bigw := (gb6 233 rfl (by decide +kernel))
theorem mi_X10_chamberAt : .initialized (yX10_chamberAt : MethodName).cls ∈ bigw := (gb1 11 (by decide +kernel) (by decide +kernel))
theorem ms_X10_chamberAt : .static yX10_chamberAt ∈ bigw := (gb6 232 (by decide +kernel) (by decide +kernel))
theorem lkX10_61 : LKS RX10 61 yX10_chamberAt cX10_chamberAt 1 (some .int) 1 := ⟨⟨(gb6 231 (by decide +kernel) (by decide +kernel)), mc_X10_chamberAt, mi_X10_chamberAt, by decide, by decide +kernel⟩, ms_X10_chamberAt⟩
set_option maxRecDepth 100000 in
theorem mc_X10_volume : .code yX10_volume cX10_volume 2 (some .long) ∈ bigw := (gb6 237 rfl (by decide +kernel))
theorem mi_X10_volume : .initialized (yX10_volume : MethodName).cls ∈ bigw := (gb1 11 (by decide +kernel) (by decide +kernel))
theorem ms_X10_volume : .instanceMethod yX10_volume ∈ bigw ∧ .selects (yX10_volume : MethodName).cls yX10_volume yX10_volume ∈ bigw := ⟨(gb6 236 (by decide +kernel) (by decide +kernel)), (gb0 35 (by decide +kernel) (by decide +kernel))⟩
theorem lkX10_64 : LKV RX10 64 yX10_volume cX10_volume 2 (some .long) 1 := ⟨⟨(gb6 234 (by decide +kernel) (by decide +kernel)), mc_X10_volume, mi_X10_volume, by decide, by decide +kernel⟩, ms_X10_volume.1, ms_X10_volume.2⟩
set_option maxRecDepth 100000 in
theorem mc_Math_abs_l : .code Lib.MathLoose.abs_long.x Lib.MathLoose.abs_long.code 2 (some .long) ∈ bigw := (gb7 0 rfl (by decide +kernel))
theorem mi_Math_abs_l : .initialized (Lib.MathLoose.abs_long.x : MethodName).cls ∈ bigw := (gb1 17 (by decide +kernel) (by decide +kernel))
theorem ms_Math_abs_l : .static Lib.MathLoose.abs_long.x ∈ bigw := (gb6 239 (by decide +kernel) (by decide +kernel))
theorem lkX10_81 : LKS RX10 81 Lib.MathLoose.abs_long.x Lib.MathLoose.abs_long.code 2 (some .long) 1 := ⟨⟨(gb6 238 (by decide +kernel) (by decide +kernel)), mc_Math_abs_l, mi_Math_abs_l, by decide, by decide +kernel⟩, ms_Math_abs_l⟩
set_option maxRecDepth 100000 in
theorem mc_X10_remember : .code yX10_remember cX10_remember 1 none ∈ bigw := (gb7 4 rfl (by decide +kernel))
theorem mi_X10_remember : .initialized (yX10_remember : MethodName).cls ∈ bigw := (gb1 11 (by decide +kernel) (by decide +kernel))
theorem ms_X10_remember : .instanceMethod yX10_remember ∈ bigw ∧ .selects (yX10_remember : MethodName).cls yX10_remember yX10_remember ∈ bigw := ⟨(gb7 3 (by decide +kernel) (by decide +kernel)), (gb0 36 (by decide +kernel) (by decide +kernel))⟩
theorem lkX10_158 : LKV RX10 158 yX10_remember cX10_remember 1 none 0 := ⟨⟨(gb7 1 (by decide +kernel) (by decide +kernel)), mc_X10_remember, mi_X10_remember, by decide, by decide +kernel⟩, ms_X10_remember.1, ms_X10_remember.2⟩
set_option maxRecDepth 100000 in
theorem mc_X10_copy : .code yX10_copy cX10_copy 3 none ∈ bigw := (gb7 7 rfl (by decide +kernel))
theorem mi_X10_copy : .initialized (yX10_copy : MethodName).cls ∈ bigw := (gb1 11 (by decide +kernel) (by decide +kernel))
theorem ms_X10_copy : .static yX10_copy ∈ bigw := (gb7 6 (by decide +kernel) (by decide +kernel))
theorem lkX10_50 : LKS RX10 50 yX10_copy cX10_copy 3 none 2 := ⟨⟨(gb7 5 (by decide +kernel) (by decide +kernel)), mc_X10_copy, mi_X10_copy, by decide, by decide +kernel⟩, ms_X10_copy⟩
set_option maxRecDepth 100000 in
theorem mc_X10_push : .code yX10_push cX10_push 2 none ∈ bigw := (gb7 11 rfl (by decide +kernel))
theorem mi_X10_push : .initialized (yX10_push : MethodName).cls ∈ bigw := (gb1 11 (by decide +kernel) (by decide +kernel))
theorem ms_X10_push : .instanceMethod yX10_push ∈ bigw ∧ .selects (yX10_push : MethodName).cls yX10_push yX10_push ∈ bigw := ⟨(gb7 10 (by decide +kernel) (by decide +kernel)), (gb0 37 (by decide +kernel) (by decide +kernel))⟩
theorem lkX10_54 : LKV RX10 54 yX10_push cX10_push 2 none 0 := ⟨⟨(gb7 8 (by decide +kernel) (by decide +kernel)), mc_X10_push, mi_X10_push, by decide, by decide +kernel⟩, ms_X10_push.1, ms_X10_push.2⟩
set_option maxRecDepth 100000 in
theorem mc_X10_turn : .code yX10_turn cX10_turn 3 (some .int) ∈ bigw := (gb7 15 rfl (by decide +kernel))
theorem mi_X10_turn : .initialized (yX10_turn : MethodName).cls ∈ bigw := (gb1 11 (by decide +kernel) (by decide +kernel))
theorem ms_X10_turn : .instanceMethod yX10_turn ∈ bigw ∧ .selects (yX10_turn : MethodName).cls yX10_turn yX10_turn ∈ bigw := ⟨(gb7 14 (by decide +kernel) (by decide +kernel)), (gb0 38 (by decide +kernel) (by decide +kernel))⟩
theorem lkX10_161 : LKV RX10 161 yX10_turn cX10_turn 3 (some .int) 2 := ⟨⟨(gb7 12 (by decide +kernel) (by decide +kernel)), mc_X10_turn, mi_X10_turn, by decide, by decide +kernel⟩, ms_X10_turn.1, ms_X10_turn.2⟩
set_option maxRecDepth 100000 in
theorem mc_X10_close : .code yX10_close cX10_close 2 (some .int) ∈ bigw := (gb7 19 rfl (by decide +kernel))
theorem mi_X10_close : .initialized (yX10_close : MethodName).cls ∈ bigw := (gb1 11 (by decide +kernel) (by decide +kernel))
theorem ms_X10_close : .instanceMethod yX10_close ∈ bigw ∧ .selects (yX10_close : MethodName).cls yX10_close yX10_close ∈ bigw := ⟨(gb7 17 (by decide +kernel) (by decide +kernel)), (gb7 18 (by decide +kernel) (by decide +kernel))⟩
theorem lkL_188 : LKV RL 188 yX10_close cX10_close 2 (some .int) 1 := ⟨⟨(gb7 16 (by decide +kernel) (by decide +kernel)), mc_X10_close, mi_X10_close, by decide, by decide +kernel⟩, ms_X10_close.1, ms_X10_close.2⟩
set_option maxRecDepth 100000 in
theorem mc_X10_start : .code yX10_start cX10_start 2 (some .int) ∈ bigw := (gb7 23 rfl (by decide +kernel))
theorem mi_X10_start : .initialized (yX10_start : MethodName).cls ∈ bigw := (gb1 11 (by decide +kernel) (by decide +kernel))
theorem ms_X10_start : .instanceMethod yX10_start ∈ bigw ∧ .selects (yX10_start : MethodName).cls yX10_start yX10_start ∈ bigw := ⟨(gb7 21 (by decide +kernel) (by decide +kernel)), (gb7 22 (by decide +kernel) (by decide +kernel))⟩
theorem lkL_191 : LKV RL 191 yX10_start cX10_start 2 (some .int) 1 := ⟨⟨(gb7 20 (by decide +kernel) (by decide +kernel)), mc_X10_start, mi_X10_start, by decide, by decide +kernel⟩, ms_X10_start.1, ms_X10_start.2⟩
set_option maxRecDepth 100000 in
theorem mc_X10_isPump : .code yX10_isPump cX10_isPump 2 (some .boolean) ∈ bigw := (gb7 27 rfl (by decide +kernel))
theorem mi_X10_isPump : .initialized (yX10_isPump : MethodName).cls ∈ bigw := (gb1 11 (by decide +kernel) (by decide +kernel))
theorem ms_X10_isPump : .instanceMethod yX10_isPump ∈ bigw ∧ .selects (yX10_isPump : MethodName).cls yX10_isPump yX10_isPump ∈ bigw := ⟨(gb7 26 (by decide +kernel) (by decide +kernel)), (gb0 39 (by decide +kernel) (by decide +kernel))⟩
theorem lkX10_164 : LKV RX10 164 yX10_isPump cX10_isPump 2 (some .boolean) 1 := ⟨⟨(gb7 24 (by decide +kernel) (by decide +kernel)), mc_X10_isPump, mi_X10_isPump, by decide, by decide +kernel⟩, ms_X10_isPump.1, ms_X10_isPump.2⟩
set_option maxRecDepth 100000 in
theorem mc_X10_canStart : .code yX10_canStart cX10_canStart 2 (some .boolean) ∈ bigw := (gb7 31 rfl (by decide +kernel))
theorem mi_X10_canStart : .initialized (yX10_canStart : MethodName).cls ∈ bigw := (gb1 11 (by decide +kernel) (by decide +kernel))
theorem ms_X10_canStart : .instanceMethod yX10_canStart ∈ bigw ∧ .selects (yX10_canStart : MethodName).cls yX10_canStart yX10_canStart ∈ bigw := ⟨(gb7 30 (by decide +kernel) (by decide +kernel)), (gb0 40 (by decide +kernel) (by decide +kernel))⟩
theorem lkX10_167 : LKV RX10 167 yX10_canStart cX10_canStart 2 (some .boolean) 1 := ⟨⟨(gb7 28 (by decide +kernel) (by decide +kernel)), mc_X10_canStart, mi_X10_canStart, by decide, by decide +kernel⟩, ms_X10_canStart.1, ms_X10_canStart.2⟩
set_option maxRecDepth 100000 in
theorem mc_X10_isRunning : .code yX10_isRunning cX10_isRunning 2 (some .boolean) ∈ bigw := (gb7 35 rfl (by decide +kernel))
theorem mi_X10_isRunning : .initialized (yX10_isRunning : MethodName).cls ∈ bigw := (gb1 11 (by decide +kernel) (by decide +kernel))
theorem ms_X10_isRunning : .instanceMethod yX10_isRunning ∈ bigw ∧ .selects (yX10_isRunning : MethodName).cls yX10_isRunning yX10_isRunning ∈ bigw := ⟨(gb7 34 (by decide +kernel) (by decide +kernel)), (gb0 41 (by decide +kernel) (by decide +kernel))⟩
theorem lkX10_135 : LKV RX10 135 yX10_isRunning cX10_isRunning 2 (some .boolean) 1 := ⟨⟨(gb7 32 (by decide +kernel) (by decide +kernel)), mc_X10_isRunning, mi_X10_isRunning, by decide, by decide +kernel⟩, ms_X10_isRunning.1, ms_X10_isRunning.2⟩
set_option maxRecDepth 100000 in
theorem mc_X10_ofPump : .code yX10_ofPump cX10_ofPump 3 (some .int) ∈ bigw := (gb7 39 rfl (by decide +kernel))
theorem mi_X10_ofPump : .initialized (yX10_ofPump : MethodName).cls ∈ bigw := (gb1 11 (by decide +kernel) (by decide +kernel))
theorem ms_X10_ofPump : .instanceMethod yX10_ofPump ∈ bigw ∧ .selects (yX10_ofPump : MethodName).cls yX10_ofPump yX10_ofPump ∈ bigw := ⟨(gb7 38 (by decide +kernel) (by decide +kernel)), (gb0 42 (by decide +kernel) (by decide +kernel))⟩
theorem lkX10_87 : LKV RX10 87 yX10_ofPump cX10_ofPump 3 (some .int) 2 := ⟨⟨(gb7 36 (by decide +kernel) (by decide +kernel)), mc_X10_ofPump, mi_X10_ofPump, by decide, by decide +kernel⟩, ms_X10_ofPump.1, ms_X10_ofPump.2⟩
set_option maxRecDepth 100000 in
theorem mc_X10_pumpAt : .code yX10_pumpAt cX10_pumpAt 1 (some .int) ∈ bigw := (gb7 42 rfl (by decide +kernel))
theorem mi_X10_pumpAt : .initialized (yX10_pumpAt : MethodName).cls ∈ bigw := (gb1 11 (by decide +kernel) (by decide +kernel))
theorem ms_X10_pumpAt : .static yX10_pumpAt ∈ bigw := (gb7 41 (by decide +kernel) (by decide +kernel))
theorem lkX10_71 : LKS RX10 71 yX10_pumpAt cX10_pumpAt 1 (some .int) 1 := ⟨⟨(gb7 40 (by decide +kernel) (by decide +kernel)), mc_X10_pumpAt, mi_X10_pumpAt, by decide, by decide +kernel⟩, ms_X10_pumpAt⟩
set_option maxRecDepth 100000 in
theorem mc_X10_isLowEnough : .code yX10_isLowEnough cX10_isLowEnough 2 (some .boolean) ∈ bigw := (gb7 46 rfl (by decide +kernel))
theorem mi_X10_isLowEnough : .initialized (yX10_isLowEnough : MethodName).cls ∈ bigw := (gb1 11 (by decide +kernel) (by decide +kernel))
theorem ms_X10_isLowEnough : .instanceMethod yX10_isLowEnough ∈ bigw ∧ .selects (yX10_isLowEnough : MethodName).cls yX10_isLowEnough yX10_isLowEnough ∈ bigw := ⟨(gb7 45 (by decide +kernel) (by decide +kernel)), (gb0 43 (by decide +kernel) (by decide +kernel))⟩
theorem lkX10_119 : LKV RX10 119 yX10_isLowEnough cX10_isLowEnough 2 (some .boolean) 1 := ⟨⟨(gb7 43 (by decide +kernel) (by decide +kernel)), mc_X10_isLowEnough, mi_X10_isLowEnough, by decide, by decide +kernel⟩, ms_X10_isLowEnough.1, ms_X10_isLowEnough.2⟩
set_option maxRecDepth 100000 in
theorem mc_X10_isBacked : .code yX10_isBacked cX10_isBacked 3 (some .boolean) ∈ bigw := (gb7 50 rfl (by decide +kernel))
theorem mi_X10_isBacked : .initialized (yX10_isBacked : MethodName).cls ∈ bigw := (gb1 11 (by decide +kernel) (by decide +kernel))
theorem ms_X10_isBacked : .instanceMethod yX10_isBacked ∈ bigw ∧ .selects (yX10_isBacked : MethodName).cls yX10_isBacked yX10_isBacked ∈ bigw := ⟨(gb7 49 (by decide +kernel) (by decide +kernel)), (gb0 44 (by decide +kernel) (by decide +kernel))⟩
theorem lkX10_122 : LKV RX10 122 yX10_isBacked cX10_isBacked 3 (some .boolean) 1 := ⟨⟨(gb7 47 (by decide +kernel) (by decide +kernel)), mc_X10_isBacked, mi_X10_isBacked, by decide, by decide +kernel⟩, ms_X10_isBacked.1, ms_X10_isBacked.2⟩
set_option maxRecDepth 100000 in
theorem mc_X10_run : .code yX10_run cX10_run 3 (some .int) ∈ bigw := (gb7 54 rfl (by decide +kernel))
theorem mi_X10_run : .initialized (yX10_run : MethodName).cls ∈ bigw := (gb1 11 (by decide +kernel) (by decide +kernel))
theorem ms_X10_run : .instanceMethod yX10_run ∈ bigw ∧ .selects (yX10_run : MethodName).cls yX10_run yX10_run ∈ bigw := ⟨(gb7 53 (by decide +kernel) (by decide +kernel)), (gb0 45 (by decide +kernel) (by decide +kernel))⟩
theorem lkX10_170 : LKV RX10 170 yX10_run cX10_run 3 (some .int) 2 := ⟨⟨(gb7 51 (by decide +kernel) (by decide +kernel)), mc_X10_run, mi_X10_run, by decide, by decide +kernel⟩, ms_X10_run.1, ms_X10_run.2⟩
set_option maxRecDepth 100000 in
theorem mc_X10_stop : .code yX10_stop cX10_stop 2 (some .int) ∈ bigw := (gb7 58 rfl (by decide +kernel))
theorem mi_X10_stop : .initialized (yX10_stop : MethodName).cls ∈ bigw := (gb1 11 (by decide +kernel) (by decide +kernel))
theorem ms_X10_stop : .instanceMethod yX10_stop ∈ bigw ∧ .selects (yX10_stop : MethodName).cls yX10_stop yX10_stop ∈ bigw := ⟨(gb7 56 (by decide +kernel) (by decide +kernel)), (gb7 57 (by decide +kernel) (by decide +kernel))⟩
theorem lkL_194 : LKV RL 194 yX10_stop cX10_stop 2 (some .int) 1 := ⟨⟨(gb7 55 (by decide +kernel) (by decide +kernel)), mc_X10_stop, mi_X10_stop, by decide, by decide +kernel⟩, ms_X10_stop.1, ms_X10_stop.2⟩
set_option maxRecDepth 100000 in
theorem mc_X10_pass : .code yX10_pass cX10_pass 2 (some .int) ∈ bigw := (gb7 62 rfl (by decide +kernel))
theorem mi_X10_pass : .initialized (yX10_pass : MethodName).cls ∈ bigw := (gb1 11 (by decide +kernel) (by decide +kernel))
theorem ms_X10_pass : .instanceMethod yX10_pass ∈ bigw ∧ .selects (yX10_pass : MethodName).cls yX10_pass yX10_pass ∈ bigw := ⟨(gb7 60 (by decide +kernel) (by decide +kernel)), (gb7 61 (by decide +kernel) (by decide +kernel))⟩
theorem lkL_197 : LKV RL 197 yX10_pass cX10_pass 2 (some .int) 1 := ⟨⟨(gb7 59 (by decide +kernel) (by decide +kernel)), mc_X10_pass, mi_X10_pass, by decide, by decide +kernel⟩, ms_X10_pass.1, ms_X10_pass.2⟩
set_option maxRecDepth 100000 in
theorem mc_X10_isTicks : .code yX10_isTicks cX10_isTicks 1 (some .boolean) ∈ bigw := (gb7 65 rfl (by decide +kernel))
theorem mi_X10_isTicks : .initialized (yX10_isTicks : MethodName).cls ∈ bigw := (gb1 11 (by decide +kernel) (by decide +kernel))
theorem ms_X10_isTicks : .static yX10_isTicks ∈ bigw := (gb7 64 (by decide +kernel) (by decide +kernel))
theorem lkX10_173 : LKS RX10 173 yX10_isTicks cX10_isTicks 1 (some .boolean) 1 := ⟨⟨(gb7 63 (by decide +kernel) (by decide +kernel)), mc_X10_isTicks, mi_X10_isTicks, by decide, by decide +kernel⟩, ms_X10_isTicks⟩
set_option maxRecDepth 100000 in
theorem mc_X10_passNow : .code yX10_passNow cX10_passNow 4 (some .int) ∈ bigw := (gb7 70 rfl (by decide +kernel))
theorem mi_X10_passNow : .initialized (yX10_passNow : MethodName).cls ∈ bigw := (gb1 11 (by decide +kernel) (by decide +kernel))
theorem ms_X10_passNow : .instanceMethod yX10_passNow ∈ bigw ∧ .selects (yX10_passNow : MethodName).cls yX10_passNow yX10_passNow ∈ bigw := ⟨(gb7 69 (by decide +kernel) (by decide +kernel)), (gb0 46 (by decide +kernel) (by decide +kernel))⟩
theorem lkX10_176 : LKV RX10 176 yX10_passNow cX10_passNow 4 (some .int) 1 := ⟨⟨(gb7 67 (by decide +kernel) (by decide +kernel)), mc_X10_passNow, mi_X10_passNow, by decide, by decide +kernel⟩, ms_X10_passNow.1, ms_X10_passNow.2⟩
set_option maxRecDepth 100000 in
theorem mc_X10_trips : .code yX10_trips cX10_trips 1 (some .int) ∈ bigw := (gb7 74 rfl (by decide +kernel))
theorem mi_X10_trips : .initialized (yX10_trips : MethodName).cls ∈ bigw := (gb1 11 (by decide +kernel) (by decide +kernel))
theorem ms_X10_trips : .instanceMethod yX10_trips ∈ bigw ∧ .selects (yX10_trips : MethodName).cls yX10_trips yX10_trips ∈ bigw := ⟨(gb7 73 (by decide +kernel) (by decide +kernel)), (gb0 47 (by decide +kernel) (by decide +kernel))⟩
theorem lkX10_141 : LKV RX10 141 yX10_trips cX10_trips 1 (some .int) 0 := ⟨⟨(gb7 71 (by decide +kernel) (by decide +kernel)), mc_X10_trips, mi_X10_trips, by decide, by decide +kernel⟩, ms_X10_trips.1, ms_X10_trips.2⟩
set_option maxRecDepth 100000 in
theorem mc_X10_tick : .code yX10_tick cX10_tick 2 none ∈ bigw := (gb7 78 rfl (by decide +kernel))
theorem mi_X10_tick : .initialized (yX10_tick : MethodName).cls ∈ bigw := (gb1 11 (by decide +kernel) (by decide +kernel))
theorem ms_X10_tick : .instanceMethod yX10_tick ∈ bigw ∧ .selects (yX10_tick : MethodName).cls yX10_tick yX10_tick ∈ bigw := ⟨(gb7 77 (by decide +kernel) (by decide +kernel)), (gb0 48 (by decide +kernel) (by decide +kernel))⟩
theorem lkX10_145 : LKV RX10 145 yX10_tick cX10_tick 2 none 0 := ⟨⟨(gb7 75 (by decide +kernel) (by decide +kernel)), mc_X10_tick, mi_X10_tick, by decide, by decide +kernel⟩, ms_X10_tick.1, ms_X10_tick.2⟩
set_option maxRecDepth 100000 in
theorem mc_X10_tripValves : .code yX10_tripValves cX10_tripValves 2 none ∈ bigw := (gb7 82 rfl (by decide +kernel))
theorem mi_X10_tripValves : .initialized (yX10_tripValves : MethodName).cls ∈ bigw := (gb1 11 (by decide +kernel) (by decide +kernel))
theorem ms_X10_tripValves : .instanceMethod yX10_tripValves ∈ bigw ∧ .selects (yX10_tripValves : MethodName).cls yX10_tripValves yX10_tripValves ∈ bigw := ⟨(gb7 81 (by decide +kernel) (by decide +kernel)), (gb0 49 (by decide +kernel) (by decide +kernel))⟩
theorem lkX10_125 : LKV RX10 125 yX10_tripValves cX10_tripValves 2 none 0 := ⟨⟨(gb7 79 (by decide +kernel) (by decide +kernel)), mc_X10_tripValves, mi_X10_tripValves, by decide, by decide +kernel⟩, ms_X10_tripValves.1, ms_X10_tripValves.2⟩
set_option maxRecDepth 100000 in
theorem mc_X10_many : .code yX10_many cX10_many 2 (some .int) ∈ bigw := (gb7 86 rfl (by decide +kernel))
theorem mi_X10_many : .initialized (yX10_many : MethodName).cls ∈ bigw := (gb1 11 (by decide +kernel) (by decide +kernel))
theorem ms_X10_many : .instanceMethod yX10_many ∈ bigw ∧ .selects (yX10_many : MethodName).cls yX10_many yX10_many ∈ bigw := ⟨(gb7 85 (by decide +kernel) (by decide +kernel)), (gb0 50 (by decide +kernel) (by decide +kernel))⟩
theorem lkX10_93 : LKV RX10 93 yX10_many cX10_many 2 (some .int) 1 := ⟨⟨(gb7 83 (by decide +kernel) (by decide +kernel)), mc_X10_many, mi_X10_many, by decide, by decide +kernel⟩, ms_X10_many.1, ms_X10_many.2⟩
set_option maxRecDepth 100000 in
theorem mc_X10_getGas : .code yX10_getGas cX10_getGas 5 none ∈ bigw := (gb7 90 rfl (by decide +kernel))
theorem mi_X10_getGas : .initialized (yX10_getGas : MethodName).cls ∈ bigw := (gb1 11 (by decide +kernel) (by decide +kernel))
theorem ms_X10_getGas : .instanceMethod yX10_getGas ∈ bigw ∧ .selects (yX10_getGas : MethodName).cls yX10_getGas yX10_getGas ∈ bigw := ⟨(gb7 89 (by decide +kernel) (by decide +kernel)), (gb0 51 (by decide +kernel) (by decide +kernel))⟩
theorem lkX10_128 : LKV RX10 128 yX10_getGas cX10_getGas 5 none 0 := ⟨⟨(gb7 87 (by decide +kernel) (by decide +kernel)), mc_X10_getGas, mi_X10_getGas, by decide, by decide +kernel⟩, ms_X10_getGas.1, ms_X10_getGas.2⟩
set_option maxRecDepth 100000 in
theorem mc_X10_leaks : .code yX10_leaks cX10_leaks 5 (some .long) ∈ bigw := (gb7 95 rfl (by decide +kernel))
theorem mi_X10_leaks : .initialized (yX10_leaks : MethodName).cls ∈ bigw := (gb1 11 (by decide +kernel) (by decide +kernel))
theorem ms_X10_leaks : .instanceMethod yX10_leaks ∈ bigw ∧ .selects (yX10_leaks : MethodName).cls yX10_leaks yX10_leaks ∈ bigw := ⟨(gb7 94 (by decide +kernel) (by decide +kernel)), (gb0 52 (by decide +kernel) (by decide +kernel))⟩
theorem lkX10_108 : LKV RX10 108 yX10_leaks cX10_leaks 5 (some .long) 1 := ⟨⟨(gb7 92 (by decide +kernel) (by decide +kernel)), mc_X10_leaks, mi_X10_leaks, by decide, by decide +kernel⟩, ms_X10_leaks.1, ms_X10_leaks.2⟩
set_option maxRecDepth 100000 in
theorem mc_X10_flangeAt : .code yX10_flangeAt cX10_flangeAt 1 (some .int) ∈ bigw := (gb7 98 rfl (by decide +kernel))
theorem mi_X10_flangeAt : .initialized (yX10_flangeAt : MethodName).cls ∈ bigw := (gb1 11 (by decide +kernel) (by decide +kernel))
theorem ms_X10_flangeAt : .static yX10_flangeAt ∈ bigw := (gb7 97 (by decide +kernel) (by decide +kernel))
theorem lkX10_96 : LKS RX10 96 yX10_flangeAt cX10_flangeAt 1 (some .int) 1 := ⟨⟨(gb7 96 (by decide +kernel) (by decide +kernel)), mc_X10_flangeAt, mi_X10_flangeAt, by decide, by decide +kernel⟩, ms_X10_flangeAt⟩
set_option maxRecDepth 100000 in
theorem mc_X10_flowThrough : .code yX10_flowThrough cX10_flowThrough 13 none ∈ bigw := (gb7 102 rfl (by decide +kernel))
theorem mi_X10_flowThrough : .initialized (yX10_flowThrough : MethodName).cls ∈ bigw := (gb1 11 (by decide +kernel) (by decide +kernel))
theorem ms_X10_flowThrough : .instanceMethod yX10_flowThrough ∈ bigw ∧ .selects (yX10_flowThrough : MethodName).cls yX10_flowThrough yX10_flowThrough ∈ bigw := ⟨(gb7 101 (by decide +kernel) (by decide +kernel)), (gb0 53 (by decide +kernel) (by decide +kernel))⟩
theorem lkX10_131 : LKV RX10 131 yX10_flowThrough cX10_flowThrough 13 none 1 := ⟨⟨(gb7 99 (by decide +kernel) (by decide +kernel)), mc_X10_flowThrough, mi_X10_flowThrough, by decide, by decide +kernel⟩, ms_X10_flowThrough.1, ms_X10_flowThrough.2⟩
theorem lkX10_111 : LKS RX10 111 Lib.MathLoose.min_long.x Lib.MathLoose.min_long.code 4 (some .long) 2 := ⟨⟨(gb7 103 (by decide +kernel) (by decide +kernel)), mc_Math_min_l, mi_Math_min_l, by decide, by decide +kernel⟩, ms_Math_min_l⟩
set_option maxRecDepth 100000 in
theorem mc_X10_give : .code yX10_give cX10_give 4 none ∈ bigw := (gb7 107 rfl (by decide +kernel))
theorem mi_X10_give : .initialized (yX10_give : MethodName).cls ∈ bigw := (gb1 11 (by decide +kernel) (by decide +kernel))
theorem ms_X10_give : .instanceMethod yX10_give ∈ bigw ∧ .selects (yX10_give : MethodName).cls yX10_give yX10_give ∈ bigw := ⟨(gb7 106 (by decide +kernel) (by decide +kernel)), (gb0 54 (by decide +kernel) (by decide +kernel))⟩
theorem lkX10_115 : LKV RX10 115 yX10_give cX10_give 4 none 2 := ⟨⟨(gb7 104 (by decide +kernel) (by decide +kernel)), mc_X10_give, mi_X10_give, by decide, by decide +kernel⟩, ms_X10_give.1, ms_X10_give.2⟩
set_option maxRecDepth 100000 in
theorem mc_X10_pumpOut : .code yX10_pumpOut cX10_pumpOut 7 none ∈ bigw := (gb7 111 rfl (by decide +kernel))
theorem mi_X10_pumpOut : .initialized (yX10_pumpOut : MethodName).cls ∈ bigw := (gb1 11 (by decide +kernel) (by decide +kernel))
theorem ms_X10_pumpOut : .instanceMethod yX10_pumpOut ∈ bigw ∧ .selects (yX10_pumpOut : MethodName).cls yX10_pumpOut yX10_pumpOut ∈ bigw := ⟨(gb7 110 (by decide +kernel) (by decide +kernel)), (gb0 55 (by decide +kernel) (by decide +kernel))⟩
theorem lkX10_138 : LKV RX10 138 yX10_pumpOut cX10_pumpOut 7 none 1 := ⟨⟨(gb7 108 (by decide +kernel) (by decide +kernel)), mc_X10_pumpOut, mi_X10_pumpOut, by decide, by decide +kernel⟩, ms_X10_pumpOut.1, ms_X10_pumpOut.2⟩
set_option maxRecDepth 100000 in
theorem mc_X10_passUntil : .code yX10_passUntil cX10_passUntil 4 (some .int) ∈ bigw := (gb7 115 rfl (by decide +kernel))
theorem mi_X10_passUntil : .initialized (yX10_passUntil : MethodName).cls ∈ bigw := (gb1 11 (by decide +kernel) (by decide +kernel))
theorem ms_X10_passUntil : .instanceMethod yX10_passUntil ∈ bigw ∧ .selects (yX10_passUntil : MethodName).cls yX10_passUntil yX10_passUntil ∈ bigw := ⟨(gb7 113 (by decide +kernel) (by decide +kernel)), (gb7 114 (by decide +kernel) (by decide +kernel))⟩
theorem lkL_201 : LKV RL 201 yX10_passUntil cX10_passUntil 4 (some .int) 2 := ⟨⟨(gb7 112 (by decide +kernel) (by decide +kernel)), mc_X10_passUntil, mi_X10_passUntil, by decide, by decide +kernel⟩, ms_X10_passUntil.1, ms_X10_passUntil.2⟩
set_option maxRecDepth 100000 in
theorem mc_X10_isChamber : .code yX10_isChamber cX10_isChamber 2 (some .boolean) ∈ bigw := (gb7 119 rfl (by decide +kernel))
theorem mi_X10_isChamber : .initialized (yX10_isChamber : MethodName).cls ∈ bigw := (gb1 11 (by decide +kernel) (by decide +kernel))
theorem ms_X10_isChamber : .instanceMethod yX10_isChamber ∈ bigw ∧ .selects (yX10_isChamber : MethodName).cls yX10_isChamber yX10_isChamber ∈ bigw := ⟨(gb7 118 (by decide +kernel) (by decide +kernel)), (gb0 56 (by decide +kernel) (by decide +kernel))⟩
theorem lkX10_179 : LKV RX10 179 yX10_isChamber cX10_isChamber 2 (some .boolean) 1 := ⟨⟨(gb7 116 (by decide +kernel) (by decide +kernel)), mc_X10_isChamber, mi_X10_isChamber, by decide, by decide +kernel⟩, ms_X10_isChamber.1, ms_X10_isChamber.2⟩
set_option maxRecDepth 100000 in
theorem mc_X10_isPressure : .code yX10_isPressure cX10_isPressure 1 (some .boolean) ∈ bigw := (gb7 122 rfl (by decide +kernel))
theorem mi_X10_isPressure : .initialized (yX10_isPressure : MethodName).cls ∈ bigw := (gb1 11 (by decide +kernel) (by decide +kernel))
theorem ms_X10_isPressure : .static yX10_isPressure ∈ bigw := (gb7 121 (by decide +kernel) (by decide +kernel))
theorem lkX10_182 : LKS RX10 182 yX10_isPressure cX10_isPressure 1 (some .boolean) 1 := ⟨⟨(gb7 120 (by decide +kernel) (by decide +kernel)), mc_X10_isPressure, mi_X10_isPressure, by decide, by decide +kernel⟩, ms_X10_isPressure⟩
set_option maxRecDepth 100000 in
theorem mc_X10_goDown : .code yX10_goDown cX10_goDown 4 (some .int) ∈ bigw := (gb7 126 rfl (by decide +kernel))
theorem mi_X10_goDown : .initialized (yX10_goDown : MethodName).cls ∈ bigw := (gb1 11 (by decide +kernel) (by decide +kernel))
theorem ms_X10_goDown : .instanceMethod yX10_goDown ∈ bigw ∧ .selects (yX10_goDown : MethodName).cls yX10_goDown yX10_goDown ∈ bigw := ⟨(gb7 125 (by decide +kernel) (by decide +kernel)), (gb0 57 (by decide +kernel) (by decide +kernel))⟩
theorem lkX10_185 : LKV RX10 185 yX10_goDown cX10_goDown 4 (some .int) 2 := ⟨⟨(gb7 123 (by decide +kernel) (by decide +kernel)), mc_X10_goDown, mi_X10_goDown, by decide, by decide +kernel⟩, ms_X10_goDown.1, ms_X10_goDown.2⟩
set_option maxRecDepth 100000 in
theorem mc_X10_seal : .code yX10_seal cX10_seal 2 (some .int) ∈ bigw := (gb7 130 rfl (by decide +kernel))
theorem mi_X10_seal : .initialized (yX10_seal : MethodName).cls ∈ bigw := (gb1 11 (by decide +kernel) (by decide +kernel))
theorem ms_X10_seal : .instanceMethod yX10_seal ∈ bigw ∧ .selects (yX10_seal : MethodName).cls yX10_seal yX10_seal ∈ bigw := ⟨(gb7 128 (by decide +kernel) (by decide +kernel)), (gb7 129 (by decide +kernel) (by decide +kernel))⟩
theorem lkL_204 : LKV RL 204 yX10_seal cX10_seal 2 (some .int) 1 := ⟨⟨(gb7 127 (by decide +kernel) (by decide +kernel)), mc_X10_seal, mi_X10_seal, by decide, by decide +kernel⟩, ms_X10_seal.1, ms_X10_seal.2⟩
set_option maxRecDepth 100000 in
theorem mc_X10_isFlange : .code yX10_isFlange cX10_isFlange 2 (some .boolean) ∈ bigw := (gb7 134 rfl (by decide +kernel))
theorem mi_X10_isFlange : .initialized (yX10_isFlange : MethodName).cls ∈ bigw := (gb1 11 (by decide +kernel) (by decide +kernel))
theorem ms_X10_isFlange : .instanceMethod yX10_isFlange ∈ bigw ∧ .selects (yX10_isFlange : MethodName).cls yX10_isFlange yX10_isFlange ∈ bigw := ⟨(gb7 133 (by decide +kernel) (by decide +kernel)), (gb0 58 (by decide +kernel) (by decide +kernel))⟩
theorem lkX10_191 : LKV RX10 191 yX10_isFlange cX10_isFlange 2 (some .boolean) 1 := ⟨⟨(gb7 131 (by decide +kernel) (by decide +kernel)), mc_X10_isFlange, mi_X10_isFlange, by decide, by decide +kernel⟩, ms_X10_isFlange.1, ms_X10_isFlange.2⟩
set_option maxRecDepth 100000 in
theorem mc_X10_sets : .code yX10_sets cX10_sets 3 (some .int) ∈ bigw := (gb7 138 rfl (by decide +kernel))
theorem mi_X10_sets : .initialized (yX10_sets : MethodName).cls ∈ bigw := (gb1 11 (by decide +kernel) (by decide +kernel))
theorem ms_X10_sets : .instanceMethod yX10_sets ∈ bigw ∧ .selects (yX10_sets : MethodName).cls yX10_sets yX10_sets ∈ bigw := ⟨(gb7 137 (by decide +kernel) (by decide +kernel)), (gb0 59 (by decide +kernel) (by decide +kernel))⟩
theorem lkX10_194 : LKV RX10 194 yX10_sets cX10_sets 3 (some .int) 2 := ⟨⟨(gb7 135 (by decide +kernel) (by decide +kernel)), mc_X10_sets, mi_X10_sets, by decide, by decide +kernel⟩, ms_X10_sets.1, ms_X10_sets.2⟩
set_option maxRecDepth 100000 in
theorem mc_X10_setNow : .code yX10_setNow cX10_setNow 4 (some .int) ∈ bigw := (gb7 142 rfl (by decide +kernel))
theorem mi_X10_setNow : .initialized (yX10_setNow : MethodName).cls ∈ bigw := (gb1 11 (by decide +kernel) (by decide +kernel))
theorem ms_X10_setNow : .instanceMethod yX10_setNow ∈ bigw ∧ .selects (yX10_setNow : MethodName).cls yX10_setNow yX10_setNow ∈ bigw := ⟨(gb7 141 (by decide +kernel) (by decide +kernel)), (gb0 60 (by decide +kernel) (by decide +kernel))⟩
theorem lkX10_188 : LKV RX10 188 yX10_setNow cX10_setNow 4 (some .int) 2 := ⟨⟨(gb7 139 (by decide +kernel) (by decide +kernel)), mc_X10_setNow, mi_X10_setNow, by decide, by decide +kernel⟩, ms_X10_setNow.1, ms_X10_setNow.2⟩
set_option maxRecDepth 100000 in
theorem mc_X10_setLeak : .code yX10_setLeak cX10_setLeak 3 (some .int) ∈ bigw := (gb7 146 rfl (by decide +kernel))
theorem mi_X10_setLeak : .initialized (yX10_setLeak : MethodName).cls ∈ bigw := (gb1 11 (by decide +kernel) (by decide +kernel))
theorem ms_X10_setLeak : .instanceMethod yX10_setLeak ∈ bigw ∧ .selects (yX10_setLeak : MethodName).cls yX10_setLeak yX10_setLeak ∈ bigw := ⟨(gb7 144 (by decide +kernel) (by decide +kernel)), (gb7 145 (by decide +kernel) (by decide +kernel))⟩
theorem lkL_207 : LKV RL 207 yX10_setLeak cX10_setLeak 3 (some .int) 2 := ⟨⟨(gb7 143 (by decide +kernel) (by decide +kernel)), mc_X10_setLeak, mi_X10_setLeak, by decide, by decide +kernel⟩, ms_X10_setLeak.1, ms_X10_setLeak.2⟩
set_option maxRecDepth 100000 in
theorem mc_X10_setOutgassing : .code yX10_setOutgassing cX10_setOutgassing 3 (some .int) ∈ bigw := (gb7 151 rfl (by decide +kernel))
theorem mi_X10_setOutgassing : .initialized (yX10_setOutgassing : MethodName).cls ∈ bigw := (gb1 11 (by decide +kernel) (by decide +kernel))
theorem ms_X10_setOutgassing : .instanceMethod yX10_setOutgassing ∈ bigw ∧ .selects (yX10_setOutgassing : MethodName).cls yX10_setOutgassing yX10_setOutgassing ∈ bigw := ⟨(gb7 149 (by decide +kernel) (by decide +kernel)), (gb7 150 (by decide +kernel) (by decide +kernel))⟩
theorem lkL_210 : LKV RL 210 yX10_setOutgassing cX10_setOutgassing 3 (some .int) 2 := ⟨⟨(gb7 148 (by decide +kernel) (by decide +kernel)), mc_X10_setOutgassing, mi_X10_setOutgassing, by decide, by decide +kernel⟩, ms_X10_setOutgassing.1, ms_X10_setOutgassing.2⟩
set_option maxRecDepth 100000 in
theorem mc_X10_setRule : .code yX10_setRule cX10_setRule 3 (some .int) ∈ bigw := (gb7 155 rfl (by decide +kernel))
theorem mi_X10_setRule : .initialized (yX10_setRule : MethodName).cls ∈ bigw := (gb1 11 (by decide +kernel) (by decide +kernel))
theorem ms_X10_setRule : .instanceMethod yX10_setRule ∈ bigw ∧ .selects (yX10_setRule : MethodName).cls yX10_setRule yX10_setRule ∈ bigw := ⟨(gb7 153 (by decide +kernel) (by decide +kernel)), (gb7 154 (by decide +kernel) (by decide +kernel))⟩
theorem lkL_213 : LKV RL 213 yX10_setRule cX10_setRule 3 (some .int) 2 := ⟨⟨(gb7 152 (by decide +kernel) (by decide +kernel)), mc_X10_setRule, mi_X10_setRule, by decide, by decide +kernel⟩, ms_X10_setRule.1, ms_X10_setRule.2⟩
set_option maxRecDepth 100000 in
theorem mc_X10_test : .code yX10_test cX10_test 3 (some .int) ∈ bigw := (gb7 159 rfl (by decide +kernel))
theorem mi_X10_test : .initialized (yX10_test : MethodName).cls ∈ bigw := (gb1 11 (by decide +kernel) (by decide +kernel))
theorem ms_X10_test : .instanceMethod yX10_test ∈ bigw ∧ .selects (yX10_test : MethodName).cls yX10_test yX10_test ∈ bigw := ⟨(gb7 157 (by decide +kernel) (by decide +kernel)), (gb7 158 (by decide +kernel) (by decide +kernel))⟩
theorem lkL_216 : LKV RL 216 yX10_test cX10_test 3 (some .int) 2 := ⟨⟨(gb7 156 (by decide +kernel) (by decide +kernel)), mc_X10_test, mi_X10_test, by decide, by decide +kernel⟩, ms_X10_test.1, ms_X10_test.2⟩
set_option maxRecDepth 100000 in
theorem mc_X10_isTestTicks : .code yX10_isTestTicks cX10_isTestTicks 1 (some .boolean) ∈ bigw := (gb7 162 rfl (by decide +kernel))
theorem mi_X10_isTestTicks : .initialized (yX10_isTestTicks : MethodName).cls ∈ bigw := (gb1 11 (by decide +kernel) (by decide +kernel))
theorem ms_X10_isTestTicks : .static yX10_isTestTicks ∈ bigw := (gb7 161 (by decide +kernel) (by decide +kernel))
theorem lkX10_214 : LKS RX10 214 yX10_isTestTicks cX10_isTestTicks 1 (some .boolean) 1 := ⟨⟨(gb7 160 (by decide +kernel) (by decide +kernel)), mc_X10_isTestTicks, mi_X10_isTestTicks, by decide, by decide +kernel⟩, ms_X10_isTestTicks⟩
set_option maxRecDepth 100000 in
theorem mc_X10_isAlone : .code yX10_isAlone cX10_isAlone 3 (some .boolean) ∈ bigw := (gb7 168 rfl (by decide +kernel))
theorem mi_X10_isAlone : .initialized (yX10_isAlone : MethodName).cls ∈ bigw := (gb1 11 (by decide +kernel) (by decide +kernel))
theorem ms_X10_isAlone : .instanceMethod yX10_isAlone ∈ bigw ∧ .selects (yX10_isAlone : MethodName).cls yX10_isAlone yX10_isAlone ∈ bigw := ⟨(gb7 167 (by decide +kernel) (by decide +kernel)), (gb0 61 (by decide +kernel) (by decide +kernel))⟩
theorem lkX10_217 : LKV RX10 217 yX10_isAlone cX10_isAlone 3 (some .boolean) 1 := ⟨⟨(gb7 165 (by decide +kernel) (by decide +kernel)), mc_X10_isAlone, mi_X10_isAlone, by decide, by decide +kernel⟩, ms_X10_isAlone.1, ms_X10_isAlone.2⟩
set_option maxRecDepth 100000 in
theorem mc_X10_testNow : .code yX10_testNow cX10_testNow 9 (some .int) ∈ bigw := (gb7 172 rfl (by decide +kernel))
theorem mi_X10_testNow : .initialized (yX10_testNow : MethodName).cls ∈ bigw := (gb1 11 (by decide +kernel) (by decide +kernel))
theorem ms_X10_testNow : .instanceMethod yX10_testNow ∈ bigw ∧ .selects (yX10_testNow : MethodName).cls yX10_testNow yX10_testNow ∈ bigw := ⟨(gb7 171 (by decide +kernel) (by decide +kernel)), (gb0 62 (by decide +kernel) (by decide +kernel))⟩
theorem lkX10_220 : LKV RX10 220 yX10_testNow cX10_testNow 9 (some .int) 2 := ⟨⟨(gb7 169 (by decide +kernel) (by decide +kernel)), mc_X10_testNow, mi_X10_testNow, by decide, by decide +kernel⟩, ms_X10_testNow.1, ms_X10_testNow.2⟩
set_option maxRecDepth 100000 in
theorem mc_X10_riseIn : .code yX10_riseIn cX10_riseIn 6 (some .long) ∈ bigw := (gb7 176 rfl (by decide +kernel))
theorem mi_X10_riseIn : .initialized (yX10_riseIn : MethodName).cls ∈ bigw := (gb1 11 (by decide +kernel) (by decide +kernel))
theorem ms_X10_riseIn : .instanceMethod yX10_riseIn ∈ bigw ∧ .selects (yX10_riseIn : MethodName).cls yX10_riseIn yX10_riseIn ∈ bigw := ⟨(gb7 175 (by decide +kernel) (by decide +kernel)), (gb0 63 (by decide +kernel) (by decide +kernel))⟩
theorem lkX10_203 : LKV RX10 203 yX10_riseIn cX10_riseIn 6 (some .long) 2 := ⟨⟨(gb7 173 (by decide +kernel) (by decide +kernel)), mc_X10_riseIn, mi_X10_riseIn, by decide, by decide +kernel⟩, ms_X10_riseIn.1, ms_X10_riseIn.2⟩
set_option maxRecDepth 100000 in
theorem mc_X10_testAt : .code yX10_testAt cX10_testAt 1 (some .int) ∈ bigw := (gb7 181 rfl (by decide +kernel))
theorem mi_X10_testAt : .initialized (yX10_testAt : MethodName).cls ∈ bigw := (gb1 11 (by decide +kernel) (by decide +kernel))
theorem ms_X10_testAt : .static yX10_testAt ∈ bigw := (gb7 180 (by decide +kernel) (by decide +kernel))
theorem lkX10_211 : LKS RX10 211 yX10_testAt cX10_testAt 1 (some .int) 1 := ⟨⟨(gb7 179 (by decide +kernel) (by decide +kernel)), mc_X10_testAt, mi_X10_testAt, by decide, by decide +kernel⟩, ms_X10_testAt⟩
set_option maxRecDepth 100000 in
theorem mc_X10_appendText : .code yX10_appendText cX10_appendText 6 (some .int) ∈ bigw := (gb7 185 rfl (by decide +kernel))
theorem mi_X10_appendText : .initialized (yX10_appendText : MethodName).cls ∈ bigw := (gb1 11 (by decide +kernel) (by decide +kernel))
theorem ms_X10_appendText : .instanceMethod yX10_appendText ∈ bigw ∧ .selects (yX10_appendText : MethodName).cls yX10_appendText yX10_appendText ∈ bigw := ⟨(gb7 183 (by decide +kernel) (by decide +kernel)), (gb7 184 (by decide +kernel) (by decide +kernel))⟩
theorem lkL_163 : LKV RL 163 yX10_appendText cX10_appendText 6 (some .int) 5 := ⟨⟨(gb7 182 (by decide +kernel) (by decide +kernel)), mc_X10_appendText, mi_X10_appendText, by decide, by decide +kernel⟩, ms_X10_appendText.1, ms_X10_appendText.2⟩
set_option maxRecDepth 100000 in
theorem mc_X10_bring : .code yX10_bring cX10_bring 3 none ∈ bigw := (gb7 189 rfl (by decide +kernel))
theorem mi_X10_bring : .initialized (yX10_bring : MethodName).cls ∈ bigw := (gb1 11 (by decide +kernel) (by decide +kernel))
theorem ms_X10_bring : .instanceMethod yX10_bring ∈ bigw ∧ .selects (yX10_bring : MethodName).cls yX10_bring yX10_bring ∈ bigw := ⟨(gb7 188 (by decide +kernel) (by decide +kernel)), (gb0 64 (by decide +kernel) (by decide +kernel))⟩
theorem lkX10_226 : LKV RX10 226 yX10_bring cX10_bring 3 none 1 := ⟨⟨(gb7 186 (by decide +kernel) (by decide +kernel)), mc_X10_bring, mi_X10_bring, by decide, by decide +kernel⟩, ms_X10_bring.1, ms_X10_bring.2⟩
set_option maxRecDepth 100000 in
theorem mc_X10_truncateText : .code yX10_truncateText cX10_truncateText 2 (some .int) ∈ bigw := (gb7 193 rfl (by decide +kernel))
theorem mi_X10_truncateText : .initialized (yX10_truncateText : MethodName).cls ∈ bigw := (gb1 11 (by decide +kernel) (by decide +kernel))
theorem ms_X10_truncateText : .instanceMethod yX10_truncateText ∈ bigw ∧ .selects (yX10_truncateText : MethodName).cls yX10_truncateText yX10_truncateText ∈ bigw := ⟨(gb7 191 (by decide +kernel) (by decide +kernel)), (gb7 192 (by decide +kernel) (by decide +kernel))⟩
theorem lkL_170 : LKV RL 170 yX10_truncateText cX10_truncateText 2 (some .int) 1 := ⟨⟨(gb7 190 (by decide +kernel) (by decide +kernel)), mc_X10_truncateText, mi_X10_truncateText, by decide, by decide +kernel⟩, ms_X10_truncateText.1, ms_X10_truncateText.2⟩
set_option maxRecDepth 100000 in
theorem mc_X10_parseSystem : .code yX10_parseSystem cX10_parseSystem 2 (some .int) ∈ bigw := (gb7 197 rfl (by decide +kernel))
theorem mi_X10_parseSystem : .initialized (yX10_parseSystem : MethodName).cls ∈ bigw := (gb1 11 (by decide +kernel) (by decide +kernel))
theorem ms_X10_parseSystem : .instanceMethod yX10_parseSystem ∈ bigw ∧ .selects (yX10_parseSystem : MethodName).cls yX10_parseSystem yX10_parseSystem ∈ bigw := ⟨(gb7 195 (by decide +kernel) (by decide +kernel)), (gb7 196 (by decide +kernel) (by decide +kernel))⟩
theorem lkL_174 : LKV RL 174 yX10_parseSystem cX10_parseSystem 2 (some .int) 0 := ⟨⟨(gb7 194 (by decide +kernel) (by decide +kernel)), mc_X10_parseSystem, mi_X10_parseSystem, by decide, by decide +kernel⟩, ms_X10_parseSystem.1, ms_X10_parseSystem.2⟩
set_option maxRecDepth 100000 in
theorem mc_X10_begin : .code yX10_begin cX10_begin 1 none ∈ bigw := (gb7 201 rfl (by decide +kernel))
theorem mi_X10_begin : .initialized (yX10_begin : MethodName).cls ∈ bigw := (gb1 11 (by decide +kernel) (by decide +kernel))
theorem ms_X10_begin : .instanceMethod yX10_begin ∈ bigw ∧ .selects (yX10_begin : MethodName).cls yX10_begin yX10_begin ∈ bigw := ⟨(gb7 200 (by decide +kernel) (by decide +kernel)), (gb0 65 (by decide +kernel) (by decide +kernel))⟩
theorem lkX10_312 : LKV RX10 312 yX10_begin cX10_begin 1 none 0 := ⟨⟨(gb7 198 (by decide +kernel) (by decide +kernel)), mc_X10_begin, mi_X10_begin, by decide, by decide +kernel⟩, ms_X10_begin.1, ms_X10_begin.2⟩
set_option maxRecDepth 100000 in
theorem mc_X10_next : .code yX10_next cX10_next 1 none ∈ bigw := (gb7 205 rfl (by decide +kernel))
theorem mi_X10_next : .initialized (yX10_next : MethodName).cls ∈ bigw := (gb1 11 (by decide +kernel) (by decide +kernel))
theorem ms_X10_next : .instanceMethod yX10_next ∈ bigw ∧ .selects (yX10_next : MethodName).cls yX10_next yX10_next ∈ bigw := ⟨(gb7 204 (by decide +kernel) (by decide +kernel)), (gb0 66 (by decide +kernel) (by decide +kernel))⟩
theorem lkX10_266 : LKV RX10 266 yX10_next cX10_next 1 none 0 := ⟨⟨(gb7 202 (by decide +kernel) (by decide +kernel)), mc_X10_next, mi_X10_next, by decide, by decide +kernel⟩, ms_X10_next.1, ms_X10_next.2⟩
set_option maxRecDepth 100000 in
theorem mc_X10_byteAt : .code yX10_byteAt cX10_byteAt 2 (some .int) ∈ bigw := (gb7 209 rfl (by decide +kernel))
theorem mi_X10_byteAt : .initialized (yX10_byteAt : MethodName).cls ∈ bigw := (gb1 11 (by decide +kernel) (by decide +kernel))
theorem ms_X10_byteAt : .instanceMethod yX10_byteAt ∈ bigw ∧ .selects (yX10_byteAt : MethodName).cls yX10_byteAt yX10_byteAt ∈ bigw := ⟨(gb7 208 (by decide +kernel) (by decide +kernel)), (gb0 67 (by decide +kernel) (by decide +kernel))⟩
theorem lkX10_232 : LKV RX10 232 yX10_byteAt cX10_byteAt 2 (some .int) 1 := ⟨⟨(gb7 206 (by decide +kernel) (by decide +kernel)), mc_X10_byteAt, mi_X10_byteAt, by decide, by decide +kernel⟩, ms_X10_byteAt.1, ms_X10_byteAt.2⟩
set_option maxRecDepth 100000 in
theorem mc_X10_isLetterAt : .code yX10_isLetterAt cX10_isLetterAt 2 (some .boolean) ∈ bigw := (gb7 213 rfl (by decide +kernel))
theorem mi_X10_isLetterAt : .initialized (yX10_isLetterAt : MethodName).cls ∈ bigw := (gb1 11 (by decide +kernel) (by decide +kernel))
theorem ms_X10_isLetterAt : .instanceMethod yX10_isLetterAt ∈ bigw ∧ .selects (yX10_isLetterAt : MethodName).cls yX10_isLetterAt yX10_isLetterAt ∈ bigw := ⟨(gb7 212 (by decide +kernel) (by decide +kernel)), (gb0 68 (by decide +kernel) (by decide +kernel))⟩
theorem lkX10_249 : LKV RX10 249 yX10_isLetterAt cX10_isLetterAt 2 (some .boolean) 1 := ⟨⟨(gb7 210 (by decide +kernel) (by decide +kernel)), mc_X10_isLetterAt, mi_X10_isLetterAt, by decide, by decide +kernel⟩, ms_X10_isLetterAt.1, ms_X10_isLetterAt.2⟩
set_option maxRecDepth 100000 in
theorem mc_X10_isDigitAt : .code yX10_isDigitAt cX10_isDigitAt 2 (some .boolean) ∈ bigw := (gb7 219 rfl (by decide +kernel))
theorem mi_X10_isDigitAt : .initialized (yX10_isDigitAt : MethodName).cls ∈ bigw := (gb1 11 (by decide +kernel) (by decide +kernel))
theorem ms_X10_isDigitAt : .instanceMethod yX10_isDigitAt ∈ bigw ∧ .selects (yX10_isDigitAt : MethodName).cls yX10_isDigitAt yX10_isDigitAt ∈ bigw := ⟨(gb7 218 (by decide +kernel) (by decide +kernel)), (gb0 69 (by decide +kernel) (by decide +kernel))⟩
theorem lkX10_252 : LKV RX10 252 yX10_isDigitAt cX10_isDigitAt 2 (some .boolean) 1 := ⟨⟨(gb7 216 (by decide +kernel) (by decide +kernel)), mc_X10_isDigitAt, mi_X10_isDigitAt, by decide, by decide +kernel⟩, ms_X10_isDigitAt.1, ms_X10_isDigitAt.2⟩
set_option maxRecDepth 100000 in
theorem mc_X10_readChamber : .code yX10_readChamber cX10_readChamber 5 none ∈ bigw := (gb7 225 rfl (by decide +kernel))
theorem mi_X10_readChamber : .initialized (yX10_readChamber : MethodName).cls ∈ bigw := (gb1 11 (by decide +kernel) (by decide +kernel))
theorem ms_X10_readChamber : .instanceMethod yX10_readChamber ∈ bigw ∧ .selects (yX10_readChamber : MethodName).cls yX10_readChamber yX10_readChamber ∈ bigw := ⟨(gb7 224 (by decide +kernel) (by decide +kernel)), (gb0 70 (by decide +kernel) (by decide +kernel))⟩
theorem lkX10_315 : LKV RX10 315 yX10_readChamber cX10_readChamber 5 none 0 := ⟨⟨(gb7 222 (by decide +kernel) (by decide +kernel)), mc_X10_readChamber, mi_X10_readChamber, by decide, by decide +kernel⟩, ms_X10_readChamber.1, ms_X10_readChamber.2⟩
set_option maxRecDepth 100000 in
theorem mc_X10_keyword : .code yX10_keyword cX10_keyword 4 none ∈ bigw := (gb7 230 rfl (by decide +kernel))
theorem mi_X10_keyword : .initialized (yX10_keyword : MethodName).cls ∈ bigw := (gb1 11 (by decide +kernel) (by decide +kernel))
theorem ms_X10_keyword : .instanceMethod yX10_keyword ∈ bigw ∧ .selects (yX10_keyword : MethodName).cls yX10_keyword yX10_keyword ∈ bigw := ⟨(gb7 229 (by decide +kernel) (by decide +kernel)), (gb0 71 (by decide +kernel) (by decide +kernel))⟩
theorem lkX10_290 : LKV RX10 290 yX10_keyword cX10_keyword 4 none 3 := ⟨⟨(gb7 227 (by decide +kernel) (by decide +kernel)), mc_X10_keyword, mi_X10_keyword, by decide, by decide +kernel⟩, ms_X10_keyword.1, ms_X10_keyword.2⟩
set_option maxRecDepth 100000 in
theorem mc_X10_isWord : .code yX10_isWord cX10_isWord 4 (some .boolean) ∈ bigw := (gb7 234 rfl (by decide +kernel))
theorem mi_X10_isWord : .initialized (yX10_isWord : MethodName).cls ∈ bigw := (gb1 11 (by decide +kernel) (by decide +kernel))
theorem ms_X10_isWord : .instanceMethod yX10_isWord ∈ bigw ∧ .selects (yX10_isWord : MethodName).cls yX10_isWord yX10_isWord ∈ bigw := ⟨(gb7 233 (by decide +kernel) (by decide +kernel)), (gb0 72 (by decide +kernel) (by decide +kernel))⟩
theorem lkX10_279 : LKV RX10 279 yX10_isWord cX10_isWord 4 (some .boolean) 1 := ⟨⟨(gb7 231 (by decide +kernel) (by decide +kernel)), mc_X10_isWord, mi_X10_isWord, by decide, by decide +kernel⟩, ms_X10_isWord.1, ms_X10_isWord.2⟩
theorem lkX10_258 : LKV RX10 258 ⟨"java/lang/String", "length", "()I"⟩ prog_22_method_54_code 1 (some .int) 0 := ⟨⟨(gb7 235 (by decide +kernel) (by decide +kernel)), mc_String_length, mi_String_length, by decide, by decide +kernel⟩, ms_String_length.1, ms_String_length.2⟩
theorem lkX10_262 : LKV RX10 262 ⟨"java/lang/String", "charAt", "(I)C"⟩ prog_22_method_56_code 2 (some .char) 1 := ⟨⟨(gb7 236 (by decide +kernel) (by decide +kernel)), mc_String_charAt, mi_String_charAt, by decide, by decide +kernel⟩, ms_String_charAt.1, ms_String_charAt.2⟩
set_option maxRecDepth 100000 in
theorem mc_X10_wrong : .code yX10_wrong cX10_wrong 2 none ∈ bigw := (gb8 0 rfl (by decide +kernel))
theorem mi_X10_wrong : .initialized (yX10_wrong : MethodName).cls ∈ bigw := (gb1 11 (by decide +kernel) (by decide +kernel))
theorem ms_X10_wrong : .instanceMethod yX10_wrong ∈ bigw ∧ .selects (yX10_wrong : MethodName).cls yX10_wrong yX10_wrong ∈ bigw := ⟨(gb7 239 (by decide +kernel) (by decide +kernel)), (gb0 73 (by decide +kernel) (by decide +kernel))⟩
theorem lkX10_269 : LKV RX10 269 yX10_wrong cX10_wrong 2 none 1 := ⟨⟨(gb7 237 (by decide +kernel) (by decide +kernel)), mc_X10_wrong, mi_X10_wrong, by decide, by decide +kernel⟩, ms_X10_wrong.1, ms_X10_wrong.2⟩
set_option maxRecDepth 100000 in
theorem mc_X10_goOn : .code yX10_goOn cX10_goOn 1 none ∈ bigw := (gb8 4 rfl (by decide +kernel))
theorem mi_X10_goOn : .initialized (yX10_goOn : MethodName).cls ∈ bigw := (gb1 11 (by decide +kernel) (by decide +kernel))
theorem ms_X10_goOn : .instanceMethod yX10_goOn ∈ bigw ∧ .selects (yX10_goOn : MethodName).cls yX10_goOn yX10_goOn ∈ bigw := ⟨(gb8 3 (by decide +kernel) (by decide +kernel)), (gb0 74 (by decide +kernel) (by decide +kernel))⟩
theorem lkX10_276 : LKV RX10 276 yX10_goOn cX10_goOn 1 none 0 := ⟨⟨(gb8 1 (by decide +kernel) (by decide +kernel)), mc_X10_goOn, mi_X10_goOn, by decide, by decide +kernel⟩, ms_X10_goOn.1, ms_X10_goOn.2⟩
set_option maxRecDepth 100000 in
theorem mc_X10_number : .code yX10_number cX10_number 6 (some .int) ∈ bigw := (gb8 8 rfl (by decide +kernel))
theorem mi_X10_number : .initialized (yX10_number : MethodName).cls ∈ bigw := (gb1 11 (by decide +kernel) (by decide +kernel))
theorem ms_X10_number : .instanceMethod yX10_number ∈ bigw ∧ .selects (yX10_number : MethodName).cls yX10_number yX10_number ∈ bigw := ⟨(gb8 7 (by decide +kernel) (by decide +kernel)), (gb0 75 (by decide +kernel) (by decide +kernel))⟩
theorem lkX10_283 : LKV RX10 283 yX10_number cX10_number 6 (some .int) 2 := ⟨⟨(gb8 5 (by decide +kernel) (by decide +kernel)), mc_X10_number, mi_X10_number, by decide, by decide +kernel⟩, ms_X10_number.1, ms_X10_number.2⟩
set_option maxRecDepth 100000 in
theorem mc_X10_see : .code yX10_see cX10_see 7 (some .int) ∈ bigw := (gb8 12 rfl (by decide +kernel))
theorem mi_X10_see : .initialized (yX10_see : MethodName).cls ∈ bigw := (gb1 11 (by decide +kernel) (by decide +kernel))
theorem ms_X10_see : .instanceMethod yX10_see ∈ bigw ∧ .selects (yX10_see : MethodName).cls yX10_see yX10_see ∈ bigw := ⟨(gb8 11 (by decide +kernel) (by decide +kernel)), (gb0 76 (by decide +kernel) (by decide +kernel))⟩
theorem lkX10_272 : LKV RX10 272 yX10_see cX10_see 7 (some .int) 2 := ⟨⟨(gb8 9 (by decide +kernel) (by decide +kernel)), mc_X10_see, mi_X10_see, by decide, by decide +kernel⟩, ms_X10_see.1, ms_X10_see.2⟩
set_option maxRecDepth 100000 in
theorem mc_X10_must : .code yX10_must cX10_must 2 none ∈ bigw := (gb8 17 rfl (by decide +kernel))
theorem mi_X10_must : .initialized (yX10_must : MethodName).cls ∈ bigw := (gb1 11 (by decide +kernel) (by decide +kernel))
theorem ms_X10_must : .instanceMethod yX10_must ∈ bigw ∧ .selects (yX10_must : MethodName).cls yX10_must yX10_must ∈ bigw := ⟨(gb8 16 (by decide +kernel) (by decide +kernel)), (gb0 77 (by decide +kernel) (by decide +kernel))⟩
theorem lkX10_296 : LKV RX10 296 yX10_must cX10_must 2 none 1 := ⟨⟨(gb8 14 (by decide +kernel) (by decide +kernel)), mc_X10_must, mi_X10_must, by decide, by decide +kernel⟩, ms_X10_must.1, ms_X10_must.2⟩
set_option maxRecDepth 100000 in
theorem mc_X10_readPump : .code yX10_readPump cX10_readPump 8 none ∈ bigw := (gb8 22 rfl (by decide +kernel))
theorem mi_X10_readPump : .initialized (yX10_readPump : MethodName).cls ∈ bigw := (gb1 11 (by decide +kernel) (by decide +kernel))
theorem ms_X10_readPump : .instanceMethod yX10_readPump ∈ bigw ∧ .selects (yX10_readPump : MethodName).cls yX10_readPump yX10_readPump ∈ bigw := ⟨(gb8 21 (by decide +kernel) (by decide +kernel)), (gb0 78 (by decide +kernel) (by decide +kernel))⟩
theorem lkX10_318 : LKV RX10 318 yX10_readPump cX10_readPump 8 none 0 := ⟨⟨(gb8 19 (by decide +kernel) (by decide +kernel)), mc_X10_readPump, mi_X10_readPump, by decide, by decide +kernel⟩, ms_X10_readPump.1, ms_X10_readPump.2⟩
set_option maxRecDepth 100000 in
theorem mc_X10_chamberHere : .code yX10_chamberHere cX10_chamberHere 1 (some .int) ∈ bigw := (gb8 26 rfl (by decide +kernel))
theorem mi_X10_chamberHere : .initialized (yX10_chamberHere : MethodName).cls ∈ bigw := (gb1 11 (by decide +kernel) (by decide +kernel))
theorem ms_X10_chamberHere : .instanceMethod yX10_chamberHere ∈ bigw ∧ .selects (yX10_chamberHere : MethodName).cls yX10_chamberHere yX10_chamberHere ∈ bigw := ⟨(gb8 25 (by decide +kernel) (by decide +kernel)), (gb0 79 (by decide +kernel) (by decide +kernel))⟩
theorem lkX10_302 : LKV RX10 302 yX10_chamberHere cX10_chamberHere 1 (some .int) 0 := ⟨⟨(gb8 23 (by decide +kernel) (by decide +kernel)), mc_X10_chamberHere, mi_X10_chamberHere, by decide, by decide +kernel⟩, ms_X10_chamberHere.1, ms_X10_chamberHere.2⟩
set_option maxRecDepth 100000 in
theorem mc_X10_otherHere : .code yX10_otherHere cX10_otherHere 3 (some .int) ∈ bigw := (gb8 30 rfl (by decide +kernel))
theorem mi_X10_otherHere : .initialized (yX10_otherHere : MethodName).cls ∈ bigw := (gb1 11 (by decide +kernel) (by decide +kernel))
theorem ms_X10_otherHere : .instanceMethod yX10_otherHere ∈ bigw ∧ .selects (yX10_otherHere : MethodName).cls yX10_otherHere yX10_otherHere ∈ bigw := ⟨(gb8 29 (by decide +kernel) (by decide +kernel)), (gb0 80 (by decide +kernel) (by decide +kernel))⟩
theorem lkX10_305 : LKV RX10 305 yX10_otherHere cX10_otherHere 3 (some .int) 1 := ⟨⟨(gb8 27 (by decide +kernel) (by decide +kernel)), mc_X10_otherHere, mi_X10_otherHere, by decide, by decide +kernel⟩, ms_X10_otherHere.1, ms_X10_otherHere.2⟩
set_option maxRecDepth 100000 in
theorem mc_X10_readValve : .code yX10_readValve cX10_readValve 6 none ∈ bigw := (gb8 36 rfl (by decide +kernel))
theorem mi_X10_readValve : .initialized (yX10_readValve : MethodName).cls ∈ bigw := (gb1 11 (by decide +kernel) (by decide +kernel))
theorem ms_X10_readValve : .instanceMethod yX10_readValve ∈ bigw ∧ .selects (yX10_readValve : MethodName).cls yX10_readValve yX10_readValve ∈ bigw := ⟨(gb8 35 (by decide +kernel) (by decide +kernel)), (gb0 81 (by decide +kernel) (by decide +kernel))⟩
theorem lkX10_321 : LKV RX10 321 yX10_readValve cX10_readValve 6 none 0 := ⟨⟨(gb8 33 (by decide +kernel) (by decide +kernel)), mc_X10_readValve, mi_X10_readValve, by decide, by decide +kernel⟩, ms_X10_readValve.1, ms_X10_readValve.2⟩
set_option maxRecDepth 100000 in
theorem mc_X10_readFlange : .code yX10_readFlange cX10_readFlange 4 none ∈ bigw := (gb8 40 rfl (by decide +kernel))
theorem mi_X10_readFlange : .initialized (yX10_readFlange : MethodName).cls ∈ bigw := (gb1 11 (by decide +kernel) (by decide +kernel))
theorem ms_X10_readFlange : .instanceMethod yX10_readFlange ∈ bigw ∧ .selects (yX10_readFlange : MethodName).cls yX10_readFlange yX10_readFlange ∈ bigw := ⟨(gb8 39 (by decide +kernel) (by decide +kernel)), (gb0 82 (by decide +kernel) (by decide +kernel))⟩
theorem lkX10_324 : LKV RX10 324 yX10_readFlange cX10_readFlange 4 none 0 := ⟨⟨(gb8 37 (by decide +kernel) (by decide +kernel)), mc_X10_readFlange, mi_X10_readFlange, by decide, by decide +kernel⟩, ms_X10_readFlange.1, ms_X10_readFlange.2⟩
set_option maxRecDepth 100000 in
theorem mc_X10_errorCode : .code yX10_errorCode cX10_errorCode 1 (some .int) ∈ bigw := (gb8 45 rfl (by decide +kernel))
theorem mi_X10_errorCode : .initialized (yX10_errorCode : MethodName).cls ∈ bigw := (gb1 11 (by decide +kernel) (by decide +kernel))
theorem ms_X10_errorCode : .instanceMethod yX10_errorCode ∈ bigw ∧ .selects (yX10_errorCode : MethodName).cls yX10_errorCode yX10_errorCode ∈ bigw := ⟨(gb8 43 (by decide +kernel) (by decide +kernel)), (gb8 44 (by decide +kernel) (by decide +kernel))⟩
theorem lkL_178 : LKV RL 178 yX10_errorCode cX10_errorCode 1 (some .int) 0 := ⟨⟨(gb8 42 (by decide +kernel) (by decide +kernel)), mc_X10_errorCode, mi_X10_errorCode, by decide, by decide +kernel⟩, ms_X10_errorCode.1, ms_X10_errorCode.2⟩
set_option maxRecDepth 100000 in
theorem mc_X10_errorPosition : .code yX10_errorPosition cX10_errorPosition 1 (some .int) ∈ bigw := (gb8 49 rfl (by decide +kernel))
theorem mi_X10_errorPosition : .initialized (yX10_errorPosition : MethodName).cls ∈ bigw := (gb1 11 (by decide +kernel) (by decide +kernel))
theorem ms_X10_errorPosition : .instanceMethod yX10_errorPosition ∈ bigw ∧ .selects (yX10_errorPosition : MethodName).cls yX10_errorPosition yX10_errorPosition ∈ bigw := ⟨(gb8 47 (by decide +kernel) (by decide +kernel)), (gb8 48 (by decide +kernel) (by decide +kernel))⟩
theorem lkL_182 : LKV RL 182 yX10_errorPosition cX10_errorPosition 1 (some .int) 0 := ⟨⟨(gb8 46 (by decide +kernel) (by decide +kernel)), mc_X10_errorPosition, mi_X10_errorPosition, by decide, by decide +kernel⟩, ms_X10_errorPosition.1, ms_X10_errorPosition.2⟩
set_option maxRecDepth 100000 in
theorem mc_X10_runRecipe : .code yX10_runRecipe cX10_runRecipe 5 (some .int) ∈ bigw := (gb8 53 rfl (by decide +kernel))
theorem mi_X10_runRecipe : .initialized (yX10_runRecipe : MethodName).cls ∈ bigw := (gb1 11 (by decide +kernel) (by decide +kernel))
theorem ms_X10_runRecipe : .instanceMethod yX10_runRecipe ∈ bigw ∧ .selects (yX10_runRecipe : MethodName).cls yX10_runRecipe yX10_runRecipe ∈ bigw := ⟨(gb8 51 (by decide +kernel) (by decide +kernel)), (gb8 52 (by decide +kernel) (by decide +kernel))⟩
theorem lkL_220 : LKV RL 220 yX10_runRecipe cX10_runRecipe 5 (some .int) 0 := ⟨⟨(gb8 50 (by decide +kernel) (by decide +kernel)), mc_X10_runRecipe, mi_X10_runRecipe, by decide, by decide +kernel⟩, ms_X10_runRecipe.1, ms_X10_runRecipe.2⟩
set_option maxRecDepth 100000 in
theorem mc_X10_goesThrough : .code yX10_goesThrough cX10_goesThrough 3 none ∈ bigw := (gb8 57 rfl (by decide +kernel))
theorem mi_X10_goesThrough : .initialized (yX10_goesThrough : MethodName).cls ∈ bigw := (gb1 11 (by decide +kernel) (by decide +kernel))
theorem ms_X10_goesThrough : .instanceMethod yX10_goesThrough ∈ bigw ∧ .selects (yX10_goesThrough : MethodName).cls yX10_goesThrough yX10_goesThrough ∈ bigw := ⟨(gb8 56 (by decide +kernel) (by decide +kernel)), (gb0 83 (by decide +kernel) (by decide +kernel))⟩
theorem lkX10_357 : LKV RX10 357 yX10_goesThrough cX10_goesThrough 3 none 0 := ⟨⟨(gb8 54 (by decide +kernel) (by decide +kernel)), mc_X10_goesThrough, mi_X10_goesThrough, by decide, by decide +kernel⟩, ms_X10_goesThrough.1, ms_X10_goesThrough.2⟩
set_option maxRecDepth 100000 in
theorem mc_X10_operation : .code yX10_operation cX10_operation 1 (some .int) ∈ bigw := (gb8 61 rfl (by decide +kernel))
theorem mi_X10_operation : .initialized (yX10_operation : MethodName).cls ∈ bigw := (gb1 11 (by decide +kernel) (by decide +kernel))
theorem ms_X10_operation : .instanceMethod yX10_operation ∈ bigw ∧ .selects (yX10_operation : MethodName).cls yX10_operation yX10_operation ∈ bigw := ⟨(gb8 60 (by decide +kernel) (by decide +kernel)), (gb0 84 (by decide +kernel) (by decide +kernel))⟩
theorem lkX10_349 : LKV RX10 349 yX10_operation cX10_operation 1 (some .int) 0 := ⟨⟨(gb8 58 (by decide +kernel) (by decide +kernel)), mc_X10_operation, mi_X10_operation, by decide, by decide +kernel⟩, ms_X10_operation.1, ms_X10_operation.2⟩
set_option maxRecDepth 100000 in
theorem mc_X10_does : .code yX10_does cX10_does 2 (some .boolean) ∈ bigw := (gb8 74 rfl (by decide +kernel))
theorem mi_X10_does : .initialized (yX10_does : MethodName).cls ∈ bigw := (gb1 11 (by decide +kernel) (by decide +kernel))
theorem ms_X10_does : .instanceMethod yX10_does ∈ bigw ∧ .selects (yX10_does : MethodName).cls yX10_does yX10_does ∈ bigw := ⟨(gb8 73 (by decide +kernel) (by decide +kernel)), (gb0 85 (by decide +kernel) (by decide +kernel))⟩
theorem lkX10_354 : LKV RX10 354 yX10_does cX10_does 2 (some .boolean) 1 := ⟨⟨(gb8 71 (by decide +kernel) (by decide +kernel)), mc_X10_does, mi_X10_does, by decide, by decide +kernel⟩, ms_X10_does.1, ms_X10_does.2⟩
set_option maxRecDepth 100000 in
theorem mc_X10_count : .code yX10_count cX10_count 2 (some .int) ∈ bigw := (gb8 78 rfl (by decide +kernel))
theorem mi_X10_count : .initialized (yX10_count : MethodName).cls ∈ bigw := (gb1 11 (by decide +kernel) (by decide +kernel))
theorem ms_X10_count : .instanceMethod yX10_count ∈ bigw ∧ .selects (yX10_count : MethodName).cls yX10_count yX10_count ∈ bigw := ⟨(gb8 76 (by decide +kernel) (by decide +kernel)), (gb8 77 (by decide +kernel) (by decide +kernel))⟩
theorem lkL_223 : LKV RL 223 yX10_count cX10_count 2 (some .int) 1 := ⟨⟨(gb8 75 (by decide +kernel) (by decide +kernel)), mc_X10_count, mi_X10_count, by decide, by decide +kernel⟩, ms_X10_count.1, ms_X10_count.2⟩
set_option maxRecDepth 100000 in
theorem mc_X10_chamber : .code yX10_chamber cX10_chamber 3 (some .int) ∈ bigw := (gb8 83 rfl (by decide +kernel))
theorem mi_X10_chamber : .initialized (yX10_chamber : MethodName).cls ∈ bigw := (gb1 11 (by decide +kernel) (by decide +kernel))
theorem ms_X10_chamber : .instanceMethod yX10_chamber ∈ bigw ∧ .selects (yX10_chamber : MethodName).cls yX10_chamber yX10_chamber ∈ bigw := ⟨(gb8 81 (by decide +kernel) (by decide +kernel)), (gb8 82 (by decide +kernel) (by decide +kernel))⟩
theorem lkL_226 : LKV RL 226 yX10_chamber cX10_chamber 3 (some .int) 2 := ⟨⟨(gb8 80 (by decide +kernel) (by decide +kernel)), mc_X10_chamber, mi_X10_chamber, by decide, by decide +kernel⟩, ms_X10_chamber.1, ms_X10_chamber.2⟩
set_option maxRecDepth 100000 in
theorem mc_X10_valvesOf : .code yX10_valvesOf cX10_valvesOf 4 (some .int) ∈ bigw := (gb8 88 rfl (by decide +kernel))
theorem mi_X10_valvesOf : .initialized (yX10_valvesOf : MethodName).cls ∈ bigw := (gb1 11 (by decide +kernel) (by decide +kernel))
theorem ms_X10_valvesOf : .instanceMethod yX10_valvesOf ∈ bigw ∧ .selects (yX10_valvesOf : MethodName).cls yX10_valvesOf yX10_valvesOf ∈ bigw := ⟨(gb8 87 (by decide +kernel) (by decide +kernel)), (gb0 86 (by decide +kernel) (by decide +kernel))⟩
theorem lkX10_364 : LKV RX10 364 yX10_valvesOf cX10_valvesOf 4 (some .int) 1 := ⟨⟨(gb8 85 (by decide +kernel) (by decide +kernel)), mc_X10_valvesOf, mi_X10_valvesOf, by decide, by decide +kernel⟩, ms_X10_valvesOf.1, ms_X10_valvesOf.2⟩
set_option maxRecDepth 100000 in
theorem mc_X10_pumpsOf : .code yX10_pumpsOf cX10_pumpsOf 4 (some .int) ∈ bigw := (gb8 92 rfl (by decide +kernel))
theorem mi_X10_pumpsOf : .initialized (yX10_pumpsOf : MethodName).cls ∈ bigw := (gb1 11 (by decide +kernel) (by decide +kernel))
theorem ms_X10_pumpsOf : .instanceMethod yX10_pumpsOf ∈ bigw ∧ .selects (yX10_pumpsOf : MethodName).cls yX10_pumpsOf yX10_pumpsOf ∈ bigw := ⟨(gb8 91 (by decide +kernel) (by decide +kernel)), (gb0 87 (by decide +kernel) (by decide +kernel))⟩
theorem lkX10_367 : LKV RX10 367 yX10_pumpsOf cX10_pumpsOf 4 (some .int) 1 := ⟨⟨(gb8 89 (by decide +kernel) (by decide +kernel)), mc_X10_pumpsOf, mi_X10_pumpsOf, by decide, by decide +kernel⟩, ms_X10_pumpsOf.1, ms_X10_pumpsOf.2⟩
set_option maxRecDepth 100000 in
theorem mc_X10_gas : .code yX10_gas cX10_gas 2 (some .long) ∈ bigw := (gb8 96 rfl (by decide +kernel))
theorem mi_X10_gas : .initialized (yX10_gas : MethodName).cls ∈ bigw := (gb1 11 (by decide +kernel) (by decide +kernel))
theorem ms_X10_gas : .instanceMethod yX10_gas ∈ bigw ∧ .selects (yX10_gas : MethodName).cls yX10_gas yX10_gas ∈ bigw := ⟨(gb8 94 (by decide +kernel) (by decide +kernel)), (gb8 95 (by decide +kernel) (by decide +kernel))⟩
theorem lkL_229 : LKV RL 229 yX10_gas cX10_gas 2 (some .long) 1 := ⟨⟨(gb8 93 (by decide +kernel) (by decide +kernel)), mc_X10_gas, mi_X10_gas, by decide, by decide +kernel⟩, ms_X10_gas.1, ms_X10_gas.2⟩
set_option maxRecDepth 100000 in
theorem mc_X10_pump : .code yX10_pump cX10_pump 3 (some .int) ∈ bigw := (gb8 100 rfl (by decide +kernel))
theorem mi_X10_pump : .initialized (yX10_pump : MethodName).cls ∈ bigw := (gb1 11 (by decide +kernel) (by decide +kernel))
theorem ms_X10_pump : .instanceMethod yX10_pump ∈ bigw ∧ .selects (yX10_pump : MethodName).cls yX10_pump yX10_pump ∈ bigw := ⟨(gb8 98 (by decide +kernel) (by decide +kernel)), (gb8 99 (by decide +kernel) (by decide +kernel))⟩
theorem lkL_232 : LKV RL 232 yX10_pump cX10_pump 3 (some .int) 2 := ⟨⟨(gb8 97 (by decide +kernel) (by decide +kernel)), mc_X10_pump, mi_X10_pump, by decide, by decide +kernel⟩, ms_X10_pump.1, ms_X10_pump.2⟩
set_option maxRecDepth 100000 in
theorem mc_X10_valve : .code yX10_valve cX10_valve 3 (some .int) ∈ bigw := (gb8 104 rfl (by decide +kernel))
theorem mi_X10_valve : .initialized (yX10_valve : MethodName).cls ∈ bigw := (gb1 11 (by decide +kernel) (by decide +kernel))
theorem ms_X10_valve : .instanceMethod yX10_valve ∈ bigw ∧ .selects (yX10_valve : MethodName).cls yX10_valve yX10_valve ∈ bigw := ⟨(gb8 102 (by decide +kernel) (by decide +kernel)), (gb8 103 (by decide +kernel) (by decide +kernel))⟩
theorem lkL_235 : LKV RL 235 yX10_valve cX10_valve 3 (some .int) 2 := ⟨⟨(gb8 101 (by decide +kernel) (by decide +kernel)), mc_X10_valve, mi_X10_valve, by decide, by decide +kernel⟩, ms_X10_valve.1, ms_X10_valve.2⟩
set_option maxRecDepth 100000 in
theorem mc_X10_flange : .code yX10_flange cX10_flange 3 (some .int) ∈ bigw := (gb8 108 rfl (by decide +kernel))
theorem mi_X10_flange : .initialized (yX10_flange : MethodName).cls ∈ bigw := (gb1 11 (by decide +kernel) (by decide +kernel))
theorem ms_X10_flange : .instanceMethod yX10_flange ∈ bigw ∧ .selects (yX10_flange : MethodName).cls yX10_flange yX10_flange ∈ bigw := ⟨(gb8 106 (by decide +kernel) (by decide +kernel)), (gb8 107 (by decide +kernel) (by decide +kernel))⟩
theorem lkL_238 : LKV RL 238 yX10_flange cX10_flange 3 (some .int) 2 := ⟨⟨(gb8 105 (by decide +kernel) (by decide +kernel)), mc_X10_flange, mi_X10_flange, by decide, by decide +kernel⟩, ms_X10_flange.1, ms_X10_flange.2⟩
set_option maxRecDepth 100000 in
theorem mc_X10_rise : .code yX10_rise cX10_rise 3 (some .int) ∈ bigw := (gb8 112 rfl (by decide +kernel))
theorem mi_X10_rise : .initialized (yX10_rise : MethodName).cls ∈ bigw := (gb1 11 (by decide +kernel) (by decide +kernel))
theorem ms_X10_rise : .instanceMethod yX10_rise ∈ bigw ∧ .selects (yX10_rise : MethodName).cls yX10_rise yX10_rise ∈ bigw := ⟨(gb8 110 (by decide +kernel) (by decide +kernel)), (gb8 111 (by decide +kernel) (by decide +kernel))⟩
theorem lkL_241 : LKV RL 241 yX10_rise cX10_rise 3 (some .int) 2 := ⟨⟨(gb8 109 (by decide +kernel) (by decide +kernel)), mc_X10_rise, mi_X10_rise, by decide, by decide +kernel⟩, ms_X10_rise.1, ms_X10_rise.2⟩
set_option maxRecDepth 100000 in
theorem mc_X10_isNoTest : .code yX10_isNoTest cX10_isNoTest 2 (some .boolean) ∈ bigw := (gb8 116 rfl (by decide +kernel))
theorem mi_X10_isNoTest : .initialized (yX10_isNoTest : MethodName).cls ∈ bigw := (gb1 11 (by decide +kernel) (by decide +kernel))
theorem ms_X10_isNoTest : .instanceMethod yX10_isNoTest ∈ bigw ∧ .selects (yX10_isNoTest : MethodName).cls yX10_isNoTest yX10_isNoTest ∈ bigw := ⟨(gb8 115 (by decide +kernel) (by decide +kernel)), (gb0 88 (by decide +kernel) (by decide +kernel))⟩
theorem lkX10_370 : LKV RX10 370 yX10_isNoTest cX10_isNoTest 2 (some .boolean) 1 := ⟨⟨(gb8 113 (by decide +kernel) (by decide +kernel)), mc_X10_isNoTest, mi_X10_isNoTest, by decide, by decide +kernel⟩, ms_X10_isNoTest.1, ms_X10_isNoTest.2⟩
set_option maxRecDepth 100000 in
theorem mc_X10_riseGas : .code yX10_riseGas cX10_riseGas 3 (some .long) ∈ bigw := (gb8 121 rfl (by decide +kernel))
theorem mi_X10_riseGas : .initialized (yX10_riseGas : MethodName).cls ∈ bigw := (gb1 11 (by decide +kernel) (by decide +kernel))
theorem ms_X10_riseGas : .instanceMethod yX10_riseGas ∈ bigw ∧ .selects (yX10_riseGas : MethodName).cls yX10_riseGas yX10_riseGas ∈ bigw := ⟨(gb8 119 (by decide +kernel) (by decide +kernel)), (gb8 120 (by decide +kernel) (by decide +kernel))⟩
theorem lkL_245 : LKV RL 245 yX10_riseGas cX10_riseGas 3 (some .long) 2 := ⟨⟨(gb8 118 (by decide +kernel) (by decide +kernel)), mc_X10_riseGas, mi_X10_riseGas, by decide, by decide +kernel⟩, ms_X10_riseGas.1, ms_X10_riseGas.2⟩
set_option maxRecDepth 100000 in
theorem mc_X10_mayOpen : .code yX10_mayOpen cX10_mayOpen 2 (some .int) ∈ bigw := (gb8 125 rfl (by decide +kernel))
theorem mi_X10_mayOpen : .initialized (yX10_mayOpen : MethodName).cls ∈ bigw := (gb1 11 (by decide +kernel) (by decide +kernel))
theorem ms_X10_mayOpen : .instanceMethod yX10_mayOpen ∈ bigw ∧ .selects (yX10_mayOpen : MethodName).cls yX10_mayOpen yX10_mayOpen ∈ bigw := ⟨(gb8 123 (by decide +kernel) (by decide +kernel)), (gb8 124 (by decide +kernel) (by decide +kernel))⟩
theorem lkL_248 : LKV RL 248 yX10_mayOpen cX10_mayOpen 2 (some .int) 1 := ⟨⟨(gb8 122 (by decide +kernel) (by decide +kernel)), mc_X10_mayOpen, mi_X10_mayOpen, by decide, by decide +kernel⟩, ms_X10_mayOpen.1, ms_X10_mayOpen.2⟩
set_option maxRecDepth 100000 in
theorem mc_X10_mayStart : .code yX10_mayStart cX10_mayStart 2 (some .int) ∈ bigw := (gb8 129 rfl (by decide +kernel))
theorem mi_X10_mayStart : .initialized (yX10_mayStart : MethodName).cls ∈ bigw := (gb1 11 (by decide +kernel) (by decide +kernel))
theorem ms_X10_mayStart : .instanceMethod yX10_mayStart ∈ bigw ∧ .selects (yX10_mayStart : MethodName).cls yX10_mayStart yX10_mayStart ∈ bigw := ⟨(gb8 127 (by decide +kernel) (by decide +kernel)), (gb8 128 (by decide +kernel) (by decide +kernel))⟩
theorem lkL_251 : LKV RL 251 yX10_mayStart cX10_mayStart 2 (some .int) 1 := ⟨⟨(gb8 126 (by decide +kernel) (by decide +kernel)), mc_X10_mayStart, mi_X10_mayStart, by decide, by decide +kernel⟩, ms_X10_mayStart.1, ms_X10_mayStart.2⟩
set_option maxRecDepth 100000 in
theorem mc_X10_joined : .code yX10_joined cX10_joined 2 (some .int) ∈ bigw := (gb8 133 rfl (by decide +kernel))
theorem mi_X10_joined : .initialized (yX10_joined : MethodName).cls ∈ bigw := (gb1 11 (by decide +kernel) (by decide +kernel))
theorem ms_X10_joined : .instanceMethod yX10_joined ∈ bigw ∧ .selects (yX10_joined : MethodName).cls yX10_joined yX10_joined ∈ bigw := ⟨(gb8 131 (by decide +kernel) (by decide +kernel)), (gb8 132 (by decide +kernel) (by decide +kernel))⟩
theorem lkL_254 : LKV RL 254 yX10_joined cX10_joined 2 (some .int) 1 := ⟨⟨(gb8 130 (by decide +kernel) (by decide +kernel)), mc_X10_joined, mi_X10_joined, by decide, by decide +kernel⟩, ms_X10_joined.1, ms_X10_joined.2⟩
set_option maxRecDepth 100000 in
theorem mc_X10_joinedWith : .code yX10_joinedWith cX10_joinedWith 4 (some .int) ∈ bigw := (gb8 137 rfl (by decide +kernel))
theorem mi_X10_joinedWith : .initialized (yX10_joinedWith : MethodName).cls ∈ bigw := (gb1 11 (by decide +kernel) (by decide +kernel))
theorem ms_X10_joinedWith : .instanceMethod yX10_joinedWith ∈ bigw ∧ .selects (yX10_joinedWith : MethodName).cls yX10_joinedWith yX10_joinedWith ∈ bigw := ⟨(gb8 136 (by decide +kernel) (by decide +kernel)), (gb0 89 (by decide +kernel) (by decide +kernel))⟩
theorem lkX10_379 : LKV RX10 379 yX10_joinedWith cX10_joinedWith 4 (some .int) 1 := ⟨⟨(gb8 134 (by decide +kernel) (by decide +kernel)), mc_X10_joinedWith, mi_X10_joinedWith, by decide, by decide +kernel⟩, ms_X10_joinedWith.1, ms_X10_joinedWith.2⟩
set_option maxRecDepth 100000 in
theorem mc_X10_beside : .code yX10_beside cX10_beside 7 (some .int) ∈ bigw := (gb8 141 rfl (by decide +kernel))
theorem mi_X10_beside : .initialized (yX10_beside : MethodName).cls ∈ bigw := (gb1 11 (by decide +kernel) (by decide +kernel))
theorem ms_X10_beside : .instanceMethod yX10_beside ∈ bigw ∧ .selects (yX10_beside : MethodName).cls yX10_beside yX10_beside ∈ bigw := ⟨(gb8 140 (by decide +kernel) (by decide +kernel)), (gb0 90 (by decide +kernel) (by decide +kernel))⟩
theorem lkX10_375 : LKV RX10 375 yX10_beside cX10_beside 7 (some .int) 2 := ⟨⟨(gb8 138 (by decide +kernel) (by decide +kernel)), mc_X10_beside, mi_X10_beside, by decide, by decide +kernel⟩, ms_X10_beside.1, ms_X10_beside.2⟩
set_option maxRecDepth 100000 in
theorem mc_X10_isVented : .code yX10_isVented cX10_isVented 2 (some .boolean) ∈ bigw := (gb8 145 rfl (by decide +kernel))
theorem mi_X10_isVented : .initialized (yX10_isVented : MethodName).cls ∈ bigw := (gb1 11 (by decide +kernel) (by decide +kernel))
theorem ms_X10_isVented : .instanceMethod yX10_isVented ∈ bigw ∧ .selects (yX10_isVented : MethodName).cls yX10_isVented yX10_isVented ∈ bigw := ⟨(gb8 143 (by decide +kernel) (by decide +kernel)), (gb8 144 (by decide +kernel) (by decide +kernel))⟩
theorem lkL_257 : LKV RL 257 yX10_isVented cX10_isVented 2 (some .boolean) 1 := ⟨⟨(gb8 142 (by decide +kernel) (by decide +kernel)), mc_X10_isVented, mi_X10_isVented, by decide, by decide +kernel⟩, ms_X10_isVented.1, ms_X10_isVented.2⟩
set_option maxRecDepth 100000 in
theorem mc_X10_leadsOut : .code yX10_leadsOut cX10_leadsOut 4 (some .boolean) ∈ bigw := (gb8 149 rfl (by decide +kernel))
theorem mi_X10_leadsOut : .initialized (yX10_leadsOut : MethodName).cls ∈ bigw := (gb1 11 (by decide +kernel) (by decide +kernel))
theorem ms_X10_leadsOut : .instanceMethod yX10_leadsOut ∈ bigw ∧ .selects (yX10_leadsOut : MethodName).cls yX10_leadsOut yX10_leadsOut ∈ bigw := ⟨(gb8 148 (by decide +kernel) (by decide +kernel)), (gb0 91 (by decide +kernel) (by decide +kernel))⟩
theorem lkX10_382 : LKV RX10 382 yX10_leadsOut cX10_leadsOut 4 (some .boolean) 2 := ⟨⟨(gb8 146 (by decide +kernel) (by decide +kernel)), mc_X10_leadsOut, mi_X10_leadsOut, by decide, by decide +kernel⟩, ms_X10_leadsOut.1, ms_X10_leadsOut.2⟩
set_option maxRecDepth 100000 in
theorem mc_X10_spread : .code yX10_spread cX10_spread 8 (some .int) ∈ bigw := (gb8 153 rfl (by decide +kernel))
theorem mi_X10_spread : .initialized (yX10_spread : MethodName).cls ∈ bigw := (gb1 11 (by decide +kernel) (by decide +kernel))
theorem ms_X10_spread : .instanceMethod yX10_spread ∈ bigw ∧ .selects (yX10_spread : MethodName).cls yX10_spread yX10_spread ∈ bigw := ⟨(gb8 151 (by decide +kernel) (by decide +kernel)), (gb8 152 (by decide +kernel) (by decide +kernel))⟩
theorem lkL_260 : LKV RL 260 yX10_spread cX10_spread 8 (some .int) 1 := ⟨⟨(gb8 150 (by decide +kernel) (by decide +kernel)), mc_X10_spread, mi_X10_spread, by decide, by decide +kernel⟩, ms_X10_spread.1, ms_X10_spread.2⟩
set_option maxRecDepth 100000 in
theorem mc_Math_max_l : .code Lib.MathLoose.max_long.x Lib.MathLoose.max_long.code 4 (some .long) ∈ bigw := (gb8 156 rfl (by decide +kernel))
theorem mi_Math_max_l : .initialized (Lib.MathLoose.max_long.x : MethodName).cls ∈ bigw := (gb1 17 (by decide +kernel) (by decide +kernel))
theorem ms_Math_max_l : .static Lib.MathLoose.max_long.x ∈ bigw := (gb8 155 (by decide +kernel) (by decide +kernel))
theorem lkX10_386 : LKS RX10 386 Lib.MathLoose.max_long.x Lib.MathLoose.max_long.code 4 (some .long) 2 := ⟨⟨(gb8 154 (by decide +kernel) (by decide +kernel)), mc_Math_max_l, mi_Math_max_l, by decide, by decide +kernel⟩, ms_Math_max_l⟩
set_option maxRecDepth 100000 in
theorem mc_X10_isIsolated : .code yX10_isIsolated cX10_isIsolated 2 (some .boolean) ∈ bigw := (gb8 160 rfl (by decide +kernel))
theorem mi_X10_isIsolated : .initialized (yX10_isIsolated : MethodName).cls ∈ bigw := (gb1 11 (by decide +kernel) (by decide +kernel))
theorem ms_X10_isIsolated : .instanceMethod yX10_isIsolated ∈ bigw ∧ .selects (yX10_isIsolated : MethodName).cls yX10_isIsolated yX10_isIsolated ∈ bigw := ⟨(gb8 158 (by decide +kernel) (by decide +kernel)), (gb8 159 (by decide +kernel) (by decide +kernel))⟩
theorem lkL_263 : LKV RL 263 yX10_isIsolated cX10_isIsolated 2 (some .boolean) 1 := ⟨⟨(gb8 157 (by decide +kernel) (by decide +kernel)), mc_X10_isIsolated, mi_X10_isIsolated, by decide, by decide +kernel⟩, ms_X10_isIsolated.1, ms_X10_isIsolated.2⟩
set_option maxRecDepth 100000 in
theorem mc_X10_fewestValves : .code yX10_fewestValves cX10_fewestValves 5 (some .int) ∈ bigw := (gb8 164 rfl (by decide +kernel))
theorem mi_X10_fewestValves : .initialized (yX10_fewestValves : MethodName).cls ∈ bigw := (gb1 11 (by decide +kernel) (by decide +kernel))
theorem ms_X10_fewestValves : .instanceMethod yX10_fewestValves ∈ bigw ∧ .selects (yX10_fewestValves : MethodName).cls yX10_fewestValves yX10_fewestValves ∈ bigw := ⟨(gb8 162 (by decide +kernel) (by decide +kernel)), (gb8 163 (by decide +kernel) (by decide +kernel))⟩
theorem lkL_266 : LKV RL 266 yX10_fewestValves cX10_fewestValves 5 (some .int) 2 := ⟨⟨(gb8 161 (by decide +kernel) (by decide +kernel)), mc_X10_fewestValves, mi_X10_fewestValves, by decide, by decide +kernel⟩, ms_X10_fewestValves.1, ms_X10_fewestValves.2⟩
set_option maxRecDepth 100000 in
theorem mc_X10_settled : .code yX10_settled cX10_settled 8 (some .int) ∈ bigw := (gb8 168 rfl (by decide +kernel))
theorem mi_X10_settled : .initialized (yX10_settled : MethodName).cls ∈ bigw := (gb1 11 (by decide +kernel) (by decide +kernel))
theorem ms_X10_settled : .instanceMethod yX10_settled ∈ bigw ∧ .selects (yX10_settled : MethodName).cls yX10_settled yX10_settled ∈ bigw := ⟨(gb8 166 (by decide +kernel) (by decide +kernel)), (gb8 167 (by decide +kernel) (by decide +kernel))⟩
theorem lkL_269 : LKV RL 269 yX10_settled cX10_settled 8 (some .int) 1 := ⟨⟨(gb8 165 (by decide +kernel) (by decide +kernel)), mc_X10_settled, mi_X10_settled, by decide, by decide +kernel⟩, ms_X10_settled.1, ms_X10_settled.2⟩
set_option maxRecDepth 100000 in
theorem mc_X10_openable : .code yX10_openable cX10_openable 3 (some .int) ∈ bigw := (gb8 172 rfl (by decide +kernel))
theorem mi_X10_openable : .initialized (yX10_openable : MethodName).cls ∈ bigw := (gb1 11 (by decide +kernel) (by decide +kernel))
theorem ms_X10_openable : .instanceMethod yX10_openable ∈ bigw ∧ .selects (yX10_openable : MethodName).cls yX10_openable yX10_openable ∈ bigw := ⟨(gb8 170 (by decide +kernel) (by decide +kernel)), (gb8 171 (by decide +kernel) (by decide +kernel))⟩
theorem lkL_273 : LKV RL 273 yX10_openable cX10_openable 3 (some .int) 0 := ⟨⟨(gb8 169 (by decide +kernel) (by decide +kernel)), mc_X10_openable, mi_X10_openable, by decide, by decide +kernel⟩, ms_X10_openable.1, ms_X10_openable.2⟩
set_option maxRecDepth 100000 in
theorem mc_X10_widest : .code yX10_widest cX10_widest 3 (some .int) ∈ bigw := (gb8 176 rfl (by decide +kernel))
theorem mi_X10_widest : .initialized (yX10_widest : MethodName).cls ∈ bigw := (gb1 11 (by decide +kernel) (by decide +kernel))
theorem ms_X10_widest : .instanceMethod yX10_widest ∈ bigw ∧ .selects (yX10_widest : MethodName).cls yX10_widest yX10_widest ∈ bigw := ⟨(gb8 174 (by decide +kernel) (by decide +kernel)), (gb8 175 (by decide +kernel) (by decide +kernel))⟩
theorem lkL_277 : LKV RL 277 yX10_widest cX10_widest 3 (some .int) 0 := ⟨⟨(gb8 173 (by decide +kernel) (by decide +kernel)), mc_X10_widest, mi_X10_widest, by decide, by decide +kernel⟩, ms_X10_widest.1, ms_X10_widest.2⟩
set_option maxRecDepth 100000 in
theorem mc_X10_pressureAfter : .code yX10_pressureAfter cX10_pressureAfter 5 (some .int) ∈ bigw := (gb8 180 rfl (by decide +kernel))
theorem mi_X10_pressureAfter : .initialized (yX10_pressureAfter : MethodName).cls ∈ bigw := (gb1 11 (by decide +kernel) (by decide +kernel))
theorem ms_X10_pressureAfter : .instanceMethod yX10_pressureAfter ∈ bigw ∧ .selects (yX10_pressureAfter : MethodName).cls yX10_pressureAfter yX10_pressureAfter ∈ bigw := ⟨(gb8 178 (by decide +kernel) (by decide +kernel)), (gb8 179 (by decide +kernel) (by decide +kernel))⟩
theorem lkL_280 : LKV RL 280 yX10_pressureAfter cX10_pressureAfter 5 (some .int) 2 := ⟨⟨(gb8 177 (by decide +kernel) (by decide +kernel)), mc_X10_pressureAfter, mi_X10_pressureAfter, by decide, by decide +kernel⟩, ms_X10_pressureAfter.1, ms_X10_pressureAfter.2⟩
set_option maxRecDepth 100000 in
theorem mc_X10_isNoLook : .code yX10_isNoLook cX10_isNoLook 3 (some .boolean) ∈ bigw := (gb8 184 rfl (by decide +kernel))
theorem mi_X10_isNoLook : .initialized (yX10_isNoLook : MethodName).cls ∈ bigw := (gb1 11 (by decide +kernel) (by decide +kernel))
theorem ms_X10_isNoLook : .instanceMethod yX10_isNoLook ∈ bigw ∧ .selects (yX10_isNoLook : MethodName).cls yX10_isNoLook yX10_isNoLook ∈ bigw := ⟨(gb8 183 (by decide +kernel) (by decide +kernel)), (gb0 92 (by decide +kernel) (by decide +kernel))⟩
theorem lkX10_389 : LKV RX10 389 yX10_isNoLook cX10_isNoLook 3 (some .boolean) 2 := ⟨⟨(gb8 181 (by decide +kernel) (by decide +kernel)), mc_X10_isNoLook, mi_X10_isNoLook, by decide, by decide +kernel⟩, ms_X10_isNoLook.1, ms_X10_isNoLook.2⟩
set_option maxRecDepth 100000 in
theorem mc_X10_think : .code yX10_think cX10_think 1 none ∈ bigw := (gb8 188 rfl (by decide +kernel))
theorem mi_X10_think : .initialized (yX10_think : MethodName).cls ∈ bigw := (gb1 11 (by decide +kernel) (by decide +kernel))
theorem ms_X10_think : .instanceMethod yX10_think ∈ bigw ∧ .selects (yX10_think : MethodName).cls yX10_think yX10_think ∈ bigw := ⟨(gb8 187 (by decide +kernel) (by decide +kernel)), (gb0 93 (by decide +kernel) (by decide +kernel))⟩
theorem lkX10_393 : LKV RX10 393 yX10_think cX10_think 1 none 0 := ⟨⟨(gb8 185 (by decide +kernel) (by decide +kernel)), mc_X10_think, mi_X10_think, by decide, by decide +kernel⟩, ms_X10_think.1, ms_X10_think.2⟩
set_option maxRecDepth 100000 in
theorem mc_X10_pressureIn : .code yX10_pressureIn cX10_pressureIn 4 (some .long) ∈ bigw := (gb8 192 rfl (by decide +kernel))
theorem mi_X10_pressureIn : .initialized (yX10_pressureIn : MethodName).cls ∈ bigw := (gb1 11 (by decide +kernel) (by decide +kernel))
theorem ms_X10_pressureIn : .instanceMethod yX10_pressureIn ∈ bigw ∧ .selects (yX10_pressureIn : MethodName).cls yX10_pressureIn yX10_pressureIn ∈ bigw := ⟨(gb8 191 (by decide +kernel) (by decide +kernel)), (gb0 94 (by decide +kernel) (by decide +kernel))⟩
theorem lkX10_396 : LKV RX10 396 yX10_pressureIn cX10_pressureIn 4 (some .long) 2 := ⟨⟨(gb8 189 (by decide +kernel) (by decide +kernel)), mc_X10_pressureIn, mi_X10_pressureIn, by decide, by decide +kernel⟩, ms_X10_pressureIn.1, ms_X10_pressureIn.2⟩
set_option maxRecDepth 100000 in
theorem mc_X10_wake : .code yX10_wake cX10_wake 1 none ∈ bigw := (gb8 196 rfl (by decide +kernel))
theorem mi_X10_wake : .initialized (yX10_wake : MethodName).cls ∈ bigw := (gb1 11 (by decide +kernel) (by decide +kernel))
theorem ms_X10_wake : .instanceMethod yX10_wake ∈ bigw ∧ .selects (yX10_wake : MethodName).cls yX10_wake yX10_wake ∈ bigw := ⟨(gb8 195 (by decide +kernel) (by decide +kernel)), (gb0 95 (by decide +kernel) (by decide +kernel))⟩
theorem lkX10_399 : LKV RX10 399 yX10_wake cX10_wake 1 none 0 := ⟨⟨(gb8 193 (by decide +kernel) (by decide +kernel)), mc_X10_wake, mi_X10_wake, by decide, by decide +kernel⟩, ms_X10_wake.1, ms_X10_wake.2⟩
set_option maxRecDepth 100000 in
theorem mc_X10_lowest : .code yX10_lowest cX10_lowest 6 (some .int) ∈ bigw := (gb8 200 rfl (by decide +kernel))
theorem mi_X10_lowest : .initialized (yX10_lowest : MethodName).cls ∈ bigw := (gb1 11 (by decide +kernel) (by decide +kernel))
theorem ms_X10_lowest : .instanceMethod yX10_lowest ∈ bigw ∧ .selects (yX10_lowest : MethodName).cls yX10_lowest yX10_lowest ∈ bigw := ⟨(gb8 198 (by decide +kernel) (by decide +kernel)), (gb8 199 (by decide +kernel) (by decide +kernel))⟩
theorem lkL_283 : LKV RL 283 yX10_lowest cX10_lowest 6 (some .int) 2 := ⟨⟨(gb8 197 (by decide +kernel) (by decide +kernel)), mc_X10_lowest, mi_X10_lowest, by decide, by decide +kernel⟩, ms_X10_lowest.1, ms_X10_lowest.2⟩
set_option maxRecDepth 100000 in
theorem mc_X10_ticksTo : .code yX10_ticksTo cX10_ticksTo 4 (some .int) ∈ bigw := (gb8 204 rfl (by decide +kernel))
theorem mi_X10_ticksTo : .initialized (yX10_ticksTo : MethodName).cls ∈ bigw := (gb1 11 (by decide +kernel) (by decide +kernel))
theorem ms_X10_ticksTo : .instanceMethod yX10_ticksTo ∈ bigw ∧ .selects (yX10_ticksTo : MethodName).cls yX10_ticksTo yX10_ticksTo ∈ bigw := ⟨(gb8 202 (by decide +kernel) (by decide +kernel)), (gb8 203 (by decide +kernel) (by decide +kernel))⟩
theorem lkL_286 : LKV RL 286 yX10_ticksTo cX10_ticksTo 4 (some .int) 2 := ⟨⟨(gb8 201 (by decide +kernel) (by decide +kernel)), mc_X10_ticksTo, mi_X10_ticksTo, by decide, by decide +kernel⟩, ms_X10_ticksTo.1, ms_X10_ticksTo.2⟩
set_option maxRecDepth 100000 in
theorem mc_X10_tripsIn : .code yX10_tripsIn cX10_tripsIn 3 (some .int) ∈ bigw := (gb8 208 rfl (by decide +kernel))
theorem mi_X10_tripsIn : .initialized (yX10_tripsIn : MethodName).cls ∈ bigw := (gb1 11 (by decide +kernel) (by decide +kernel))
theorem ms_X10_tripsIn : .instanceMethod yX10_tripsIn ∈ bigw ∧ .selects (yX10_tripsIn : MethodName).cls yX10_tripsIn yX10_tripsIn ∈ bigw := ⟨(gb8 206 (by decide +kernel) (by decide +kernel)), (gb8 207 (by decide +kernel) (by decide +kernel))⟩
theorem lkL_289 : LKV RL 289 yX10_tripsIn cX10_tripsIn 3 (some .int) 1 := ⟨⟨(gb8 205 (by decide +kernel) (by decide +kernel)), mc_X10_tripsIn, mi_X10_tripsIn, by decide, by decide +kernel⟩, ms_X10_tripsIn.1, ms_X10_tripsIn.2⟩
set_option maxRecDepth 100000 in
theorem mc_X10_meanPressure : .code yX10_meanPressure cX10_meanPressure 6 (some .double) ∈ bigw := (gb8 212 rfl (by decide +kernel))
theorem mi_X10_meanPressure : .initialized (yX10_meanPressure : MethodName).cls ∈ bigw := (gb1 11 (by decide +kernel) (by decide +kernel))
theorem ms_X10_meanPressure : .instanceMethod yX10_meanPressure ∈ bigw ∧ .selects (yX10_meanPressure : MethodName).cls yX10_meanPressure yX10_meanPressure ∈ bigw := ⟨(gb8 210 (by decide +kernel) (by decide +kernel)), (gb8 211 (by decide +kernel) (by decide +kernel))⟩
theorem lkL_293 : LKV RL 293 yX10_meanPressure cX10_meanPressure 6 (some .double) 2 := ⟨⟨(gb8 209 (by decide +kernel) (by decide +kernel)), mc_X10_meanPressure, mi_X10_meanPressure, by decide, by decide +kernel⟩, ms_X10_meanPressure.1, ms_X10_meanPressure.2⟩
set_option maxRecDepth 100000 in
theorem mc_X10_bestPump : .code yX10_bestPump cX10_bestPump 10 (some .int) ∈ bigw := (gb8 216 rfl (by decide +kernel))
theorem mi_X10_bestPump : .initialized (yX10_bestPump : MethodName).cls ∈ bigw := (gb1 11 (by decide +kernel) (by decide +kernel))
theorem ms_X10_bestPump : .instanceMethod yX10_bestPump ∈ bigw ∧ .selects (yX10_bestPump : MethodName).cls yX10_bestPump yX10_bestPump ∈ bigw := ⟨(gb8 214 (by decide +kernel) (by decide +kernel)), (gb8 215 (by decide +kernel) (by decide +kernel))⟩
theorem lkL_296 : LKV RL 296 yX10_bestPump cX10_bestPump 10 (some .int) 2 := ⟨⟨(gb8 213 (by decide +kernel) (by decide +kernel)), mc_X10_bestPump, mi_X10_bestPump, by decide, by decide +kernel⟩, ms_X10_bestPump.1, ms_X10_bestPump.2⟩
set_option maxRecDepth 100000 in
theorem mc_X10_bestValve : .code yX10_bestValve cX10_bestValve 10 (some .int) ∈ bigw := (gb8 220 rfl (by decide +kernel))
theorem mi_X10_bestValve : .initialized (yX10_bestValve : MethodName).cls ∈ bigw := (gb1 11 (by decide +kernel) (by decide +kernel))
theorem ms_X10_bestValve : .instanceMethod yX10_bestValve ∈ bigw ∧ .selects (yX10_bestValve : MethodName).cls yX10_bestValve yX10_bestValve ∈ bigw := ⟨(gb8 218 (by decide +kernel) (by decide +kernel)), (gb8 219 (by decide +kernel) (by decide +kernel))⟩
theorem lkL_299 : LKV RL 299 yX10_bestValve cX10_bestValve 10 (some .int) 2 := ⟨⟨(gb8 217 (by decide +kernel) (by decide +kernel)), mc_X10_bestValve, mi_X10_bestValve, by decide, by decide +kernel⟩, ms_X10_bestValve.1, ms_X10_bestValve.2⟩
set_option maxRecDepth 100000 in
theorem mc_X10_spray : .code yX10_spray cX10_spray 2 (some .int) ∈ bigw := (gb8 224 rfl (by decide +kernel))
theorem mi_X10_spray : .initialized (yX10_spray : MethodName).cls ∈ bigw := (gb1 11 (by decide +kernel) (by decide +kernel))
theorem ms_X10_spray : .instanceMethod yX10_spray ∈ bigw ∧ .selects (yX10_spray : MethodName).cls yX10_spray yX10_spray ∈ bigw := ⟨(gb8 222 (by decide +kernel) (by decide +kernel)), (gb8 223 (by decide +kernel) (by decide +kernel))⟩
theorem lkL_302 : LKV RL 302 yX10_spray cX10_spray 2 (some .int) 1 := ⟨⟨(gb8 221 (by decide +kernel) (by decide +kernel)), mc_X10_spray, mi_X10_spray, by decide, by decide +kernel⟩, ms_X10_spray.1, ms_X10_spray.2⟩
set_option maxRecDepth 100000 in
theorem mc_X10_leaksOf : .code yX10_leaksOf cX10_leaksOf 5 (some .long) ∈ bigw := (gb8 228 rfl (by decide +kernel))
theorem mi_X10_leaksOf : .initialized (yX10_leaksOf : MethodName).cls ∈ bigw := (gb1 11 (by decide +kernel) (by decide +kernel))
theorem ms_X10_leaksOf : .instanceMethod yX10_leaksOf ∈ bigw ∧ .selects (yX10_leaksOf : MethodName).cls yX10_leaksOf yX10_leaksOf ∈ bigw := ⟨(gb8 227 (by decide +kernel) (by decide +kernel)), (gb0 96 (by decide +kernel) (by decide +kernel))⟩
theorem lkX10_402 : LKV RX10 402 yX10_leaksOf cX10_leaksOf 5 (some .long) 1 := ⟨⟨(gb8 225 (by decide +kernel) (by decide +kernel)), mc_X10_leaksOf, mi_X10_leaksOf, by decide, by decide +kernel⟩, ms_X10_leaksOf.1, ms_X10_leaksOf.2⟩
set_option maxRecDepth 100000 in
theorem mc_X10_sprays : .code yX10_sprays cX10_sprays 3 (some .int) ∈ bigw := (gb8 232 rfl (by decide +kernel))
theorem mi_X10_sprays : .initialized (yX10_sprays : MethodName).cls ∈ bigw := (gb1 11 (by decide +kernel) (by decide +kernel))
theorem ms_X10_sprays : .instanceMethod yX10_sprays ∈ bigw ∧ .selects (yX10_sprays : MethodName).cls yX10_sprays yX10_sprays ∈ bigw := ⟨(gb8 230 (by decide +kernel) (by decide +kernel)), (gb8 231 (by decide +kernel) (by decide +kernel))⟩
theorem lkL_305 : LKV RL 305 yX10_sprays cX10_sprays 3 (some .int) 2 := ⟨⟨(gb8 229 (by decide +kernel) (by decide +kernel)), mc_X10_sprays, mi_X10_sprays, by decide, by decide +kernel⟩, ms_X10_sprays.1, ms_X10_sprays.2⟩
set_option maxRecDepth 100000 in
theorem mc_X10_isNoHunt : .code yX10_isNoHunt cX10_isNoHunt 5 (some .boolean) ∈ bigw := (gb8 236 rfl (by decide +kernel))
theorem mi_X10_isNoHunt : .initialized (yX10_isNoHunt : MethodName).cls ∈ bigw := (gb1 11 (by decide +kernel) (by decide +kernel))
theorem ms_X10_isNoHunt : .instanceMethod yX10_isNoHunt ∈ bigw ∧ .selects (yX10_isNoHunt : MethodName).cls yX10_isNoHunt yX10_isNoHunt ∈ bigw := ⟨(gb8 235 (by decide +kernel) (by decide +kernel)), (gb0 97 (by decide +kernel) (by decide +kernel))⟩
theorem lkX10_421 : LKV RX10 421 yX10_isNoHunt cX10_isNoHunt 5 (some .boolean) 2 := ⟨⟨(gb8 233 (by decide +kernel) (by decide +kernel)), mc_X10_isNoHunt, mi_X10_isNoHunt, by decide, by decide +kernel⟩, ms_X10_isNoHunt.1, ms_X10_isNoHunt.2⟩
set_option maxRecDepth 100000 in
theorem mc_X10_hunt : .code yX10_hunt cX10_hunt 4 none ∈ bigw := (gb9 0 rfl (by decide +kernel))
theorem mi_X10_hunt : .initialized (yX10_hunt : MethodName).cls ∈ bigw := (gb1 11 (by decide +kernel) (by decide +kernel))
theorem ms_X10_hunt : .instanceMethod yX10_hunt ∈ bigw ∧ .selects (yX10_hunt : MethodName).cls yX10_hunt yX10_hunt ∈ bigw := ⟨(gb8 239 (by decide +kernel) (by decide +kernel)), (gb0 98 (by decide +kernel) (by decide +kernel))⟩
theorem lkX10_417 : LKV RX10 417 yX10_hunt cX10_hunt 4 none 2 := ⟨⟨(gb8 237 (by decide +kernel) (by decide +kernel)), mc_X10_hunt, mi_X10_hunt, by decide, by decide +kernel⟩, ms_X10_hunt.1, ms_X10_hunt.2⟩
set_option maxRecDepth 100000 in
theorem mc_X10_sizeOf : .code yX10_sizeOf cX10_sizeOf 3 (some .int) ∈ bigw := (gb9 3 rfl (by decide +kernel))
theorem mi_X10_sizeOf : .initialized (yX10_sizeOf : MethodName).cls ∈ bigw := (gb1 11 (by decide +kernel) (by decide +kernel))
theorem ms_X10_sizeOf : .static yX10_sizeOf ∈ bigw := (gb9 2 (by decide +kernel) (by decide +kernel))
theorem lkX10_405 : LKS RX10 405 yX10_sizeOf cX10_sizeOf 3 (some .int) 1 := ⟨⟨(gb9 1 (by decide +kernel) (by decide +kernel)), mc_X10_sizeOf, mi_X10_sizeOf, by decide, by decide +kernel⟩, ms_X10_sizeOf⟩
set_option maxRecDepth 100000 in
theorem mc_X10_firstOnes : .code yX10_firstOnes cX10_firstOnes 4 (some .int) ∈ bigw := (gb9 6 rfl (by decide +kernel))
theorem mi_X10_firstOnes : .initialized (yX10_firstOnes : MethodName).cls ∈ bigw := (gb1 11 (by decide +kernel) (by decide +kernel))
theorem ms_X10_firstOnes : .static yX10_firstOnes ∈ bigw := (gb9 5 (by decide +kernel) (by decide +kernel))
theorem lkX10_414 : LKS RX10 414 yX10_firstOnes cX10_firstOnes 4 (some .int) 2 := ⟨⟨(gb9 4 (by decide +kernel) (by decide +kernel)), mc_X10_firstOnes, mi_X10_firstOnes, by decide, by decide +kernel⟩, ms_X10_firstOnes⟩
set_option maxRecDepth 100000 in
theorem mc_X10_found : .code yX10_found cX10_found 3 (some .int) ∈ bigw := (gb9 10 rfl (by decide +kernel))
theorem mi_X10_found : .initialized (yX10_found : MethodName).cls ∈ bigw := (gb1 11 (by decide +kernel) (by decide +kernel))
theorem ms_X10_found : .instanceMethod yX10_found ∈ bigw ∧ .selects (yX10_found : MethodName).cls yX10_found yX10_found ∈ bigw := ⟨(gb9 8 (by decide +kernel) (by decide +kernel)), (gb9 9 (by decide +kernel) (by decide +kernel))⟩
theorem lkL_308 : LKV RL 308 yX10_found cX10_found 3 (some .int) 2 := ⟨⟨(gb9 7 (by decide +kernel) (by decide +kernel)), mc_X10_found, mi_X10_found, by decide, by decide +kernel⟩, ms_X10_found.1, ms_X10_found.2⟩
set_option maxRecDepth 100000 in
theorem mc_X10_worstFlange : .code yX10_worstFlange cX10_worstFlange 3 (some .int) ∈ bigw := (gb9 14 rfl (by decide +kernel))
theorem mi_X10_worstFlange : .initialized (yX10_worstFlange : MethodName).cls ∈ bigw := (gb1 11 (by decide +kernel) (by decide +kernel))
theorem ms_X10_worstFlange : .instanceMethod yX10_worstFlange ∈ bigw ∧ .selects (yX10_worstFlange : MethodName).cls yX10_worstFlange yX10_worstFlange ∈ bigw := ⟨(gb9 12 (by decide +kernel) (by decide +kernel)), (gb9 13 (by decide +kernel) (by decide +kernel))⟩
theorem lkL_311 : LKV RL 311 yX10_worstFlange cX10_worstFlange 3 (some .int) 0 := ⟨⟨(gb9 11 (by decide +kernel) (by decide +kernel)), mc_X10_worstFlange, mi_X10_worstFlange, by decide, by decide +kernel⟩, ms_X10_worstFlange.1, ms_X10_worstFlange.2⟩
set_option maxRecDepth 100000 in
theorem mc_X10_writeReport : .code yX10_writeReport cX10_writeReport 2 (some .int) ∈ bigw := (gb9 18 rfl (by decide +kernel))
theorem mi_X10_writeReport : .initialized (yX10_writeReport : MethodName).cls ∈ bigw := (gb1 11 (by decide +kernel) (by decide +kernel))
theorem ms_X10_writeReport : .instanceMethod yX10_writeReport ∈ bigw ∧ .selects (yX10_writeReport : MethodName).cls yX10_writeReport yX10_writeReport ∈ bigw := ⟨(gb9 16 (by decide +kernel) (by decide +kernel)), (gb9 17 (by decide +kernel) (by decide +kernel))⟩
theorem lkL_315 : LKV RL 315 yX10_writeReport cX10_writeReport 2 (some .int) 0 := ⟨⟨(gb9 15 (by decide +kernel) (by decide +kernel)), mc_X10_writeReport, mi_X10_writeReport, by decide, by decide +kernel⟩, ms_X10_writeReport.1, ms_X10_writeReport.2⟩
set_option maxRecDepth 100000 in
theorem mc_X10_printChamber : .code yX10_printChamber cX10_printChamber 4 none ∈ bigw := (gb9 22 rfl (by decide +kernel))
theorem mi_X10_printChamber : .initialized (yX10_printChamber : MethodName).cls ∈ bigw := (gb1 11 (by decide +kernel) (by decide +kernel))
theorem ms_X10_printChamber : .instanceMethod yX10_printChamber ∈ bigw ∧ .selects (yX10_printChamber : MethodName).cls yX10_printChamber yX10_printChamber ∈ bigw := ⟨(gb9 21 (by decide +kernel) (by decide +kernel)), (gb0 99 (by decide +kernel) (by decide +kernel))⟩
theorem lkX10_440 : LKV RX10 440 yX10_printChamber cX10_printChamber 4 none 1 := ⟨⟨(gb9 19 (by decide +kernel) (by decide +kernel)), mc_X10_printChamber, mi_X10_printChamber, by decide, by decide +kernel⟩, ms_X10_printChamber.1, ms_X10_printChamber.2⟩
set_option maxRecDepth 100000 in
theorem mc_X10_print : .code yX10_print cX10_print 2 none ∈ bigw := (gb9 27 rfl (by decide +kernel))
theorem mi_X10_print : .initialized (yX10_print : MethodName).cls ∈ bigw := (gb1 11 (by decide +kernel) (by decide +kernel))
theorem ms_X10_print : .instanceMethod yX10_print ∈ bigw ∧ .selects (yX10_print : MethodName).cls yX10_print yX10_print ∈ bigw := ⟨(gb9 26 (by decide +kernel) (by decide +kernel)), (gb0 100 (by decide +kernel) (by decide +kernel))⟩
theorem lkX10_431 : LKV RX10 431 yX10_print cX10_print 2 none 1 := ⟨⟨(gb9 24 (by decide +kernel) (by decide +kernel)), mc_X10_print, mi_X10_print, by decide, by decide +kernel⟩, ms_X10_print.1, ms_X10_print.2⟩
set_option maxRecDepth 100000 in
theorem mc_X10_printNumber : .code yX10_printNumber cX10_printNumber 3 none ∈ bigw := (gb9 31 rfl (by decide +kernel))
theorem mi_X10_printNumber : .initialized (yX10_printNumber : MethodName).cls ∈ bigw := (gb1 11 (by decide +kernel) (by decide +kernel))
theorem ms_X10_printNumber : .instanceMethod yX10_printNumber ∈ bigw ∧ .selects (yX10_printNumber : MethodName).cls yX10_printNumber yX10_printNumber ∈ bigw := ⟨(gb9 30 (by decide +kernel) (by decide +kernel)), (gb0 101 (by decide +kernel) (by decide +kernel))⟩
theorem lkX10_427 : LKV RX10 427 yX10_printNumber cX10_printNumber 3 none 1 := ⟨⟨(gb9 28 (by decide +kernel) (by decide +kernel)), mc_X10_printNumber, mi_X10_printNumber, by decide, by decide +kernel⟩, ms_X10_printNumber.1, ms_X10_printNumber.2⟩
set_option maxRecDepth 100000 in
theorem mc_X10_printMark : .code yX10_printMark cX10_printMark 3 none ∈ bigw := (gb9 35 rfl (by decide +kernel))
theorem mi_X10_printMark : .initialized (yX10_printMark : MethodName).cls ∈ bigw := (gb1 11 (by decide +kernel) (by decide +kernel))
theorem ms_X10_printMark : .instanceMethod yX10_printMark ∈ bigw ∧ .selects (yX10_printMark : MethodName).cls yX10_printMark yX10_printMark ∈ bigw := ⟨(gb9 34 (by decide +kernel) (by decide +kernel)), (gb0 102 (by decide +kernel) (by decide +kernel))⟩
theorem lkX10_436 : LKV RX10 436 yX10_printMark cX10_printMark 3 none 2 := ⟨⟨(gb9 32 (by decide +kernel) (by decide +kernel)), mc_X10_printMark, mi_X10_printMark, by decide, by decide +kernel⟩, ms_X10_printMark.1, ms_X10_printMark.2⟩
set_option maxRecDepth 100000 in
theorem mc_X10_reportByte : .code yX10_reportByte cX10_reportByte 2 (some .int) ∈ bigw := (gb9 39 rfl (by decide +kernel))
theorem mi_X10_reportByte : .initialized (yX10_reportByte : MethodName).cls ∈ bigw := (gb1 11 (by decide +kernel) (by decide +kernel))
theorem ms_X10_reportByte : .instanceMethod yX10_reportByte ∈ bigw ∧ .selects (yX10_reportByte : MethodName).cls yX10_reportByte yX10_reportByte ∈ bigw := ⟨(gb9 37 (by decide +kernel) (by decide +kernel)), (gb9 38 (by decide +kernel) (by decide +kernel))⟩
theorem lkL_318 : LKV RL 318 yX10_reportByte cX10_reportByte 2 (some .int) 1 := ⟨⟨(gb9 36 (by decide +kernel) (by decide +kernel)), mc_X10_reportByte, mi_X10_reportByte, by decide, by decide +kernel⟩, ms_X10_reportByte.1, ms_X10_reportByte.2⟩
theorem lkX3_104 : LKN RX3 104 yX9_isTicks "VacuumSequencer" cX9_isTicks 1 (some .boolean) 1 := ⟨(gt3 198 (by decide +kernel)), mc_X9_isTicks, mi_X9_isTicks, by decide, by decide +kernel, ms_X9_isTicks⟩
theorem lkX3_116 : LKN RX3 116 yX9_isPressure "VacuumSequencer" cX9_isPressure 1 (some .boolean) 1 := ⟨(gt3 239 (by decide +kernel)), mc_X9_isPressure, mi_X9_isPressure, by decide, by decide +kernel, ms_X9_isPressure⟩
theorem lkX3_128 : LKN RX3 128 yX9_isTestTicks "VacuumSequencer" cX9_isTestTicks 1 (some .boolean) 1 := ⟨(gt4 12 (by decide +kernel)), mc_X9_isTestTicks, mi_X9_isTestTicks, by decide, by decide +kernel, ms_X9_isTestTicks⟩
theorem lkX4_31 : LKN RX4 31 yX9_has "VacuumSequencer" cX9_has 2 (some .boolean) 2 := ⟨(gt4 72 (by decide +kernel)), mc_X9_has, mi_X9_has, by decide, by decide +kernel, ms_X9_has⟩
theorem lkX1_76 : LKN RX1 76 yX9_has "VacuumSequencer" cX9_has 2 (some .boolean) 2 := ⟨(gt5 165 (by decide +kernel)), mc_X9_has, mi_X9_has, by decide, by decide +kernel, ms_X9_has⟩
theorem in_t {ws : List Cond} (ps : List Nat) (hp : ws = ps.filterMap (fun i => lw_tbl[i]?)) (h : ws.all (fun w => goodWord w || match w with | .castable _ _ => true | .declares _ => true | _ => false) = true) : ∀ w ∈ ws, w ∈ bigw ∨ (∃ C T, w = .castable C T ∧ w ∈ lw_tbl) ∨ ∃ y, w = .declares y ∧ w ∈ lw_tbl := by
  intro w hw
  have h1 := List.all_eq_true.mp h w hw
  rw [hp] at hw
  obtain ⟨i, -, hi⟩ := List.mem_filterMap.mp hw
  have hm := List.mem_of_getElem? hi
  simp only [Bool.or_eq_true] at h1
  rcases h1 with g | g
  · exact Or.inl (List.mem_filter.mpr ⟨hm, g⟩)
  · refine Or.inr ?_
    cases w <;> first | exact Or.inl ⟨_, _, rfl, hm⟩ | exact Or.inr ⟨_, rfl, hm⟩ | cases g
set_option maxRecDepth 100000 in
theorem ltX9_0 : LKT RX9 96 98 0 := ⟨(gb4 95 (by decide +kernel) (by decide +kernel)), (gb1 15 (by decide +kernel) (by decide +kernel)), in_t [115, 940, 949, 954, 957, 959, 941, 942, 134, 135, 943, 948, 955, 971, 930, 972, 932, 973, 934, 944, 946, 936, 961, 962, 963, 964, 921, 964, 965, 966, 967, 923, 967, 968, 969, 941, 925, 960, 919, 920, 927, 928, 929, 931, 933, 935, 970, 938, 937] (by decide +kernel) (by decide +kernel)⟩
set_option maxRecDepth 100000 in
theorem ltX9_1 : LKT RX9 103 105 1 := ⟨(gb4 171 (by decide +kernel) (by decide +kernel)), (gb1 16 (by decide +kernel) (by decide +kernel)), in_t [115, 940, 949, 954, 957, 959, 941, 942, 134, 135, 943, 948, 955, 971, 930, 972, 932, 973, 934, 944, 946, 936, 1004, 1005, 1006, 964, 921, 964, 965, 966, 967, 923, 967, 968, 969, 941, 925, 1003, 995, 996, 997, 951, 998, 999, 1000, 1001, 970, 938, 1002] (by decide +kernel) (by decide +kernel)⟩
set_option maxRecDepth 100000 in
theorem ltX9_2 : LKT RX9 132 134 2 := ⟨(gb4 195 (by decide +kernel) (by decide +kernel)), (gb1 23 (by decide +kernel) (by decide +kernel)), in_t [115, 940, 949, 954, 957, 959, 941, 942, 134, 135, 943, 948, 955, 971, 930, 972, 932, 973, 934, 944, 946, 936, 1028, 1029, 1030, 964, 921, 964, 965, 966, 967, 923, 967, 968, 969, 941, 925, 1027, 1019, 1020, 1021, 952, 1022, 1023, 1024, 1025, 970, 938, 1026] (by decide +kernel) (by decide +kernel)⟩
set_option maxRecDepth 100000 in
theorem ltX9_3 : LKT RX9 332 334 3 := ⟨(gb5 218 (by decide +kernel) (by decide +kernel)), (gb1 24 (by decide +kernel) (by decide +kernel)), in_t [115, 940, 949, 954, 957, 959, 941, 942, 134, 135, 943, 948, 955, 971, 930, 972, 932, 973, 934, 944, 946, 936, 1291, 1292, 1293, 964, 921, 964, 965, 966, 967, 923, 967, 968, 969, 941, 925, 1290, 1282, 1283, 1284, 953, 1285, 1286, 1287, 1288, 970, 938, 1289] (by decide +kernel) (by decide +kernel)⟩
def strs : List ST := [(RX6, 70, "chamber", [99, 104, 97, 109, 98, 101, 114]), (RX6, 76, "pump", [112, 117, 109, 112]), (RX6, 78, "valve", [118, 97, 108, 118, 101]), (RX6, 80, "flange", [102, 108, 97, 110, 103, 101]), (RX6, 118, "out", [111, 117, 116]), (RX3, 69, "open", [111, 112, 101, 110]), (RX3, 75, "close", [99, 108, 111, 115, 101]), (RX3, 77, "start", [115, 116, 97, 114, 116]), (RX3, 78, "stop", [115, 116, 111, 112]), (RX3, 80, "wait", [119, 97, 105, 116]), (RX3, 82, "until", [117, 110, 116, 105, 108]), (RX3, 84, "seal", [115, 101, 97, 108]), (RX3, 86, "test", [116, 101, 115, 116]), (RX9, 351, "chamber ", [99, 104, 97, 109, 98, 101, 114, 32]), (RX9, 360, " ", [32]), (RX9, 362, " v", [32, 118]), (RX9, 371, " p", [32, 112]), (RX9, 376, "\n", [10]), (RX10, 288, "chamber", [99, 104, 97, 109, 98, 101, 114]), (RX10, 294, ";", [59]), (RX10, 300, "pump", [112, 117, 109, 112]), (RX10, 286, "out", [111, 117, 116]), (RX10, 308, "valve", [118, 97, 108, 118, 101]), (RX10, 310, "flange", [102, 108, 97, 110, 103, 101]), (RX10, 327, "open", [111, 112, 101, 110]), (RX10, 329, "close", [99, 108, 111, 115, 101]), (RX10, 331, "start", [115, 116, 97, 114, 116]), (RX10, 333, "stop", [115, 116, 111, 112]), (RX10, 335, "wait", [119, 97, 105, 116]), (RX10, 337, "seal", [115, 101, 97, 108]), (RX10, 339, "until", [117, 110, 116, 105, 108]), (RX10, 341, "test", [116, 101, 115, 116]), (RX10, 434, "chamber ", [99, 104, 97, 109, 98, 101, 114, 32])]
end
section
/-! what a state is, and how it lies in the world -/
abbrev TT : Type := (Nat → Int32) × (Int32)
def TT_bytes (q : TT) : Nat → Int32 := q.1
def TT_length (q : TT) : Int32 := q.2
def TT_set_bytes (q : TT) (v : Nat → Int32) : TT := (v, q.2)
def TT_set_length (q : TT) (v : Int32) : TT := (q.1, v)
theorem TT_bytes_set_bytes (q : TT) (v : Nat → Int32) : TT_bytes (TT_set_bytes q v) = v := rfl
theorem TT_length_set_bytes (q : TT) (v : Nat → Int32) : TT_length (TT_set_bytes q v) = TT_length q := rfl
theorem TT_bytes_set_length (q : TT) (v : Int32) : TT_bytes (TT_set_length q v) = TT_bytes q := rfl
theorem TT_length_set_length (q : TT) (v : Int32) : TT_length (TT_set_length q v) = v := rfl
abbrev RR : Type := (Int32) × (Int32) × (Int32) × (Int32) × (Int32) × (Int32)
def RR_kind (q : RR) : Int32 := q.1
def RR_start (q : RR) : Int32 := q.2.1
def RR_end_ (q : RR) : Int32 := q.2.2.1
def RR_value (q : RR) : Int32 := q.2.2.2.1
def RR_errorCode (q : RR) : Int32 := q.2.2.2.2.1
def RR_errorPosition (q : RR) : Int32 := q.2.2.2.2.2
def RR_set_kind (q : RR) (v : Int32) : RR := (v, q.2.1, q.2.2.1, q.2.2.2.1, q.2.2.2.2.1, q.2.2.2.2.2)
def RR_set_start (q : RR) (v : Int32) : RR := (q.1, v, q.2.2.1, q.2.2.2.1, q.2.2.2.2.1, q.2.2.2.2.2)
def RR_set_end_ (q : RR) (v : Int32) : RR := (q.1, q.2.1, v, q.2.2.2.1, q.2.2.2.2.1, q.2.2.2.2.2)
def RR_set_value (q : RR) (v : Int32) : RR := (q.1, q.2.1, q.2.2.1, v, q.2.2.2.2.1, q.2.2.2.2.2)
def RR_set_errorCode (q : RR) (v : Int32) : RR := (q.1, q.2.1, q.2.2.1, q.2.2.2.1, v, q.2.2.2.2.2)
def RR_set_errorPosition (q : RR) (v : Int32) : RR := (q.1, q.2.1, q.2.2.1, q.2.2.2.1, q.2.2.2.2.1, v)
theorem RR_kind_set_kind (q : RR) (v : Int32) : RR_kind (RR_set_kind q v) = v := rfl
theorem RR_start_set_kind (q : RR) (v : Int32) : RR_start (RR_set_kind q v) = RR_start q := rfl
theorem RR_end__set_kind (q : RR) (v : Int32) : RR_end_ (RR_set_kind q v) = RR_end_ q := rfl
theorem RR_value_set_kind (q : RR) (v : Int32) : RR_value (RR_set_kind q v) = RR_value q := rfl
theorem RR_errorCode_set_kind (q : RR) (v : Int32) : RR_errorCode (RR_set_kind q v) = RR_errorCode q := rfl
theorem RR_errorPosition_set_kind (q : RR) (v : Int32) : RR_errorPosition (RR_set_kind q v) = RR_errorPosition q := rfl
theorem RR_kind_set_start (q : RR) (v : Int32) : RR_kind (RR_set_start q v) = RR_kind q := rfl
theorem RR_start_set_start (q : RR) (v : Int32) : RR_start (RR_set_start q v) = v := rfl
theorem RR_end__set_start (q : RR) (v : Int32) : RR_end_ (RR_set_start q v) = RR_end_ q := rfl
theorem RR_value_set_start (q : RR) (v : Int32) : RR_value (RR_set_start q v) = RR_value q := rfl
theorem RR_errorCode_set_start (q : RR) (v : Int32) : RR_errorCode (RR_set_start q v) = RR_errorCode q := rfl
theorem RR_errorPosition_set_start (q : RR) (v : Int32) : RR_errorPosition (RR_set_start q v) = RR_errorPosition q := rfl
theorem RR_kind_set_end_ (q : RR) (v : Int32) : RR_kind (RR_set_end_ q v) = RR_kind q := rfl
theorem RR_start_set_end_ (q : RR) (v : Int32) : RR_start (RR_set_end_ q v) = RR_start q := rfl
theorem RR_end__set_end_ (q : RR) (v : Int32) : RR_end_ (RR_set_end_ q v) = v := rfl
theorem RR_value_set_end_ (q : RR) (v : Int32) : RR_value (RR_set_end_ q v) = RR_value q := rfl
theorem RR_errorCode_set_end_ (q : RR) (v : Int32) : RR_errorCode (RR_set_end_ q v) = RR_errorCode q := rfl
theorem RR_errorPosition_set_end_ (q : RR) (v : Int32) : RR_errorPosition (RR_set_end_ q v) = RR_errorPosition q := rfl
theorem RR_kind_set_value (q : RR) (v : Int32) : RR_kind (RR_set_value q v) = RR_kind q := rfl
theorem RR_start_set_value (q : RR) (v : Int32) : RR_start (RR_set_value q v) = RR_start q := rfl
theorem RR_end__set_value (q : RR) (v : Int32) : RR_end_ (RR_set_value q v) = RR_end_ q := rfl
theorem RR_value_set_value (q : RR) (v : Int32) : RR_value (RR_set_value q v) = v := rfl
theorem RR_errorCode_set_value (q : RR) (v : Int32) : RR_errorCode (RR_set_value q v) = RR_errorCode q := rfl
theorem RR_errorPosition_set_value (q : RR) (v : Int32) : RR_errorPosition (RR_set_value q v) = RR_errorPosition q := rfl
theorem RR_kind_set_errorCode (q : RR) (v : Int32) : RR_kind (RR_set_errorCode q v) = RR_kind q := rfl
theorem RR_start_set_errorCode (q : RR) (v : Int32) : RR_start (RR_set_errorCode q v) = RR_start q := rfl
theorem RR_end__set_errorCode (q : RR) (v : Int32) : RR_end_ (RR_set_errorCode q v) = RR_end_ q := rfl
theorem RR_value_set_errorCode (q : RR) (v : Int32) : RR_value (RR_set_errorCode q v) = RR_value q := rfl
theorem RR_errorCode_set_errorCode (q : RR) (v : Int32) : RR_errorCode (RR_set_errorCode q v) = v := rfl
theorem RR_errorPosition_set_errorCode (q : RR) (v : Int32) : RR_errorPosition (RR_set_errorCode q v) = RR_errorPosition q := rfl
theorem RR_kind_set_errorPosition (q : RR) (v : Int32) : RR_kind (RR_set_errorPosition q v) = RR_kind q := rfl
theorem RR_start_set_errorPosition (q : RR) (v : Int32) : RR_start (RR_set_errorPosition q v) = RR_start q := rfl
theorem RR_end__set_errorPosition (q : RR) (v : Int32) : RR_end_ (RR_set_errorPosition q v) = RR_end_ q := rfl
theorem RR_value_set_errorPosition (q : RR) (v : Int32) : RR_value (RR_set_errorPosition q v) = RR_value q := rfl
theorem RR_errorCode_set_errorPosition (q : RR) (v : Int32) : RR_errorCode (RR_set_errorPosition q v) = RR_errorCode q := rfl
theorem RR_errorPosition_set_errorPosition (q : RR) (v : Int32) : RR_errorPosition (RR_set_errorPosition q v) = v := rfl
abbrev LL : Type := (Int32) × (Int32) × (Int32) × (Int32) × (Nat → Int32) × (Nat → Int32) × (Nat → Int32) × (Nat → Int32) × (Nat → Int32) × (Nat → Int32) × (Nat → Int32) × (Nat → Int32) × (Nat → Int32) × (Nat → Int32) × (Nat → Int32) × (Nat → Int32) × (Nat → Int32) × (Nat → Int32) × (Nat → Int32)
def LL_chambers (q : LL) : Int32 := q.1
def LL_pumps (q : LL) : Int32 := q.2.1
def LL_valves (q : LL) : Int32 := q.2.2.1
def LL_flanges (q : LL) : Int32 := q.2.2.2.1
def LL_volume (q : LL) : Nat → Int32 := q.2.2.2.2.1
def LL_firstOutgassing (q : LL) : Nat → Int32 := q.2.2.2.2.2.1
def LL_decay (q : LL) : Nat → Int32 := q.2.2.2.2.2.2.1
def LL_pumpChamber (q : LL) : Nat → Int32 := q.2.2.2.2.2.2.2.1
def LL_exhaust (q : LL) : Nat → Int32 := q.2.2.2.2.2.2.2.2.1
def LL_speed (q : LL) : Nat → Int32 := q.2.2.2.2.2.2.2.2.2.1
def LL_low (q : LL) : Nat → Int32 := q.2.2.2.2.2.2.2.2.2.2.1
def LL_high (q : LL) : Nat → Int32 := q.2.2.2.2.2.2.2.2.2.2.2.1
def LL_backing (q : LL) : Nat → Int32 := q.2.2.2.2.2.2.2.2.2.2.2.2.1
def LL_valveChamber (q : LL) : Nat → Int32 := q.2.2.2.2.2.2.2.2.2.2.2.2.2.1
def LL_otherSide (q : LL) : Nat → Int32 := q.2.2.2.2.2.2.2.2.2.2.2.2.2.2.1
def LL_conductance (q : LL) : Nat → Int32 := q.2.2.2.2.2.2.2.2.2.2.2.2.2.2.2.1
def LL_firstRule (q : LL) : Nat → Int32 := q.2.2.2.2.2.2.2.2.2.2.2.2.2.2.2.2.1
def LL_flangeChamber (q : LL) : Nat → Int32 := q.2.2.2.2.2.2.2.2.2.2.2.2.2.2.2.2.2.1
def LL_firstLeak (q : LL) : Nat → Int32 := q.2.2.2.2.2.2.2.2.2.2.2.2.2.2.2.2.2.2
def LL_set_chambers (q : LL) (v : Int32) : LL := (v, q.2.1, q.2.2.1, q.2.2.2.1, q.2.2.2.2.1, q.2.2.2.2.2.1, q.2.2.2.2.2.2.1, q.2.2.2.2.2.2.2.1, q.2.2.2.2.2.2.2.2.1, q.2.2.2.2.2.2.2.2.2.1, q.2.2.2.2.2.2.2.2.2.2.1, q.2.2.2.2.2.2.2.2.2.2.2.1, q.2.2.2.2.2.2.2.2.2.2.2.2.1, q.2.2.2.2.2.2.2.2.2.2.2.2.2.1, q.2.2.2.2.2.2.2.2.2.2.2.2.2.2.1, q.2.2.2.2.2.2.2.2.2.2.2.2.2.2.2.1, q.2.2.2.2.2.2.2.2.2.2.2.2.2.2.2.2.1, q.2.2.2.2.2.2.2.2.2.2.2.2.2.2.2.2.2.1, q.2.2.2.2.2.2.2.2.2.2.2.2.2.2.2.2.2.2)
def LL_set_pumps (q : LL) (v : Int32) : LL := (q.1, v, q.2.2.1, q.2.2.2.1, q.2.2.2.2.1, q.2.2.2.2.2.1, q.2.2.2.2.2.2.1, q.2.2.2.2.2.2.2.1, q.2.2.2.2.2.2.2.2.1, q.2.2.2.2.2.2.2.2.2.1, q.2.2.2.2.2.2.2.2.2.2.1, q.2.2.2.2.2.2.2.2.2.2.2.1, q.2.2.2.2.2.2.2.2.2.2.2.2.1, q.2.2.2.2.2.2.2.2.2.2.2.2.2.1, q.2.2.2.2.2.2.2.2.2.2.2.2.2.2.1, q.2.2.2.2.2.2.2.2.2.2.2.2.2.2.2.1, q.2.2.2.2.2.2.2.2.2.2.2.2.2.2.2.2.1, q.2.2.2.2.2.2.2.2.2.2.2.2.2.2.2.2.2.1, q.2.2.2.2.2.2.2.2.2.2.2.2.2.2.2.2.2.2)
def LL_set_valves (q : LL) (v : Int32) : LL := (q.1, q.2.1, v, q.2.2.2.1, q.2.2.2.2.1, q.2.2.2.2.2.1, q.2.2.2.2.2.2.1, q.2.2.2.2.2.2.2.1, q.2.2.2.2.2.2.2.2.1, q.2.2.2.2.2.2.2.2.2.1, q.2.2.2.2.2.2.2.2.2.2.1, q.2.2.2.2.2.2.2.2.2.2.2.1, q.2.2.2.2.2.2.2.2.2.2.2.2.1, q.2.2.2.2.2.2.2.2.2.2.2.2.2.1, q.2.2.2.2.2.2.2.2.2.2.2.2.2.2.1, q.2.2.2.2.2.2.2.2.2.2.2.2.2.2.2.1, q.2.2.2.2.2.2.2.2.2.2.2.2.2.2.2.2.1, q.2.2.2.2.2.2.2.2.2.2.2.2.2.2.2.2.2.1, q.2.2.2.2.2.2.2.2.2.2.2.2.2.2.2.2.2.2)
def LL_set_flanges (q : LL) (v : Int32) : LL := (q.1, q.2.1, q.2.2.1, v, q.2.2.2.2.1, q.2.2.2.2.2.1, q.2.2.2.2.2.2.1, q.2.2.2.2.2.2.2.1, q.2.2.2.2.2.2.2.2.1, q.2.2.2.2.2.2.2.2.2.1, q.2.2.2.2.2.2.2.2.2.2.1, q.2.2.2.2.2.2.2.2.2.2.2.1, q.2.2.2.2.2.2.2.2.2.2.2.2.1, q.2.2.2.2.2.2.2.2.2.2.2.2.2.1, q.2.2.2.2.2.2.2.2.2.2.2.2.2.2.1, q.2.2.2.2.2.2.2.2.2.2.2.2.2.2.2.1, q.2.2.2.2.2.2.2.2.2.2.2.2.2.2.2.2.1, q.2.2.2.2.2.2.2.2.2.2.2.2.2.2.2.2.2.1, q.2.2.2.2.2.2.2.2.2.2.2.2.2.2.2.2.2.2)
def LL_set_volume (q : LL) (v : Nat → Int32) : LL := (q.1, q.2.1, q.2.2.1, q.2.2.2.1, v, q.2.2.2.2.2.1, q.2.2.2.2.2.2.1, q.2.2.2.2.2.2.2.1, q.2.2.2.2.2.2.2.2.1, q.2.2.2.2.2.2.2.2.2.1, q.2.2.2.2.2.2.2.2.2.2.1, q.2.2.2.2.2.2.2.2.2.2.2.1, q.2.2.2.2.2.2.2.2.2.2.2.2.1, q.2.2.2.2.2.2.2.2.2.2.2.2.2.1, q.2.2.2.2.2.2.2.2.2.2.2.2.2.2.1, q.2.2.2.2.2.2.2.2.2.2.2.2.2.2.2.1, q.2.2.2.2.2.2.2.2.2.2.2.2.2.2.2.2.1, q.2.2.2.2.2.2.2.2.2.2.2.2.2.2.2.2.2.1, q.2.2.2.2.2.2.2.2.2.2.2.2.2.2.2.2.2.2)
def LL_set_firstOutgassing (q : LL) (v : Nat → Int32) : LL := (q.1, q.2.1, q.2.2.1, q.2.2.2.1, q.2.2.2.2.1, v, q.2.2.2.2.2.2.1, q.2.2.2.2.2.2.2.1, q.2.2.2.2.2.2.2.2.1, q.2.2.2.2.2.2.2.2.2.1, q.2.2.2.2.2.2.2.2.2.2.1, q.2.2.2.2.2.2.2.2.2.2.2.1, q.2.2.2.2.2.2.2.2.2.2.2.2.1, q.2.2.2.2.2.2.2.2.2.2.2.2.2.1, q.2.2.2.2.2.2.2.2.2.2.2.2.2.2.1, q.2.2.2.2.2.2.2.2.2.2.2.2.2.2.2.1, q.2.2.2.2.2.2.2.2.2.2.2.2.2.2.2.2.1, q.2.2.2.2.2.2.2.2.2.2.2.2.2.2.2.2.2.1, q.2.2.2.2.2.2.2.2.2.2.2.2.2.2.2.2.2.2)
def LL_set_decay (q : LL) (v : Nat → Int32) : LL := (q.1, q.2.1, q.2.2.1, q.2.2.2.1, q.2.2.2.2.1, q.2.2.2.2.2.1, v, q.2.2.2.2.2.2.2.1, q.2.2.2.2.2.2.2.2.1, q.2.2.2.2.2.2.2.2.2.1, q.2.2.2.2.2.2.2.2.2.2.1, q.2.2.2.2.2.2.2.2.2.2.2.1, q.2.2.2.2.2.2.2.2.2.2.2.2.1, q.2.2.2.2.2.2.2.2.2.2.2.2.2.1, q.2.2.2.2.2.2.2.2.2.2.2.2.2.2.1, q.2.2.2.2.2.2.2.2.2.2.2.2.2.2.2.1, q.2.2.2.2.2.2.2.2.2.2.2.2.2.2.2.2.1, q.2.2.2.2.2.2.2.2.2.2.2.2.2.2.2.2.2.1, q.2.2.2.2.2.2.2.2.2.2.2.2.2.2.2.2.2.2)
def LL_set_pumpChamber (q : LL) (v : Nat → Int32) : LL := (q.1, q.2.1, q.2.2.1, q.2.2.2.1, q.2.2.2.2.1, q.2.2.2.2.2.1, q.2.2.2.2.2.2.1, v, q.2.2.2.2.2.2.2.2.1, q.2.2.2.2.2.2.2.2.2.1, q.2.2.2.2.2.2.2.2.2.2.1, q.2.2.2.2.2.2.2.2.2.2.2.1, q.2.2.2.2.2.2.2.2.2.2.2.2.1, q.2.2.2.2.2.2.2.2.2.2.2.2.2.1, q.2.2.2.2.2.2.2.2.2.2.2.2.2.2.1, q.2.2.2.2.2.2.2.2.2.2.2.2.2.2.2.1, q.2.2.2.2.2.2.2.2.2.2.2.2.2.2.2.2.1, q.2.2.2.2.2.2.2.2.2.2.2.2.2.2.2.2.2.1, q.2.2.2.2.2.2.2.2.2.2.2.2.2.2.2.2.2.2)
def LL_set_exhaust (q : LL) (v : Nat → Int32) : LL := (q.1, q.2.1, q.2.2.1, q.2.2.2.1, q.2.2.2.2.1, q.2.2.2.2.2.1, q.2.2.2.2.2.2.1, q.2.2.2.2.2.2.2.1, v, q.2.2.2.2.2.2.2.2.2.1, q.2.2.2.2.2.2.2.2.2.2.1, q.2.2.2.2.2.2.2.2.2.2.2.1, q.2.2.2.2.2.2.2.2.2.2.2.2.1, q.2.2.2.2.2.2.2.2.2.2.2.2.2.1, q.2.2.2.2.2.2.2.2.2.2.2.2.2.2.1, q.2.2.2.2.2.2.2.2.2.2.2.2.2.2.2.1, q.2.2.2.2.2.2.2.2.2.2.2.2.2.2.2.2.1, q.2.2.2.2.2.2.2.2.2.2.2.2.2.2.2.2.2.1, q.2.2.2.2.2.2.2.2.2.2.2.2.2.2.2.2.2.2)
def LL_set_speed (q : LL) (v : Nat → Int32) : LL := (q.1, q.2.1, q.2.2.1, q.2.2.2.1, q.2.2.2.2.1, q.2.2.2.2.2.1, q.2.2.2.2.2.2.1, q.2.2.2.2.2.2.2.1, q.2.2.2.2.2.2.2.2.1, v, q.2.2.2.2.2.2.2.2.2.2.1, q.2.2.2.2.2.2.2.2.2.2.2.1, q.2.2.2.2.2.2.2.2.2.2.2.2.1, q.2.2.2.2.2.2.2.2.2.2.2.2.2.1, q.2.2.2.2.2.2.2.2.2.2.2.2.2.2.1, q.2.2.2.2.2.2.2.2.2.2.2.2.2.2.2.1, q.2.2.2.2.2.2.2.2.2.2.2.2.2.2.2.2.1, q.2.2.2.2.2.2.2.2.2.2.2.2.2.2.2.2.2.1, q.2.2.2.2.2.2.2.2.2.2.2.2.2.2.2.2.2.2)
def LL_set_low (q : LL) (v : Nat → Int32) : LL := (q.1, q.2.1, q.2.2.1, q.2.2.2.1, q.2.2.2.2.1, q.2.2.2.2.2.1, q.2.2.2.2.2.2.1, q.2.2.2.2.2.2.2.1, q.2.2.2.2.2.2.2.2.1, q.2.2.2.2.2.2.2.2.2.1, v, q.2.2.2.2.2.2.2.2.2.2.2.1, q.2.2.2.2.2.2.2.2.2.2.2.2.1, q.2.2.2.2.2.2.2.2.2.2.2.2.2.1, q.2.2.2.2.2.2.2.2.2.2.2.2.2.2.1, q.2.2.2.2.2.2.2.2.2.2.2.2.2.2.2.1, q.2.2.2.2.2.2.2.2.2.2.2.2.2.2.2.2.1, q.2.2.2.2.2.2.2.2.2.2.2.2.2.2.2.2.2.1, q.2.2.2.2.2.2.2.2.2.2.2.2.2.2.2.2.2.2)
def LL_set_high (q : LL) (v : Nat → Int32) : LL := (q.1, q.2.1, q.2.2.1, q.2.2.2.1, q.2.2.2.2.1, q.2.2.2.2.2.1, q.2.2.2.2.2.2.1, q.2.2.2.2.2.2.2.1, q.2.2.2.2.2.2.2.2.1, q.2.2.2.2.2.2.2.2.2.1, q.2.2.2.2.2.2.2.2.2.2.1, v, q.2.2.2.2.2.2.2.2.2.2.2.2.1, q.2.2.2.2.2.2.2.2.2.2.2.2.2.1, q.2.2.2.2.2.2.2.2.2.2.2.2.2.2.1, q.2.2.2.2.2.2.2.2.2.2.2.2.2.2.2.1, q.2.2.2.2.2.2.2.2.2.2.2.2.2.2.2.2.1, q.2.2.2.2.2.2.2.2.2.2.2.2.2.2.2.2.2.1, q.2.2.2.2.2.2.2.2.2.2.2.2.2.2.2.2.2.2)
def LL_set_backing (q : LL) (v : Nat → Int32) : LL := (q.1, q.2.1, q.2.2.1, q.2.2.2.1, q.2.2.2.2.1, q.2.2.2.2.2.1, q.2.2.2.2.2.2.1, q.2.2.2.2.2.2.2.1, q.2.2.2.2.2.2.2.2.1, q.2.2.2.2.2.2.2.2.2.1, q.2.2.2.2.2.2.2.2.2.2.1, q.2.2.2.2.2.2.2.2.2.2.2.1, v, q.2.2.2.2.2.2.2.2.2.2.2.2.2.1, q.2.2.2.2.2.2.2.2.2.2.2.2.2.2.1, q.2.2.2.2.2.2.2.2.2.2.2.2.2.2.2.1, q.2.2.2.2.2.2.2.2.2.2.2.2.2.2.2.2.1, q.2.2.2.2.2.2.2.2.2.2.2.2.2.2.2.2.2.1, q.2.2.2.2.2.2.2.2.2.2.2.2.2.2.2.2.2.2)
def LL_set_valveChamber (q : LL) (v : Nat → Int32) : LL := (q.1, q.2.1, q.2.2.1, q.2.2.2.1, q.2.2.2.2.1, q.2.2.2.2.2.1, q.2.2.2.2.2.2.1, q.2.2.2.2.2.2.2.1, q.2.2.2.2.2.2.2.2.1, q.2.2.2.2.2.2.2.2.2.1, q.2.2.2.2.2.2.2.2.2.2.1, q.2.2.2.2.2.2.2.2.2.2.2.1, q.2.2.2.2.2.2.2.2.2.2.2.2.1, v, q.2.2.2.2.2.2.2.2.2.2.2.2.2.2.1, q.2.2.2.2.2.2.2.2.2.2.2.2.2.2.2.1, q.2.2.2.2.2.2.2.2.2.2.2.2.2.2.2.2.1, q.2.2.2.2.2.2.2.2.2.2.2.2.2.2.2.2.2.1, q.2.2.2.2.2.2.2.2.2.2.2.2.2.2.2.2.2.2)
def LL_set_otherSide (q : LL) (v : Nat → Int32) : LL := (q.1, q.2.1, q.2.2.1, q.2.2.2.1, q.2.2.2.2.1, q.2.2.2.2.2.1, q.2.2.2.2.2.2.1, q.2.2.2.2.2.2.2.1, q.2.2.2.2.2.2.2.2.1, q.2.2.2.2.2.2.2.2.2.1, q.2.2.2.2.2.2.2.2.2.2.1, q.2.2.2.2.2.2.2.2.2.2.2.1, q.2.2.2.2.2.2.2.2.2.2.2.2.1, q.2.2.2.2.2.2.2.2.2.2.2.2.2.1, v, q.2.2.2.2.2.2.2.2.2.2.2.2.2.2.2.1, q.2.2.2.2.2.2.2.2.2.2.2.2.2.2.2.2.1, q.2.2.2.2.2.2.2.2.2.2.2.2.2.2.2.2.2.1, q.2.2.2.2.2.2.2.2.2.2.2.2.2.2.2.2.2.2)
def LL_set_conductance (q : LL) (v : Nat → Int32) : LL := (q.1, q.2.1, q.2.2.1, q.2.2.2.1, q.2.2.2.2.1, q.2.2.2.2.2.1, q.2.2.2.2.2.2.1, q.2.2.2.2.2.2.2.1, q.2.2.2.2.2.2.2.2.1, q.2.2.2.2.2.2.2.2.2.1, q.2.2.2.2.2.2.2.2.2.2.1, q.2.2.2.2.2.2.2.2.2.2.2.1, q.2.2.2.2.2.2.2.2.2.2.2.2.1, q.2.2.2.2.2.2.2.2.2.2.2.2.2.1, q.2.2.2.2.2.2.2.2.2.2.2.2.2.2.1, v, q.2.2.2.2.2.2.2.2.2.2.2.2.2.2.2.2.1, q.2.2.2.2.2.2.2.2.2.2.2.2.2.2.2.2.2.1, q.2.2.2.2.2.2.2.2.2.2.2.2.2.2.2.2.2.2)
def LL_set_firstRule (q : LL) (v : Nat → Int32) : LL := (q.1, q.2.1, q.2.2.1, q.2.2.2.1, q.2.2.2.2.1, q.2.2.2.2.2.1, q.2.2.2.2.2.2.1, q.2.2.2.2.2.2.2.1, q.2.2.2.2.2.2.2.2.1, q.2.2.2.2.2.2.2.2.2.1, q.2.2.2.2.2.2.2.2.2.2.1, q.2.2.2.2.2.2.2.2.2.2.2.1, q.2.2.2.2.2.2.2.2.2.2.2.2.1, q.2.2.2.2.2.2.2.2.2.2.2.2.2.1, q.2.2.2.2.2.2.2.2.2.2.2.2.2.2.1, q.2.2.2.2.2.2.2.2.2.2.2.2.2.2.2.1, v, q.2.2.2.2.2.2.2.2.2.2.2.2.2.2.2.2.2.1, q.2.2.2.2.2.2.2.2.2.2.2.2.2.2.2.2.2.2)
def LL_set_flangeChamber (q : LL) (v : Nat → Int32) : LL := (q.1, q.2.1, q.2.2.1, q.2.2.2.1, q.2.2.2.2.1, q.2.2.2.2.2.1, q.2.2.2.2.2.2.1, q.2.2.2.2.2.2.2.1, q.2.2.2.2.2.2.2.2.1, q.2.2.2.2.2.2.2.2.2.1, q.2.2.2.2.2.2.2.2.2.2.1, q.2.2.2.2.2.2.2.2.2.2.2.1, q.2.2.2.2.2.2.2.2.2.2.2.2.1, q.2.2.2.2.2.2.2.2.2.2.2.2.2.1, q.2.2.2.2.2.2.2.2.2.2.2.2.2.2.1, q.2.2.2.2.2.2.2.2.2.2.2.2.2.2.2.1, q.2.2.2.2.2.2.2.2.2.2.2.2.2.2.2.2.1, v, q.2.2.2.2.2.2.2.2.2.2.2.2.2.2.2.2.2.2)
def LL_set_firstLeak (q : LL) (v : Nat → Int32) : LL := (q.1, q.2.1, q.2.2.1, q.2.2.2.1, q.2.2.2.2.1, q.2.2.2.2.2.1, q.2.2.2.2.2.2.1, q.2.2.2.2.2.2.2.1, q.2.2.2.2.2.2.2.2.1, q.2.2.2.2.2.2.2.2.2.1, q.2.2.2.2.2.2.2.2.2.2.1, q.2.2.2.2.2.2.2.2.2.2.2.1, q.2.2.2.2.2.2.2.2.2.2.2.2.1, q.2.2.2.2.2.2.2.2.2.2.2.2.2.1, q.2.2.2.2.2.2.2.2.2.2.2.2.2.2.1, q.2.2.2.2.2.2.2.2.2.2.2.2.2.2.2.1, q.2.2.2.2.2.2.2.2.2.2.2.2.2.2.2.2.1, q.2.2.2.2.2.2.2.2.2.2.2.2.2.2.2.2.2.1, v)
theorem LL_chambers_set_chambers (q : LL) (v : Int32) : LL_chambers (LL_set_chambers q v) = v := rfl
theorem LL_pumps_set_chambers (q : LL) (v : Int32) : LL_pumps (LL_set_chambers q v) = LL_pumps q := rfl
theorem LL_valves_set_chambers (q : LL) (v : Int32) : LL_valves (LL_set_chambers q v) = LL_valves q := rfl
theorem LL_flanges_set_chambers (q : LL) (v : Int32) : LL_flanges (LL_set_chambers q v) = LL_flanges q := rfl
theorem LL_volume_set_chambers (q : LL) (v : Int32) : LL_volume (LL_set_chambers q v) = LL_volume q := rfl
theorem LL_firstOutgassing_set_chambers (q : LL) (v : Int32) : LL_firstOutgassing (LL_set_chambers q v) = LL_firstOutgassing q := rfl
theorem LL_decay_set_chambers (q : LL) (v : Int32) : LL_decay (LL_set_chambers q v) = LL_decay q := rfl
theorem LL_pumpChamber_set_chambers (q : LL) (v : Int32) : LL_pumpChamber (LL_set_chambers q v) = LL_pumpChamber q := rfl
theorem LL_exhaust_set_chambers (q : LL) (v : Int32) : LL_exhaust (LL_set_chambers q v) = LL_exhaust q := rfl
theorem LL_speed_set_chambers (q : LL) (v : Int32) : LL_speed (LL_set_chambers q v) = LL_speed q := rfl
theorem LL_low_set_chambers (q : LL) (v : Int32) : LL_low (LL_set_chambers q v) = LL_low q := rfl
theorem LL_high_set_chambers (q : LL) (v : Int32) : LL_high (LL_set_chambers q v) = LL_high q := rfl
theorem LL_backing_set_chambers (q : LL) (v : Int32) : LL_backing (LL_set_chambers q v) = LL_backing q := rfl
theorem LL_valveChamber_set_chambers (q : LL) (v : Int32) : LL_valveChamber (LL_set_chambers q v) = LL_valveChamber q := rfl
theorem LL_otherSide_set_chambers (q : LL) (v : Int32) : LL_otherSide (LL_set_chambers q v) = LL_otherSide q := rfl
theorem LL_conductance_set_chambers (q : LL) (v : Int32) : LL_conductance (LL_set_chambers q v) = LL_conductance q := rfl
theorem LL_firstRule_set_chambers (q : LL) (v : Int32) : LL_firstRule (LL_set_chambers q v) = LL_firstRule q := rfl
theorem LL_flangeChamber_set_chambers (q : LL) (v : Int32) : LL_flangeChamber (LL_set_chambers q v) = LL_flangeChamber q := rfl
theorem LL_firstLeak_set_chambers (q : LL) (v : Int32) : LL_firstLeak (LL_set_chambers q v) = LL_firstLeak q := rfl
theorem LL_chambers_set_pumps (q : LL) (v : Int32) : LL_chambers (LL_set_pumps q v) = LL_chambers q := rfl
theorem LL_pumps_set_pumps (q : LL) (v : Int32) : LL_pumps (LL_set_pumps q v) = v := rfl
theorem LL_valves_set_pumps (q : LL) (v : Int32) : LL_valves (LL_set_pumps q v) = LL_valves q := rfl
theorem LL_flanges_set_pumps (q : LL) (v : Int32) : LL_flanges (LL_set_pumps q v) = LL_flanges q := rfl
theorem LL_volume_set_pumps (q : LL) (v : Int32) : LL_volume (LL_set_pumps q v) = LL_volume q := rfl
theorem LL_firstOutgassing_set_pumps (q : LL) (v : Int32) : LL_firstOutgassing (LL_set_pumps q v) = LL_firstOutgassing q := rfl
theorem LL_decay_set_pumps (q : LL) (v : Int32) : LL_decay (LL_set_pumps q v) = LL_decay q := rfl
theorem LL_pumpChamber_set_pumps (q : LL) (v : Int32) : LL_pumpChamber (LL_set_pumps q v) = LL_pumpChamber q := rfl
theorem LL_exhaust_set_pumps (q : LL) (v : Int32) : LL_exhaust (LL_set_pumps q v) = LL_exhaust q := rfl
theorem LL_speed_set_pumps (q : LL) (v : Int32) : LL_speed (LL_set_pumps q v) = LL_speed q := rfl
theorem LL_low_set_pumps (q : LL) (v : Int32) : LL_low (LL_set_pumps q v) = LL_low q := rfl
theorem LL_high_set_pumps (q : LL) (v : Int32) : LL_high (LL_set_pumps q v) = LL_high q := rfl
theorem LL_backing_set_pumps (q : LL) (v : Int32) : LL_backing (LL_set_pumps q v) = LL_backing q := rfl
theorem LL_valveChamber_set_pumps (q : LL) (v : Int32) : LL_valveChamber (LL_set_pumps q v) = LL_valveChamber q := rfl
theorem LL_otherSide_set_pumps (q : LL) (v : Int32) : LL_otherSide (LL_set_pumps q v) = LL_otherSide q := rfl
theorem LL_conductance_set_pumps (q : LL) (v : Int32) : LL_conductance (LL_set_pumps q v) = LL_conductance q := rfl
theorem LL_firstRule_set_pumps (q : LL) (v : Int32) : LL_firstRule (LL_set_pumps q v) = LL_firstRule q := rfl
theorem LL_flangeChamber_set_pumps (q : LL) (v : Int32) : LL_flangeChamber (LL_set_pumps q v) = LL_flangeChamber q := rfl
theorem LL_firstLeak_set_pumps (q : LL) (v : Int32) : LL_firstLeak (LL_set_pumps q v) = LL_firstLeak q := rfl
theorem LL_chambers_set_valves (q : LL) (v : Int32) : LL_chambers (LL_set_valves q v) = LL_chambers q := rfl
theorem LL_pumps_set_valves (q : LL) (v : Int32) : LL_pumps (LL_set_valves q v) = LL_pumps q := rfl
theorem LL_valves_set_valves (q : LL) (v : Int32) : LL_valves (LL_set_valves q v) = v := rfl
theorem LL_flanges_set_valves (q : LL) (v : Int32) : LL_flanges (LL_set_valves q v) = LL_flanges q := rfl
theorem LL_volume_set_valves (q : LL) (v : Int32) : LL_volume (LL_set_valves q v) = LL_volume q := rfl
theorem LL_firstOutgassing_set_valves (q : LL) (v : Int32) : LL_firstOutgassing (LL_set_valves q v) = LL_firstOutgassing q := rfl
theorem LL_decay_set_valves (q : LL) (v : Int32) : LL_decay (LL_set_valves q v) = LL_decay q := rfl
theorem LL_pumpChamber_set_valves (q : LL) (v : Int32) : LL_pumpChamber (LL_set_valves q v) = LL_pumpChamber q := rfl
theorem LL_exhaust_set_valves (q : LL) (v : Int32) : LL_exhaust (LL_set_valves q v) = LL_exhaust q := rfl
theorem LL_speed_set_valves (q : LL) (v : Int32) : LL_speed (LL_set_valves q v) = LL_speed q := rfl
theorem LL_low_set_valves (q : LL) (v : Int32) : LL_low (LL_set_valves q v) = LL_low q := rfl
theorem LL_high_set_valves (q : LL) (v : Int32) : LL_high (LL_set_valves q v) = LL_high q := rfl
theorem LL_backing_set_valves (q : LL) (v : Int32) : LL_backing (LL_set_valves q v) = LL_backing q := rfl
theorem LL_valveChamber_set_valves (q : LL) (v : Int32) : LL_valveChamber (LL_set_valves q v) = LL_valveChamber q := rfl
theorem LL_otherSide_set_valves (q : LL) (v : Int32) : LL_otherSide (LL_set_valves q v) = LL_otherSide q := rfl
theorem LL_conductance_set_valves (q : LL) (v : Int32) : LL_conductance (LL_set_valves q v) = LL_conductance q := rfl
theorem LL_firstRule_set_valves (q : LL) (v : Int32) : LL_firstRule (LL_set_valves q v) = LL_firstRule q := rfl
theorem LL_flangeChamber_set_valves (q : LL) (v : Int32) : LL_flangeChamber (LL_set_valves q v) = LL_flangeChamber q := rfl
theorem LL_firstLeak_set_valves (q : LL) (v : Int32) : LL_firstLeak (LL_set_valves q v) = LL_firstLeak q := rfl
theorem LL_chambers_set_flanges (q : LL) (v : Int32) : LL_chambers (LL_set_flanges q v) = LL_chambers q := rfl
theorem LL_pumps_set_flanges (q : LL) (v : Int32) : LL_pumps (LL_set_flanges q v) = LL_pumps q := rfl
theorem LL_valves_set_flanges (q : LL) (v : Int32) : LL_valves (LL_set_flanges q v) = LL_valves q := rfl
theorem LL_flanges_set_flanges (q : LL) (v : Int32) : LL_flanges (LL_set_flanges q v) = v := rfl
theorem LL_volume_set_flanges (q : LL) (v : Int32) : LL_volume (LL_set_flanges q v) = LL_volume q := rfl
theorem LL_firstOutgassing_set_flanges (q : LL) (v : Int32) : LL_firstOutgassing (LL_set_flanges q v) = LL_firstOutgassing q := rfl
theorem LL_decay_set_flanges (q : LL) (v : Int32) : LL_decay (LL_set_flanges q v) = LL_decay q := rfl
theorem LL_pumpChamber_set_flanges (q : LL) (v : Int32) : LL_pumpChamber (LL_set_flanges q v) = LL_pumpChamber q := rfl
theorem LL_exhaust_set_flanges (q : LL) (v : Int32) : LL_exhaust (LL_set_flanges q v) = LL_exhaust q := rfl
theorem LL_speed_set_flanges (q : LL) (v : Int32) : LL_speed (LL_set_flanges q v) = LL_speed q := rfl
theorem LL_low_set_flanges (q : LL) (v : Int32) : LL_low (LL_set_flanges q v) = LL_low q := rfl
theorem LL_high_set_flanges (q : LL) (v : Int32) : LL_high (LL_set_flanges q v) = LL_high q := rfl
theorem LL_backing_set_flanges (q : LL) (v : Int32) : LL_backing (LL_set_flanges q v) = LL_backing q := rfl
theorem LL_valveChamber_set_flanges (q : LL) (v : Int32) : LL_valveChamber (LL_set_flanges q v) = LL_valveChamber q := rfl
theorem LL_otherSide_set_flanges (q : LL) (v : Int32) : LL_otherSide (LL_set_flanges q v) = LL_otherSide q := rfl
theorem LL_conductance_set_flanges (q : LL) (v : Int32) : LL_conductance (LL_set_flanges q v) = LL_conductance q := rfl
theorem LL_firstRule_set_flanges (q : LL) (v : Int32) : LL_firstRule (LL_set_flanges q v) = LL_firstRule q := rfl
theorem LL_flangeChamber_set_flanges (q : LL) (v : Int32) : LL_flangeChamber (LL_set_flanges q v) = LL_flangeChamber q := rfl
theorem LL_firstLeak_set_flanges (q : LL) (v : Int32) : LL_firstLeak (LL_set_flanges q v) = LL_firstLeak q := rfl
theorem LL_chambers_set_volume (q : LL) (v : Nat → Int32) : LL_chambers (LL_set_volume q v) = LL_chambers q := rfl
theorem LL_pumps_set_volume (q : LL) (v : Nat → Int32) : LL_pumps (LL_set_volume q v) = LL_pumps q := rfl
theorem LL_valves_set_volume (q : LL) (v : Nat → Int32) : LL_valves (LL_set_volume q v) = LL_valves q := rfl
theorem LL_flanges_set_volume (q : LL) (v : Nat → Int32) : LL_flanges (LL_set_volume q v) = LL_flanges q := rfl
theorem LL_volume_set_volume (q : LL) (v : Nat → Int32) : LL_volume (LL_set_volume q v) = v := rfl
theorem LL_firstOutgassing_set_volume (q : LL) (v : Nat → Int32) : LL_firstOutgassing (LL_set_volume q v) = LL_firstOutgassing q := rfl
theorem LL_decay_set_volume (q : LL) (v : Nat → Int32) : LL_decay (LL_set_volume q v) = LL_decay q := rfl
theorem LL_pumpChamber_set_volume (q : LL) (v : Nat → Int32) : LL_pumpChamber (LL_set_volume q v) = LL_pumpChamber q := rfl
theorem LL_exhaust_set_volume (q : LL) (v : Nat → Int32) : LL_exhaust (LL_set_volume q v) = LL_exhaust q := rfl
theorem LL_speed_set_volume (q : LL) (v : Nat → Int32) : LL_speed (LL_set_volume q v) = LL_speed q := rfl
theorem LL_low_set_volume (q : LL) (v : Nat → Int32) : LL_low (LL_set_volume q v) = LL_low q := rfl
theorem LL_high_set_volume (q : LL) (v : Nat → Int32) : LL_high (LL_set_volume q v) = LL_high q := rfl
theorem LL_backing_set_volume (q : LL) (v : Nat → Int32) : LL_backing (LL_set_volume q v) = LL_backing q := rfl
theorem LL_valveChamber_set_volume (q : LL) (v : Nat → Int32) : LL_valveChamber (LL_set_volume q v) = LL_valveChamber q := rfl
theorem LL_otherSide_set_volume (q : LL) (v : Nat → Int32) : LL_otherSide (LL_set_volume q v) = LL_otherSide q := rfl
theorem LL_conductance_set_volume (q : LL) (v : Nat → Int32) : LL_conductance (LL_set_volume q v) = LL_conductance q := rfl
theorem LL_firstRule_set_volume (q : LL) (v : Nat → Int32) : LL_firstRule (LL_set_volume q v) = LL_firstRule q := rfl
theorem LL_flangeChamber_set_volume (q : LL) (v : Nat → Int32) : LL_flangeChamber (LL_set_volume q v) = LL_flangeChamber q := rfl
theorem LL_firstLeak_set_volume (q : LL) (v : Nat → Int32) : LL_firstLeak (LL_set_volume q v) = LL_firstLeak q := rfl
theorem LL_chambers_set_firstOutgassing (q : LL) (v : Nat → Int32) : LL_chambers (LL_set_firstOutgassing q v) = LL_chambers q := rfl
theorem LL_pumps_set_firstOutgassing (q : LL) (v : Nat → Int32) : LL_pumps (LL_set_firstOutgassing q v) = LL_pumps q := rfl
theorem LL_valves_set_firstOutgassing (q : LL) (v : Nat → Int32) : LL_valves (LL_set_firstOutgassing q v) = LL_valves q := rfl
theorem LL_flanges_set_firstOutgassing (q : LL) (v : Nat → Int32) : LL_flanges (LL_set_firstOutgassing q v) = LL_flanges q := rfl
theorem LL_volume_set_firstOutgassing (q : LL) (v : Nat → Int32) : LL_volume (LL_set_firstOutgassing q v) = LL_volume q := rfl
theorem LL_firstOutgassing_set_firstOutgassing (q : LL) (v : Nat → Int32) : LL_firstOutgassing (LL_set_firstOutgassing q v) = v := rfl
theorem LL_decay_set_firstOutgassing (q : LL) (v : Nat → Int32) : LL_decay (LL_set_firstOutgassing q v) = LL_decay q := rfl
theorem LL_pumpChamber_set_firstOutgassing (q : LL) (v : Nat → Int32) : LL_pumpChamber (LL_set_firstOutgassing q v) = LL_pumpChamber q := rfl
theorem LL_exhaust_set_firstOutgassing (q : LL) (v : Nat → Int32) : LL_exhaust (LL_set_firstOutgassing q v) = LL_exhaust q := rfl
theorem LL_speed_set_firstOutgassing (q : LL) (v : Nat → Int32) : LL_speed (LL_set_firstOutgassing q v) = LL_speed q := rfl
theorem LL_low_set_firstOutgassing (q : LL) (v : Nat → Int32) : LL_low (LL_set_firstOutgassing q v) = LL_low q := rfl
theorem LL_high_set_firstOutgassing (q : LL) (v : Nat → Int32) : LL_high (LL_set_firstOutgassing q v) = LL_high q := rfl
theorem LL_backing_set_firstOutgassing (q : LL) (v : Nat → Int32) : LL_backing (LL_set_firstOutgassing q v) = LL_backing q := rfl
theorem LL_valveChamber_set_firstOutgassing (q : LL) (v : Nat → Int32) : LL_valveChamber (LL_set_firstOutgassing q v) = LL_valveChamber q := rfl
theorem LL_otherSide_set_firstOutgassing (q : LL) (v : Nat → Int32) : LL_otherSide (LL_set_firstOutgassing q v) = LL_otherSide q := rfl
theorem LL_conductance_set_firstOutgassing (q : LL) (v : Nat → Int32) : LL_conductance (LL_set_firstOutgassing q v) = LL_conductance q := rfl
theorem LL_firstRule_set_firstOutgassing (q : LL) (v : Nat → Int32) : LL_firstRule (LL_set_firstOutgassing q v) = LL_firstRule q := rfl
theorem LL_flangeChamber_set_firstOutgassing (q : LL) (v : Nat → Int32) : LL_flangeChamber (LL_set_firstOutgassing q v) = LL_flangeChamber q := rfl
theorem LL_firstLeak_set_firstOutgassing (q : LL) (v : Nat → Int32) : LL_firstLeak (LL_set_firstOutgassing q v) = LL_firstLeak q := rfl
theorem LL_chambers_set_decay (q : LL) (v : Nat → Int32) : LL_chambers (LL_set_decay q v) = LL_chambers q := rfl
theorem LL_pumps_set_decay (q : LL) (v : Nat → Int32) : LL_pumps (LL_set_decay q v) = LL_pumps q := rfl
theorem LL_valves_set_decay (q : LL) (v : Nat → Int32) : LL_valves (LL_set_decay q v) = LL_valves q := rfl
theorem LL_flanges_set_decay (q : LL) (v : Nat → Int32) : LL_flanges (LL_set_decay q v) = LL_flanges q := rfl
theorem LL_volume_set_decay (q : LL) (v : Nat → Int32) : LL_volume (LL_set_decay q v) = LL_volume q := rfl
theorem LL_firstOutgassing_set_decay (q : LL) (v : Nat → Int32) : LL_firstOutgassing (LL_set_decay q v) = LL_firstOutgassing q := rfl
theorem LL_decay_set_decay (q : LL) (v : Nat → Int32) : LL_decay (LL_set_decay q v) = v := rfl
theorem LL_pumpChamber_set_decay (q : LL) (v : Nat → Int32) : LL_pumpChamber (LL_set_decay q v) = LL_pumpChamber q := rfl
theorem LL_exhaust_set_decay (q : LL) (v : Nat → Int32) : LL_exhaust (LL_set_decay q v) = LL_exhaust q := rfl
theorem LL_speed_set_decay (q : LL) (v : Nat → Int32) : LL_speed (LL_set_decay q v) = LL_speed q := rfl
theorem LL_low_set_decay (q : LL) (v : Nat → Int32) : LL_low (LL_set_decay q v) = LL_low q := rfl
theorem LL_high_set_decay (q : LL) (v : Nat → Int32) : LL_high (LL_set_decay q v) = LL_high q := rfl
theorem LL_backing_set_decay (q : LL) (v : Nat → Int32) : LL_backing (LL_set_decay q v) = LL_backing q := rfl
theorem LL_valveChamber_set_decay (q : LL) (v : Nat → Int32) : LL_valveChamber (LL_set_decay q v) = LL_valveChamber q := rfl
theorem LL_otherSide_set_decay (q : LL) (v : Nat → Int32) : LL_otherSide (LL_set_decay q v) = LL_otherSide q := rfl
theorem LL_conductance_set_decay (q : LL) (v : Nat → Int32) : LL_conductance (LL_set_decay q v) = LL_conductance q := rfl
theorem LL_firstRule_set_decay (q : LL) (v : Nat → Int32) : LL_firstRule (LL_set_decay q v) = LL_firstRule q := rfl
theorem LL_flangeChamber_set_decay (q : LL) (v : Nat → Int32) : LL_flangeChamber (LL_set_decay q v) = LL_flangeChamber q := rfl
theorem LL_firstLeak_set_decay (q : LL) (v : Nat → Int32) : LL_firstLeak (LL_set_decay q v) = LL_firstLeak q := rfl
theorem LL_chambers_set_pumpChamber (q : LL) (v : Nat → Int32) : LL_chambers (LL_set_pumpChamber q v) = LL_chambers q := rfl
theorem LL_pumps_set_pumpChamber (q : LL) (v : Nat → Int32) : LL_pumps (LL_set_pumpChamber q v) = LL_pumps q := rfl
theorem LL_valves_set_pumpChamber (q : LL) (v : Nat → Int32) : LL_valves (LL_set_pumpChamber q v) = LL_valves q := rfl
theorem LL_flanges_set_pumpChamber (q : LL) (v : Nat → Int32) : LL_flanges (LL_set_pumpChamber q v) = LL_flanges q := rfl
theorem LL_volume_set_pumpChamber (q : LL) (v : Nat → Int32) : LL_volume (LL_set_pumpChamber q v) = LL_volume q := rfl
theorem LL_firstOutgassing_set_pumpChamber (q : LL) (v : Nat → Int32) : LL_firstOutgassing (LL_set_pumpChamber q v) = LL_firstOutgassing q := rfl
theorem LL_decay_set_pumpChamber (q : LL) (v : Nat → Int32) : LL_decay (LL_set_pumpChamber q v) = LL_decay q := rfl
theorem LL_pumpChamber_set_pumpChamber (q : LL) (v : Nat → Int32) : LL_pumpChamber (LL_set_pumpChamber q v) = v := rfl
theorem LL_exhaust_set_pumpChamber (q : LL) (v : Nat → Int32) : LL_exhaust (LL_set_pumpChamber q v) = LL_exhaust q := rfl
theorem LL_speed_set_pumpChamber (q : LL) (v : Nat → Int32) : LL_speed (LL_set_pumpChamber q v) = LL_speed q := rfl
theorem LL_low_set_pumpChamber (q : LL) (v : Nat → Int32) : LL_low (LL_set_pumpChamber q v) = LL_low q := rfl
theorem LL_high_set_pumpChamber (q : LL) (v : Nat → Int32) : LL_high (LL_set_pumpChamber q v) = LL_high q := rfl
theorem LL_backing_set_pumpChamber (q : LL) (v : Nat → Int32) : LL_backing (LL_set_pumpChamber q v) = LL_backing q := rfl
theorem LL_valveChamber_set_pumpChamber (q : LL) (v : Nat → Int32) : LL_valveChamber (LL_set_pumpChamber q v) = LL_valveChamber q := rfl
theorem LL_otherSide_set_pumpChamber (q : LL) (v : Nat → Int32) : LL_otherSide (LL_set_pumpChamber q v) = LL_otherSide q := rfl
theorem LL_conductance_set_pumpChamber (q : LL) (v : Nat → Int32) : LL_conductance (LL_set_pumpChamber q v) = LL_conductance q := rfl
theorem LL_firstRule_set_pumpChamber (q : LL) (v : Nat → Int32) : LL_firstRule (LL_set_pumpChamber q v) = LL_firstRule q := rfl
theorem LL_flangeChamber_set_pumpChamber (q : LL) (v : Nat → Int32) : LL_flangeChamber (LL_set_pumpChamber q v) = LL_flangeChamber q := rfl
theorem LL_firstLeak_set_pumpChamber (q : LL) (v : Nat → Int32) : LL_firstLeak (LL_set_pumpChamber q v) = LL_firstLeak q := rfl
theorem LL_chambers_set_exhaust (q : LL) (v : Nat → Int32) : LL_chambers (LL_set_exhaust q v) = LL_chambers q := rfl
theorem LL_pumps_set_exhaust (q : LL) (v : Nat → Int32) : LL_pumps (LL_set_exhaust q v) = LL_pumps q := rfl
theorem LL_valves_set_exhaust (q : LL) (v : Nat → Int32) : LL_valves (LL_set_exhaust q v) = LL_valves q := rfl
theorem LL_flanges_set_exhaust (q : LL) (v : Nat → Int32) : LL_flanges (LL_set_exhaust q v) = LL_flanges q := rfl
theorem LL_volume_set_exhaust (q : LL) (v : Nat → Int32) : LL_volume (LL_set_exhaust q v) = LL_volume q := rfl
theorem LL_firstOutgassing_set_exhaust (q : LL) (v : Nat → Int32) : LL_firstOutgassing (LL_set_exhaust q v) = LL_firstOutgassing q := rfl
theorem LL_decay_set_exhaust (q : LL) (v : Nat → Int32) : LL_decay (LL_set_exhaust q v) = LL_decay q := rfl
theorem LL_pumpChamber_set_exhaust (q : LL) (v : Nat → Int32) : LL_pumpChamber (LL_set_exhaust q v) = LL_pumpChamber q := rfl
theorem LL_exhaust_set_exhaust (q : LL) (v : Nat → Int32) : LL_exhaust (LL_set_exhaust q v) = v := rfl
theorem LL_speed_set_exhaust (q : LL) (v : Nat → Int32) : LL_speed (LL_set_exhaust q v) = LL_speed q := rfl
theorem LL_low_set_exhaust (q : LL) (v : Nat → Int32) : LL_low (LL_set_exhaust q v) = LL_low q := rfl
theorem LL_high_set_exhaust (q : LL) (v : Nat → Int32) : LL_high (LL_set_exhaust q v) = LL_high q := rfl
theorem LL_backing_set_exhaust (q : LL) (v : Nat → Int32) : LL_backing (LL_set_exhaust q v) = LL_backing q := rfl
theorem LL_valveChamber_set_exhaust (q : LL) (v : Nat → Int32) : LL_valveChamber (LL_set_exhaust q v) = LL_valveChamber q := rfl
theorem LL_otherSide_set_exhaust (q : LL) (v : Nat → Int32) : LL_otherSide (LL_set_exhaust q v) = LL_otherSide q := rfl
theorem LL_conductance_set_exhaust (q : LL) (v : Nat → Int32) : LL_conductance (LL_set_exhaust q v) = LL_conductance q := rfl
theorem LL_firstRule_set_exhaust (q : LL) (v : Nat → Int32) : LL_firstRule (LL_set_exhaust q v) = LL_firstRule q := rfl
theorem LL_flangeChamber_set_exhaust (q : LL) (v : Nat → Int32) : LL_flangeChamber (LL_set_exhaust q v) = LL_flangeChamber q := rfl
theorem LL_firstLeak_set_exhaust (q : LL) (v : Nat → Int32) : LL_firstLeak (LL_set_exhaust q v) = LL_firstLeak q := rfl
theorem LL_chambers_set_speed (q : LL) (v : Nat → Int32) : LL_chambers (LL_set_speed q v) = LL_chambers q := rfl
theorem LL_pumps_set_speed (q : LL) (v : Nat → Int32) : LL_pumps (LL_set_speed q v) = LL_pumps q := rfl
theorem LL_valves_set_speed (q : LL) (v : Nat → Int32) : LL_valves (LL_set_speed q v) = LL_valves q := rfl
theorem LL_flanges_set_speed (q : LL) (v : Nat → Int32) : LL_flanges (LL_set_speed q v) = LL_flanges q := rfl
theorem LL_volume_set_speed (q : LL) (v : Nat → Int32) : LL_volume (LL_set_speed q v) = LL_volume q := rfl
theorem LL_firstOutgassing_set_speed (q : LL) (v : Nat → Int32) : LL_firstOutgassing (LL_set_speed q v) = LL_firstOutgassing q := rfl
theorem LL_decay_set_speed (q : LL) (v : Nat → Int32) : LL_decay (LL_set_speed q v) = LL_decay q := rfl
theorem LL_pumpChamber_set_speed (q : LL) (v : Nat → Int32) : LL_pumpChamber (LL_set_speed q v) = LL_pumpChamber q := rfl
theorem LL_exhaust_set_speed (q : LL) (v : Nat → Int32) : LL_exhaust (LL_set_speed q v) = LL_exhaust q := rfl
theorem LL_speed_set_speed (q : LL) (v : Nat → Int32) : LL_speed (LL_set_speed q v) = v := rfl
theorem LL_low_set_speed (q : LL) (v : Nat → Int32) : LL_low (LL_set_speed q v) = LL_low q := rfl
theorem LL_high_set_speed (q : LL) (v : Nat → Int32) : LL_high (LL_set_speed q v) = LL_high q := rfl
theorem LL_backing_set_speed (q : LL) (v : Nat → Int32) : LL_backing (LL_set_speed q v) = LL_backing q := rfl
theorem LL_valveChamber_set_speed (q : LL) (v : Nat → Int32) : LL_valveChamber (LL_set_speed q v) = LL_valveChamber q := rfl
theorem LL_otherSide_set_speed (q : LL) (v : Nat → Int32) : LL_otherSide (LL_set_speed q v) = LL_otherSide q := rfl
theorem LL_conductance_set_speed (q : LL) (v : Nat → Int32) : LL_conductance (LL_set_speed q v) = LL_conductance q := rfl
theorem LL_firstRule_set_speed (q : LL) (v : Nat → Int32) : LL_firstRule (LL_set_speed q v) = LL_firstRule q := rfl
theorem LL_flangeChamber_set_speed (q : LL) (v : Nat → Int32) : LL_flangeChamber (LL_set_speed q v) = LL_flangeChamber q := rfl
theorem LL_firstLeak_set_speed (q : LL) (v : Nat → Int32) : LL_firstLeak (LL_set_speed q v) = LL_firstLeak q := rfl
theorem LL_chambers_set_low (q : LL) (v : Nat → Int32) : LL_chambers (LL_set_low q v) = LL_chambers q := rfl
theorem LL_pumps_set_low (q : LL) (v : Nat → Int32) : LL_pumps (LL_set_low q v) = LL_pumps q := rfl
theorem LL_valves_set_low (q : LL) (v : Nat → Int32) : LL_valves (LL_set_low q v) = LL_valves q := rfl
theorem LL_flanges_set_low (q : LL) (v : Nat → Int32) : LL_flanges (LL_set_low q v) = LL_flanges q := rfl
theorem LL_volume_set_low (q : LL) (v : Nat → Int32) : LL_volume (LL_set_low q v) = LL_volume q := rfl
theorem LL_firstOutgassing_set_low (q : LL) (v : Nat → Int32) : LL_firstOutgassing (LL_set_low q v) = LL_firstOutgassing q := rfl
theorem LL_decay_set_low (q : LL) (v : Nat → Int32) : LL_decay (LL_set_low q v) = LL_decay q := rfl
theorem LL_pumpChamber_set_low (q : LL) (v : Nat → Int32) : LL_pumpChamber (LL_set_low q v) = LL_pumpChamber q := rfl
theorem LL_exhaust_set_low (q : LL) (v : Nat → Int32) : LL_exhaust (LL_set_low q v) = LL_exhaust q := rfl
theorem LL_speed_set_low (q : LL) (v : Nat → Int32) : LL_speed (LL_set_low q v) = LL_speed q := rfl
theorem LL_low_set_low (q : LL) (v : Nat → Int32) : LL_low (LL_set_low q v) = v := rfl
theorem LL_high_set_low (q : LL) (v : Nat → Int32) : LL_high (LL_set_low q v) = LL_high q := rfl
theorem LL_backing_set_low (q : LL) (v : Nat → Int32) : LL_backing (LL_set_low q v) = LL_backing q := rfl
theorem LL_valveChamber_set_low (q : LL) (v : Nat → Int32) : LL_valveChamber (LL_set_low q v) = LL_valveChamber q := rfl
theorem LL_otherSide_set_low (q : LL) (v : Nat → Int32) : LL_otherSide (LL_set_low q v) = LL_otherSide q := rfl
theorem LL_conductance_set_low (q : LL) (v : Nat → Int32) : LL_conductance (LL_set_low q v) = LL_conductance q := rfl
theorem LL_firstRule_set_low (q : LL) (v : Nat → Int32) : LL_firstRule (LL_set_low q v) = LL_firstRule q := rfl
theorem LL_flangeChamber_set_low (q : LL) (v : Nat → Int32) : LL_flangeChamber (LL_set_low q v) = LL_flangeChamber q := rfl
theorem LL_firstLeak_set_low (q : LL) (v : Nat → Int32) : LL_firstLeak (LL_set_low q v) = LL_firstLeak q := rfl
theorem LL_chambers_set_high (q : LL) (v : Nat → Int32) : LL_chambers (LL_set_high q v) = LL_chambers q := rfl
theorem LL_pumps_set_high (q : LL) (v : Nat → Int32) : LL_pumps (LL_set_high q v) = LL_pumps q := rfl
theorem LL_valves_set_high (q : LL) (v : Nat → Int32) : LL_valves (LL_set_high q v) = LL_valves q := rfl
theorem LL_flanges_set_high (q : LL) (v : Nat → Int32) : LL_flanges (LL_set_high q v) = LL_flanges q := rfl
theorem LL_volume_set_high (q : LL) (v : Nat → Int32) : LL_volume (LL_set_high q v) = LL_volume q := rfl
theorem LL_firstOutgassing_set_high (q : LL) (v : Nat → Int32) : LL_firstOutgassing (LL_set_high q v) = LL_firstOutgassing q := rfl
theorem LL_decay_set_high (q : LL) (v : Nat → Int32) : LL_decay (LL_set_high q v) = LL_decay q := rfl
theorem LL_pumpChamber_set_high (q : LL) (v : Nat → Int32) : LL_pumpChamber (LL_set_high q v) = LL_pumpChamber q := rfl
theorem LL_exhaust_set_high (q : LL) (v : Nat → Int32) : LL_exhaust (LL_set_high q v) = LL_exhaust q := rfl
theorem LL_speed_set_high (q : LL) (v : Nat → Int32) : LL_speed (LL_set_high q v) = LL_speed q := rfl
theorem LL_low_set_high (q : LL) (v : Nat → Int32) : LL_low (LL_set_high q v) = LL_low q := rfl
theorem LL_high_set_high (q : LL) (v : Nat → Int32) : LL_high (LL_set_high q v) = v := rfl
theorem LL_backing_set_high (q : LL) (v : Nat → Int32) : LL_backing (LL_set_high q v) = LL_backing q := rfl
theorem LL_valveChamber_set_high (q : LL) (v : Nat → Int32) : LL_valveChamber (LL_set_high q v) = LL_valveChamber q := rfl
theorem LL_otherSide_set_high (q : LL) (v : Nat → Int32) : LL_otherSide (LL_set_high q v) = LL_otherSide q := rfl
theorem LL_conductance_set_high (q : LL) (v : Nat → Int32) : LL_conductance (LL_set_high q v) = LL_conductance q := rfl
theorem LL_firstRule_set_high (q : LL) (v : Nat → Int32) : LL_firstRule (LL_set_high q v) = LL_firstRule q := rfl
theorem LL_flangeChamber_set_high (q : LL) (v : Nat → Int32) : LL_flangeChamber (LL_set_high q v) = LL_flangeChamber q := rfl
theorem LL_firstLeak_set_high (q : LL) (v : Nat → Int32) : LL_firstLeak (LL_set_high q v) = LL_firstLeak q := rfl
theorem LL_chambers_set_backing (q : LL) (v : Nat → Int32) : LL_chambers (LL_set_backing q v) = LL_chambers q := rfl
theorem LL_pumps_set_backing (q : LL) (v : Nat → Int32) : LL_pumps (LL_set_backing q v) = LL_pumps q := rfl
theorem LL_valves_set_backing (q : LL) (v : Nat → Int32) : LL_valves (LL_set_backing q v) = LL_valves q := rfl
theorem LL_flanges_set_backing (q : LL) (v : Nat → Int32) : LL_flanges (LL_set_backing q v) = LL_flanges q := rfl
theorem LL_volume_set_backing (q : LL) (v : Nat → Int32) : LL_volume (LL_set_backing q v) = LL_volume q := rfl
theorem LL_firstOutgassing_set_backing (q : LL) (v : Nat → Int32) : LL_firstOutgassing (LL_set_backing q v) = LL_firstOutgassing q := rfl
theorem LL_decay_set_backing (q : LL) (v : Nat → Int32) : LL_decay (LL_set_backing q v) = LL_decay q := rfl
theorem LL_pumpChamber_set_backing (q : LL) (v : Nat → Int32) : LL_pumpChamber (LL_set_backing q v) = LL_pumpChamber q := rfl
theorem LL_exhaust_set_backing (q : LL) (v : Nat → Int32) : LL_exhaust (LL_set_backing q v) = LL_exhaust q := rfl
theorem LL_speed_set_backing (q : LL) (v : Nat → Int32) : LL_speed (LL_set_backing q v) = LL_speed q := rfl
theorem LL_low_set_backing (q : LL) (v : Nat → Int32) : LL_low (LL_set_backing q v) = LL_low q := rfl
theorem LL_high_set_backing (q : LL) (v : Nat → Int32) : LL_high (LL_set_backing q v) = LL_high q := rfl
theorem LL_backing_set_backing (q : LL) (v : Nat → Int32) : LL_backing (LL_set_backing q v) = v := rfl
theorem LL_valveChamber_set_backing (q : LL) (v : Nat → Int32) : LL_valveChamber (LL_set_backing q v) = LL_valveChamber q := rfl
theorem LL_otherSide_set_backing (q : LL) (v : Nat → Int32) : LL_otherSide (LL_set_backing q v) = LL_otherSide q := rfl
theorem LL_conductance_set_backing (q : LL) (v : Nat → Int32) : LL_conductance (LL_set_backing q v) = LL_conductance q := rfl
theorem LL_firstRule_set_backing (q : LL) (v : Nat → Int32) : LL_firstRule (LL_set_backing q v) = LL_firstRule q := rfl
theorem LL_flangeChamber_set_backing (q : LL) (v : Nat → Int32) : LL_flangeChamber (LL_set_backing q v) = LL_flangeChamber q := rfl
theorem LL_firstLeak_set_backing (q : LL) (v : Nat → Int32) : LL_firstLeak (LL_set_backing q v) = LL_firstLeak q := rfl
theorem LL_chambers_set_valveChamber (q : LL) (v : Nat → Int32) : LL_chambers (LL_set_valveChamber q v) = LL_chambers q := rfl
theorem LL_pumps_set_valveChamber (q : LL) (v : Nat → Int32) : LL_pumps (LL_set_valveChamber q v) = LL_pumps q := rfl
theorem LL_valves_set_valveChamber (q : LL) (v : Nat → Int32) : LL_valves (LL_set_valveChamber q v) = LL_valves q := rfl
theorem LL_flanges_set_valveChamber (q : LL) (v : Nat → Int32) : LL_flanges (LL_set_valveChamber q v) = LL_flanges q := rfl
theorem LL_volume_set_valveChamber (q : LL) (v : Nat → Int32) : LL_volume (LL_set_valveChamber q v) = LL_volume q := rfl
theorem LL_firstOutgassing_set_valveChamber (q : LL) (v : Nat → Int32) : LL_firstOutgassing (LL_set_valveChamber q v) = LL_firstOutgassing q := rfl
theorem LL_decay_set_valveChamber (q : LL) (v : Nat → Int32) : LL_decay (LL_set_valveChamber q v) = LL_decay q := rfl
theorem LL_pumpChamber_set_valveChamber (q : LL) (v : Nat → Int32) : LL_pumpChamber (LL_set_valveChamber q v) = LL_pumpChamber q := rfl
theorem LL_exhaust_set_valveChamber (q : LL) (v : Nat → Int32) : LL_exhaust (LL_set_valveChamber q v) = LL_exhaust q := rfl
theorem LL_speed_set_valveChamber (q : LL) (v : Nat → Int32) : LL_speed (LL_set_valveChamber q v) = LL_speed q := rfl
theorem LL_low_set_valveChamber (q : LL) (v : Nat → Int32) : LL_low (LL_set_valveChamber q v) = LL_low q := rfl
theorem LL_high_set_valveChamber (q : LL) (v : Nat → Int32) : LL_high (LL_set_valveChamber q v) = LL_high q := rfl
theorem LL_backing_set_valveChamber (q : LL) (v : Nat → Int32) : LL_backing (LL_set_valveChamber q v) = LL_backing q := rfl
theorem LL_valveChamber_set_valveChamber (q : LL) (v : Nat → Int32) : LL_valveChamber (LL_set_valveChamber q v) = v := rfl
theorem LL_otherSide_set_valveChamber (q : LL) (v : Nat → Int32) : LL_otherSide (LL_set_valveChamber q v) = LL_otherSide q := rfl
theorem LL_conductance_set_valveChamber (q : LL) (v : Nat → Int32) : LL_conductance (LL_set_valveChamber q v) = LL_conductance q := rfl
theorem LL_firstRule_set_valveChamber (q : LL) (v : Nat → Int32) : LL_firstRule (LL_set_valveChamber q v) = LL_firstRule q := rfl
theorem LL_flangeChamber_set_valveChamber (q : LL) (v : Nat → Int32) : LL_flangeChamber (LL_set_valveChamber q v) = LL_flangeChamber q := rfl
theorem LL_firstLeak_set_valveChamber (q : LL) (v : Nat → Int32) : LL_firstLeak (LL_set_valveChamber q v) = LL_firstLeak q := rfl
theorem LL_chambers_set_otherSide (q : LL) (v : Nat → Int32) : LL_chambers (LL_set_otherSide q v) = LL_chambers q := rfl
theorem LL_pumps_set_otherSide (q : LL) (v : Nat → Int32) : LL_pumps (LL_set_otherSide q v) = LL_pumps q := rfl
theorem LL_valves_set_otherSide (q : LL) (v : Nat → Int32) : LL_valves (LL_set_otherSide q v) = LL_valves q := rfl
theorem LL_flanges_set_otherSide (q : LL) (v : Nat → Int32) : LL_flanges (LL_set_otherSide q v) = LL_flanges q := rfl
theorem LL_volume_set_otherSide (q : LL) (v : Nat → Int32) : LL_volume (LL_set_otherSide q v) = LL_volume q := rfl
theorem LL_firstOutgassing_set_otherSide (q : LL) (v : Nat → Int32) : LL_firstOutgassing (LL_set_otherSide q v) = LL_firstOutgassing q := rfl
theorem LL_decay_set_otherSide (q : LL) (v : Nat → Int32) : LL_decay (LL_set_otherSide q v) = LL_decay q := rfl
theorem LL_pumpChamber_set_otherSide (q : LL) (v : Nat → Int32) : LL_pumpChamber (LL_set_otherSide q v) = LL_pumpChamber q := rfl
theorem LL_exhaust_set_otherSide (q : LL) (v : Nat → Int32) : LL_exhaust (LL_set_otherSide q v) = LL_exhaust q := rfl
theorem LL_speed_set_otherSide (q : LL) (v : Nat → Int32) : LL_speed (LL_set_otherSide q v) = LL_speed q := rfl
theorem LL_low_set_otherSide (q : LL) (v : Nat → Int32) : LL_low (LL_set_otherSide q v) = LL_low q := rfl
theorem LL_high_set_otherSide (q : LL) (v : Nat → Int32) : LL_high (LL_set_otherSide q v) = LL_high q := rfl
theorem LL_backing_set_otherSide (q : LL) (v : Nat → Int32) : LL_backing (LL_set_otherSide q v) = LL_backing q := rfl
theorem LL_valveChamber_set_otherSide (q : LL) (v : Nat → Int32) : LL_valveChamber (LL_set_otherSide q v) = LL_valveChamber q := rfl
theorem LL_otherSide_set_otherSide (q : LL) (v : Nat → Int32) : LL_otherSide (LL_set_otherSide q v) = v := rfl
theorem LL_conductance_set_otherSide (q : LL) (v : Nat → Int32) : LL_conductance (LL_set_otherSide q v) = LL_conductance q := rfl
theorem LL_firstRule_set_otherSide (q : LL) (v : Nat → Int32) : LL_firstRule (LL_set_otherSide q v) = LL_firstRule q := rfl
theorem LL_flangeChamber_set_otherSide (q : LL) (v : Nat → Int32) : LL_flangeChamber (LL_set_otherSide q v) = LL_flangeChamber q := rfl
theorem LL_firstLeak_set_otherSide (q : LL) (v : Nat → Int32) : LL_firstLeak (LL_set_otherSide q v) = LL_firstLeak q := rfl
theorem LL_chambers_set_conductance (q : LL) (v : Nat → Int32) : LL_chambers (LL_set_conductance q v) = LL_chambers q := rfl
theorem LL_pumps_set_conductance (q : LL) (v : Nat → Int32) : LL_pumps (LL_set_conductance q v) = LL_pumps q := rfl
theorem LL_valves_set_conductance (q : LL) (v : Nat → Int32) : LL_valves (LL_set_conductance q v) = LL_valves q := rfl
theorem LL_flanges_set_conductance (q : LL) (v : Nat → Int32) : LL_flanges (LL_set_conductance q v) = LL_flanges q := rfl
theorem LL_volume_set_conductance (q : LL) (v : Nat → Int32) : LL_volume (LL_set_conductance q v) = LL_volume q := rfl
theorem LL_firstOutgassing_set_conductance (q : LL) (v : Nat → Int32) : LL_firstOutgassing (LL_set_conductance q v) = LL_firstOutgassing q := rfl
theorem LL_decay_set_conductance (q : LL) (v : Nat → Int32) : LL_decay (LL_set_conductance q v) = LL_decay q := rfl
theorem LL_pumpChamber_set_conductance (q : LL) (v : Nat → Int32) : LL_pumpChamber (LL_set_conductance q v) = LL_pumpChamber q := rfl
theorem LL_exhaust_set_conductance (q : LL) (v : Nat → Int32) : LL_exhaust (LL_set_conductance q v) = LL_exhaust q := rfl
theorem LL_speed_set_conductance (q : LL) (v : Nat → Int32) : LL_speed (LL_set_conductance q v) = LL_speed q := rfl
theorem LL_low_set_conductance (q : LL) (v : Nat → Int32) : LL_low (LL_set_conductance q v) = LL_low q := rfl
theorem LL_high_set_conductance (q : LL) (v : Nat → Int32) : LL_high (LL_set_conductance q v) = LL_high q := rfl
theorem LL_backing_set_conductance (q : LL) (v : Nat → Int32) : LL_backing (LL_set_conductance q v) = LL_backing q := rfl
theorem LL_valveChamber_set_conductance (q : LL) (v : Nat → Int32) : LL_valveChamber (LL_set_conductance q v) = LL_valveChamber q := rfl
theorem LL_otherSide_set_conductance (q : LL) (v : Nat → Int32) : LL_otherSide (LL_set_conductance q v) = LL_otherSide q := rfl
theorem LL_conductance_set_conductance (q : LL) (v : Nat → Int32) : LL_conductance (LL_set_conductance q v) = v := rfl
theorem LL_firstRule_set_conductance (q : LL) (v : Nat → Int32) : LL_firstRule (LL_set_conductance q v) = LL_firstRule q := rfl
theorem LL_flangeChamber_set_conductance (q : LL) (v : Nat → Int32) : LL_flangeChamber (LL_set_conductance q v) = LL_flangeChamber q := rfl
theorem LL_firstLeak_set_conductance (q : LL) (v : Nat → Int32) : LL_firstLeak (LL_set_conductance q v) = LL_firstLeak q := rfl
theorem LL_chambers_set_firstRule (q : LL) (v : Nat → Int32) : LL_chambers (LL_set_firstRule q v) = LL_chambers q := rfl
theorem LL_pumps_set_firstRule (q : LL) (v : Nat → Int32) : LL_pumps (LL_set_firstRule q v) = LL_pumps q := rfl
theorem LL_valves_set_firstRule (q : LL) (v : Nat → Int32) : LL_valves (LL_set_firstRule q v) = LL_valves q := rfl
theorem LL_flanges_set_firstRule (q : LL) (v : Nat → Int32) : LL_flanges (LL_set_firstRule q v) = LL_flanges q := rfl
theorem LL_volume_set_firstRule (q : LL) (v : Nat → Int32) : LL_volume (LL_set_firstRule q v) = LL_volume q := rfl
theorem LL_firstOutgassing_set_firstRule (q : LL) (v : Nat → Int32) : LL_firstOutgassing (LL_set_firstRule q v) = LL_firstOutgassing q := rfl
theorem LL_decay_set_firstRule (q : LL) (v : Nat → Int32) : LL_decay (LL_set_firstRule q v) = LL_decay q := rfl
theorem LL_pumpChamber_set_firstRule (q : LL) (v : Nat → Int32) : LL_pumpChamber (LL_set_firstRule q v) = LL_pumpChamber q := rfl
theorem LL_exhaust_set_firstRule (q : LL) (v : Nat → Int32) : LL_exhaust (LL_set_firstRule q v) = LL_exhaust q := rfl
theorem LL_speed_set_firstRule (q : LL) (v : Nat → Int32) : LL_speed (LL_set_firstRule q v) = LL_speed q := rfl
theorem LL_low_set_firstRule (q : LL) (v : Nat → Int32) : LL_low (LL_set_firstRule q v) = LL_low q := rfl
theorem LL_high_set_firstRule (q : LL) (v : Nat → Int32) : LL_high (LL_set_firstRule q v) = LL_high q := rfl
theorem LL_backing_set_firstRule (q : LL) (v : Nat → Int32) : LL_backing (LL_set_firstRule q v) = LL_backing q := rfl
theorem LL_valveChamber_set_firstRule (q : LL) (v : Nat → Int32) : LL_valveChamber (LL_set_firstRule q v) = LL_valveChamber q := rfl
theorem LL_otherSide_set_firstRule (q : LL) (v : Nat → Int32) : LL_otherSide (LL_set_firstRule q v) = LL_otherSide q := rfl
theorem LL_conductance_set_firstRule (q : LL) (v : Nat → Int32) : LL_conductance (LL_set_firstRule q v) = LL_conductance q := rfl
theorem LL_firstRule_set_firstRule (q : LL) (v : Nat → Int32) : LL_firstRule (LL_set_firstRule q v) = v := rfl
theorem LL_flangeChamber_set_firstRule (q : LL) (v : Nat → Int32) : LL_flangeChamber (LL_set_firstRule q v) = LL_flangeChamber q := rfl
theorem LL_firstLeak_set_firstRule (q : LL) (v : Nat → Int32) : LL_firstLeak (LL_set_firstRule q v) = LL_firstLeak q := rfl
theorem LL_chambers_set_flangeChamber (q : LL) (v : Nat → Int32) : LL_chambers (LL_set_flangeChamber q v) = LL_chambers q := rfl
theorem LL_pumps_set_flangeChamber (q : LL) (v : Nat → Int32) : LL_pumps (LL_set_flangeChamber q v) = LL_pumps q := rfl
theorem LL_valves_set_flangeChamber (q : LL) (v : Nat → Int32) : LL_valves (LL_set_flangeChamber q v) = LL_valves q := rfl
theorem LL_flanges_set_flangeChamber (q : LL) (v : Nat → Int32) : LL_flanges (LL_set_flangeChamber q v) = LL_flanges q := rfl
theorem LL_volume_set_flangeChamber (q : LL) (v : Nat → Int32) : LL_volume (LL_set_flangeChamber q v) = LL_volume q := rfl
theorem LL_firstOutgassing_set_flangeChamber (q : LL) (v : Nat → Int32) : LL_firstOutgassing (LL_set_flangeChamber q v) = LL_firstOutgassing q := rfl
theorem LL_decay_set_flangeChamber (q : LL) (v : Nat → Int32) : LL_decay (LL_set_flangeChamber q v) = LL_decay q := rfl
theorem LL_pumpChamber_set_flangeChamber (q : LL) (v : Nat → Int32) : LL_pumpChamber (LL_set_flangeChamber q v) = LL_pumpChamber q := rfl
theorem LL_exhaust_set_flangeChamber (q : LL) (v : Nat → Int32) : LL_exhaust (LL_set_flangeChamber q v) = LL_exhaust q := rfl
theorem LL_speed_set_flangeChamber (q : LL) (v : Nat → Int32) : LL_speed (LL_set_flangeChamber q v) = LL_speed q := rfl
theorem LL_low_set_flangeChamber (q : LL) (v : Nat → Int32) : LL_low (LL_set_flangeChamber q v) = LL_low q := rfl
theorem LL_high_set_flangeChamber (q : LL) (v : Nat → Int32) : LL_high (LL_set_flangeChamber q v) = LL_high q := rfl
theorem LL_backing_set_flangeChamber (q : LL) (v : Nat → Int32) : LL_backing (LL_set_flangeChamber q v) = LL_backing q := rfl
theorem LL_valveChamber_set_flangeChamber (q : LL) (v : Nat → Int32) : LL_valveChamber (LL_set_flangeChamber q v) = LL_valveChamber q := rfl
theorem LL_otherSide_set_flangeChamber (q : LL) (v : Nat → Int32) : LL_otherSide (LL_set_flangeChamber q v) = LL_otherSide q := rfl
theorem LL_conductance_set_flangeChamber (q : LL) (v : Nat → Int32) : LL_conductance (LL_set_flangeChamber q v) = LL_conductance q := rfl
theorem LL_firstRule_set_flangeChamber (q : LL) (v : Nat → Int32) : LL_firstRule (LL_set_flangeChamber q v) = LL_firstRule q := rfl
theorem LL_flangeChamber_set_flangeChamber (q : LL) (v : Nat → Int32) : LL_flangeChamber (LL_set_flangeChamber q v) = v := rfl
theorem LL_firstLeak_set_flangeChamber (q : LL) (v : Nat → Int32) : LL_firstLeak (LL_set_flangeChamber q v) = LL_firstLeak q := rfl
theorem LL_chambers_set_firstLeak (q : LL) (v : Nat → Int32) : LL_chambers (LL_set_firstLeak q v) = LL_chambers q := rfl
theorem LL_pumps_set_firstLeak (q : LL) (v : Nat → Int32) : LL_pumps (LL_set_firstLeak q v) = LL_pumps q := rfl
theorem LL_valves_set_firstLeak (q : LL) (v : Nat → Int32) : LL_valves (LL_set_firstLeak q v) = LL_valves q := rfl
theorem LL_flanges_set_firstLeak (q : LL) (v : Nat → Int32) : LL_flanges (LL_set_firstLeak q v) = LL_flanges q := rfl
theorem LL_volume_set_firstLeak (q : LL) (v : Nat → Int32) : LL_volume (LL_set_firstLeak q v) = LL_volume q := rfl
theorem LL_firstOutgassing_set_firstLeak (q : LL) (v : Nat → Int32) : LL_firstOutgassing (LL_set_firstLeak q v) = LL_firstOutgassing q := rfl
theorem LL_decay_set_firstLeak (q : LL) (v : Nat → Int32) : LL_decay (LL_set_firstLeak q v) = LL_decay q := rfl
theorem LL_pumpChamber_set_firstLeak (q : LL) (v : Nat → Int32) : LL_pumpChamber (LL_set_firstLeak q v) = LL_pumpChamber q := rfl
theorem LL_exhaust_set_firstLeak (q : LL) (v : Nat → Int32) : LL_exhaust (LL_set_firstLeak q v) = LL_exhaust q := rfl
theorem LL_speed_set_firstLeak (q : LL) (v : Nat → Int32) : LL_speed (LL_set_firstLeak q v) = LL_speed q := rfl
theorem LL_low_set_firstLeak (q : LL) (v : Nat → Int32) : LL_low (LL_set_firstLeak q v) = LL_low q := rfl
theorem LL_high_set_firstLeak (q : LL) (v : Nat → Int32) : LL_high (LL_set_firstLeak q v) = LL_high q := rfl
theorem LL_backing_set_firstLeak (q : LL) (v : Nat → Int32) : LL_backing (LL_set_firstLeak q v) = LL_backing q := rfl
theorem LL_valveChamber_set_firstLeak (q : LL) (v : Nat → Int32) : LL_valveChamber (LL_set_firstLeak q v) = LL_valveChamber q := rfl
theorem LL_otherSide_set_firstLeak (q : LL) (v : Nat → Int32) : LL_otherSide (LL_set_firstLeak q v) = LL_otherSide q := rfl
theorem LL_conductance_set_firstLeak (q : LL) (v : Nat → Int32) : LL_conductance (LL_set_firstLeak q v) = LL_conductance q := rfl
theorem LL_firstRule_set_firstLeak (q : LL) (v : Nat → Int32) : LL_firstRule (LL_set_firstLeak q v) = LL_firstRule q := rfl
theorem LL_flangeChamber_set_firstLeak (q : LL) (v : Nat → Int32) : LL_flangeChamber (LL_set_firstLeak q v) = LL_flangeChamber q := rfl
theorem LL_firstLeak_set_firstLeak (q : LL) (v : Nat → Int32) : LL_firstLeak (LL_set_firstLeak q v) = v := rfl
abbrev RC : Type := (Int32) × (Int32)
def RC_first (q : RC) : Int32 := q.1
def RC_second (q : RC) : Int32 := q.2
def RC_set_first (q : RC) (v : Int32) : RC := (v, q.2)
def RC_set_second (q : RC) (v : Int32) : RC := (q.1, v)
theorem RC_first_set_first (q : RC) (v : Int32) : RC_first (RC_set_first q v) = v := rfl
theorem RC_second_set_first (q : RC) (v : Int32) : RC_second (RC_set_first q v) = RC_second q := rfl
theorem RC_first_set_second (q : RC) (v : Int32) : RC_first (RC_set_second q v) = RC_first q := rfl
theorem RC_second_set_second (q : RC) (v : Int32) : RC_second (RC_set_second q v) = v := rfl
abbrev HN : Type := (Nat → Int32) × (Nat → Int32) × (Nat → Int32) × (Int32) × (Int32) × (Int32)
def HN_numbers (q : HN) : Nat → Int32 := q.1
def HN_froms (q : HN) : Nat → Int32 := q.2.1
def HN_sizes (q : HN) : Nat → Int32 := q.2.2.1
def HN_groups (q : HN) : Int32 := q.2.2.2.1
def HN_sprayed (q : HN) : Int32 := q.2.2.2.2.1
def HN_foundSet (q : HN) : Int32 := q.2.2.2.2.2
def HN_set_numbers (q : HN) (v : Nat → Int32) : HN := (v, q.2.1, q.2.2.1, q.2.2.2.1, q.2.2.2.2.1, q.2.2.2.2.2)
def HN_set_froms (q : HN) (v : Nat → Int32) : HN := (q.1, v, q.2.2.1, q.2.2.2.1, q.2.2.2.2.1, q.2.2.2.2.2)
def HN_set_sizes (q : HN) (v : Nat → Int32) : HN := (q.1, q.2.1, v, q.2.2.2.1, q.2.2.2.2.1, q.2.2.2.2.2)
def HN_set_groups (q : HN) (v : Int32) : HN := (q.1, q.2.1, q.2.2.1, v, q.2.2.2.2.1, q.2.2.2.2.2)
def HN_set_sprayed (q : HN) (v : Int32) : HN := (q.1, q.2.1, q.2.2.1, q.2.2.2.1, v, q.2.2.2.2.2)
def HN_set_foundSet (q : HN) (v : Int32) : HN := (q.1, q.2.1, q.2.2.1, q.2.2.2.1, q.2.2.2.2.1, v)
theorem HN_numbers_set_numbers (q : HN) (v : Nat → Int32) : HN_numbers (HN_set_numbers q v) = v := rfl
theorem HN_froms_set_numbers (q : HN) (v : Nat → Int32) : HN_froms (HN_set_numbers q v) = HN_froms q := rfl
theorem HN_sizes_set_numbers (q : HN) (v : Nat → Int32) : HN_sizes (HN_set_numbers q v) = HN_sizes q := rfl
theorem HN_groups_set_numbers (q : HN) (v : Nat → Int32) : HN_groups (HN_set_numbers q v) = HN_groups q := rfl
theorem HN_sprayed_set_numbers (q : HN) (v : Nat → Int32) : HN_sprayed (HN_set_numbers q v) = HN_sprayed q := rfl
theorem HN_foundSet_set_numbers (q : HN) (v : Nat → Int32) : HN_foundSet (HN_set_numbers q v) = HN_foundSet q := rfl
theorem HN_numbers_set_froms (q : HN) (v : Nat → Int32) : HN_numbers (HN_set_froms q v) = HN_numbers q := rfl
theorem HN_froms_set_froms (q : HN) (v : Nat → Int32) : HN_froms (HN_set_froms q v) = v := rfl
theorem HN_sizes_set_froms (q : HN) (v : Nat → Int32) : HN_sizes (HN_set_froms q v) = HN_sizes q := rfl
theorem HN_groups_set_froms (q : HN) (v : Nat → Int32) : HN_groups (HN_set_froms q v) = HN_groups q := rfl
theorem HN_sprayed_set_froms (q : HN) (v : Nat → Int32) : HN_sprayed (HN_set_froms q v) = HN_sprayed q := rfl
theorem HN_foundSet_set_froms (q : HN) (v : Nat → Int32) : HN_foundSet (HN_set_froms q v) = HN_foundSet q := rfl
theorem HN_numbers_set_sizes (q : HN) (v : Nat → Int32) : HN_numbers (HN_set_sizes q v) = HN_numbers q := rfl
theorem HN_froms_set_sizes (q : HN) (v : Nat → Int32) : HN_froms (HN_set_sizes q v) = HN_froms q := rfl
theorem HN_sizes_set_sizes (q : HN) (v : Nat → Int32) : HN_sizes (HN_set_sizes q v) = v := rfl
theorem HN_groups_set_sizes (q : HN) (v : Nat → Int32) : HN_groups (HN_set_sizes q v) = HN_groups q := rfl
theorem HN_sprayed_set_sizes (q : HN) (v : Nat → Int32) : HN_sprayed (HN_set_sizes q v) = HN_sprayed q := rfl
theorem HN_foundSet_set_sizes (q : HN) (v : Nat → Int32) : HN_foundSet (HN_set_sizes q v) = HN_foundSet q := rfl
theorem HN_numbers_set_groups (q : HN) (v : Int32) : HN_numbers (HN_set_groups q v) = HN_numbers q := rfl
theorem HN_froms_set_groups (q : HN) (v : Int32) : HN_froms (HN_set_groups q v) = HN_froms q := rfl
theorem HN_sizes_set_groups (q : HN) (v : Int32) : HN_sizes (HN_set_groups q v) = HN_sizes q := rfl
theorem HN_groups_set_groups (q : HN) (v : Int32) : HN_groups (HN_set_groups q v) = v := rfl
theorem HN_sprayed_set_groups (q : HN) (v : Int32) : HN_sprayed (HN_set_groups q v) = HN_sprayed q := rfl
theorem HN_foundSet_set_groups (q : HN) (v : Int32) : HN_foundSet (HN_set_groups q v) = HN_foundSet q := rfl
theorem HN_numbers_set_sprayed (q : HN) (v : Int32) : HN_numbers (HN_set_sprayed q v) = HN_numbers q := rfl
theorem HN_froms_set_sprayed (q : HN) (v : Int32) : HN_froms (HN_set_sprayed q v) = HN_froms q := rfl
theorem HN_sizes_set_sprayed (q : HN) (v : Int32) : HN_sizes (HN_set_sprayed q v) = HN_sizes q := rfl
theorem HN_groups_set_sprayed (q : HN) (v : Int32) : HN_groups (HN_set_sprayed q v) = HN_groups q := rfl
theorem HN_sprayed_set_sprayed (q : HN) (v : Int32) : HN_sprayed (HN_set_sprayed q v) = v := rfl
theorem HN_foundSet_set_sprayed (q : HN) (v : Int32) : HN_foundSet (HN_set_sprayed q v) = HN_foundSet q := rfl
theorem HN_numbers_set_foundSet (q : HN) (v : Int32) : HN_numbers (HN_set_foundSet q v) = HN_numbers q := rfl
theorem HN_froms_set_foundSet (q : HN) (v : Int32) : HN_froms (HN_set_foundSet q v) = HN_froms q := rfl
theorem HN_sizes_set_foundSet (q : HN) (v : Int32) : HN_sizes (HN_set_foundSet q v) = HN_sizes q := rfl
theorem HN_groups_set_foundSet (q : HN) (v : Int32) : HN_groups (HN_set_foundSet q v) = HN_groups q := rfl
theorem HN_sprayed_set_foundSet (q : HN) (v : Int32) : HN_sprayed (HN_set_foundSet q v) = HN_sprayed q := rfl
theorem HN_foundSet_set_foundSet (q : HN) (v : Int32) : HN_foundSet (HN_set_foundSet q v) = v := rfl
abbrev RP : Type := (Nat → Int32) × (Int32)
def RP_bytes (q : RP) : Nat → Int32 := q.1
def RP_length (q : RP) : Int32 := q.2
def RP_set_bytes (q : RP) (v : Nat → Int32) : RP := (v, q.2)
def RP_set_length (q : RP) (v : Int32) : RP := (q.1, v)
theorem RP_bytes_set_bytes (q : RP) (v : Nat → Int32) : RP_bytes (RP_set_bytes q v) = v := rfl
theorem RP_length_set_bytes (q : RP) (v : Nat → Int32) : RP_length (RP_set_bytes q v) = RP_length q := rfl
theorem RP_bytes_set_length (q : RP) (v : Int32) : RP_bytes (RP_set_length q v) = RP_bytes q := rfl
theorem RP_length_set_length (q : RP) (v : Int32) : RP_length (RP_set_length q v) = v := rfl
abbrev TP : Type := (Fin 12) × (Fin 12) × (Nat → Fin 12) × (Int32) × (Int32)
def TP_pr (q : TP) : Fin 12 := q.1
def TP_tr (q : TP) : Fin 12 := q.2.1
def TP_past (q : TP) : Nat → Fin 12 := q.2.2.1
def TP_nextPast (q : TP) : Int32 := q.2.2.2.1
def TP_undoable (q : TP) : Int32 := q.2.2.2.2
def TP_set_pr (q : TP) (v : Fin 12) : TP := (v, q.2.1, q.2.2.1, q.2.2.2.1, q.2.2.2.2)
def TP_set_tr (q : TP) (v : Fin 12) : TP := (q.1, v, q.2.2.1, q.2.2.2.1, q.2.2.2.2)
def TP_set_past (q : TP) (v : Nat → Fin 12) : TP := (q.1, q.2.1, v, q.2.2.2.1, q.2.2.2.2)
def TP_set_nextPast (q : TP) (v : Int32) : TP := (q.1, q.2.1, q.2.2.1, v, q.2.2.2.2)
def TP_set_undoable (q : TP) (v : Int32) : TP := (q.1, q.2.1, q.2.2.1, q.2.2.2.1, v)
theorem TP_pr_set_pr (q : TP) (v : Fin 12) : TP_pr (TP_set_pr q v) = v := rfl
theorem TP_tr_set_pr (q : TP) (v : Fin 12) : TP_tr (TP_set_pr q v) = TP_tr q := rfl
theorem TP_past_set_pr (q : TP) (v : Fin 12) : TP_past (TP_set_pr q v) = TP_past q := rfl
theorem TP_nextPast_set_pr (q : TP) (v : Fin 12) : TP_nextPast (TP_set_pr q v) = TP_nextPast q := rfl
theorem TP_undoable_set_pr (q : TP) (v : Fin 12) : TP_undoable (TP_set_pr q v) = TP_undoable q := rfl
theorem TP_pr_set_tr (q : TP) (v : Fin 12) : TP_pr (TP_set_tr q v) = TP_pr q := rfl
theorem TP_tr_set_tr (q : TP) (v : Fin 12) : TP_tr (TP_set_tr q v) = v := rfl
theorem TP_past_set_tr (q : TP) (v : Fin 12) : TP_past (TP_set_tr q v) = TP_past q := rfl
theorem TP_nextPast_set_tr (q : TP) (v : Fin 12) : TP_nextPast (TP_set_tr q v) = TP_nextPast q := rfl
theorem TP_undoable_set_tr (q : TP) (v : Fin 12) : TP_undoable (TP_set_tr q v) = TP_undoable q := rfl
theorem TP_pr_set_past (q : TP) (v : Nat → Fin 12) : TP_pr (TP_set_past q v) = TP_pr q := rfl
theorem TP_tr_set_past (q : TP) (v : Nat → Fin 12) : TP_tr (TP_set_past q v) = TP_tr q := rfl
theorem TP_past_set_past (q : TP) (v : Nat → Fin 12) : TP_past (TP_set_past q v) = v := rfl
theorem TP_nextPast_set_past (q : TP) (v : Nat → Fin 12) : TP_nextPast (TP_set_past q v) = TP_nextPast q := rfl
theorem TP_undoable_set_past (q : TP) (v : Nat → Fin 12) : TP_undoable (TP_set_past q v) = TP_undoable q := rfl
theorem TP_pr_set_nextPast (q : TP) (v : Int32) : TP_pr (TP_set_nextPast q v) = TP_pr q := rfl
theorem TP_tr_set_nextPast (q : TP) (v : Int32) : TP_tr (TP_set_nextPast q v) = TP_tr q := rfl
theorem TP_past_set_nextPast (q : TP) (v : Int32) : TP_past (TP_set_nextPast q v) = TP_past q := rfl
theorem TP_nextPast_set_nextPast (q : TP) (v : Int32) : TP_nextPast (TP_set_nextPast q v) = v := rfl
theorem TP_undoable_set_nextPast (q : TP) (v : Int32) : TP_undoable (TP_set_nextPast q v) = TP_undoable q := rfl
theorem TP_pr_set_undoable (q : TP) (v : Int32) : TP_pr (TP_set_undoable q v) = TP_pr q := rfl
theorem TP_tr_set_undoable (q : TP) (v : Int32) : TP_tr (TP_set_undoable q v) = TP_tr q := rfl
theorem TP_past_set_undoable (q : TP) (v : Int32) : TP_past (TP_set_undoable q v) = TP_past q := rfl
theorem TP_nextPast_set_undoable (q : TP) (v : Int32) : TP_nextPast (TP_set_undoable q v) = TP_nextPast q := rfl
theorem TP_undoable_set_undoable (q : TP) (v : Int32) : TP_undoable (TP_set_undoable q v) = v := rfl
abbrev EE : Type := (Int32) × (Int32)
def EE_code (q : EE) : Int32 := q.1
def EE_pos (q : EE) : Int32 := q.2
def EE_set_code (q : EE) (v : Int32) : EE := (v, q.2)
def EE_set_pos (q : EE) (v : Int32) : EE := (q.1, v)
theorem EE_code_set_code (q : EE) (v : Int32) : EE_code (EE_set_code q v) = v := rfl
theorem EE_pos_set_code (q : EE) (v : Int32) : EE_pos (EE_set_code q v) = EE_pos q := rfl
theorem EE_code_set_pos (q : EE) (v : Int32) : EE_code (EE_set_pos q v) = EE_code q := rfl
theorem EE_pos_set_pos (q : EE) (v : Int32) : EE_pos (EE_set_pos q v) = v := rfl
abbrev SS : Type := (Int32) × (Int32) × (Int32) × (Nat → Int64) × (Nat → Int32) × (Nat → Int32) × (Nat → Int32) × (Nat → Int32) × (Nat → Int32) × (Nat → Int32) × (Nat → Int32) × (Int32) × (Int32) × (Nat → Int32) × (Nat → Int64)
def SS_time (q : SS) : Int32 := q.1
def SS_openValves (q : SS) : Int32 := q.2.1
def SS_runningPumps (q : SS) : Int32 := q.2.2.1
def SS_gas (q : SS) : Nat → Int64 := q.2.2.2.1
def SS_pressure (q : SS) : Nat → Int32 := q.2.2.2.2.1
def SS_outgassing (q : SS) : Nat → Int32 := q.2.2.2.2.2.1
def SS_leakSum (q : SS) : Nat → Int32 := q.2.2.2.2.2.2.1
def SS_rule (q : SS) : Nat → Int32 := q.2.2.2.2.2.2.2.1
def SS_valveTrips (q : SS) : Nat → Int32 := q.2.2.2.2.2.2.2.2.1
def SS_pumpTrips (q : SS) : Nat → Int32 := q.2.2.2.2.2.2.2.2.2.1
def SS_leak (q : SS) : Nat → Int32 := q.2.2.2.2.2.2.2.2.2.2.1
def SS_kept (q : SS) : Int32 := q.2.2.2.2.2.2.2.2.2.2.2.1
def SS_next (q : SS) : Int32 := q.2.2.2.2.2.2.2.2.2.2.2.2.1
def SS_facts (q : SS) : Nat → Int32 := q.2.2.2.2.2.2.2.2.2.2.2.2.2.1
def SS_rises (q : SS) : Nat → Int64 := q.2.2.2.2.2.2.2.2.2.2.2.2.2.2
def SS_set_time (q : SS) (v : Int32) : SS := (v, q.2.1, q.2.2.1, q.2.2.2.1, q.2.2.2.2.1, q.2.2.2.2.2.1, q.2.2.2.2.2.2.1, q.2.2.2.2.2.2.2.1, q.2.2.2.2.2.2.2.2.1, q.2.2.2.2.2.2.2.2.2.1, q.2.2.2.2.2.2.2.2.2.2.1, q.2.2.2.2.2.2.2.2.2.2.2.1, q.2.2.2.2.2.2.2.2.2.2.2.2.1, q.2.2.2.2.2.2.2.2.2.2.2.2.2.1, q.2.2.2.2.2.2.2.2.2.2.2.2.2.2)
def SS_set_openValves (q : SS) (v : Int32) : SS := (q.1, v, q.2.2.1, q.2.2.2.1, q.2.2.2.2.1, q.2.2.2.2.2.1, q.2.2.2.2.2.2.1, q.2.2.2.2.2.2.2.1, q.2.2.2.2.2.2.2.2.1, q.2.2.2.2.2.2.2.2.2.1, q.2.2.2.2.2.2.2.2.2.2.1, q.2.2.2.2.2.2.2.2.2.2.2.1, q.2.2.2.2.2.2.2.2.2.2.2.2.1, q.2.2.2.2.2.2.2.2.2.2.2.2.2.1, q.2.2.2.2.2.2.2.2.2.2.2.2.2.2)
def SS_set_runningPumps (q : SS) (v : Int32) : SS := (q.1, q.2.1, v, q.2.2.2.1, q.2.2.2.2.1, q.2.2.2.2.2.1, q.2.2.2.2.2.2.1, q.2.2.2.2.2.2.2.1, q.2.2.2.2.2.2.2.2.1, q.2.2.2.2.2.2.2.2.2.1, q.2.2.2.2.2.2.2.2.2.2.1, q.2.2.2.2.2.2.2.2.2.2.2.1, q.2.2.2.2.2.2.2.2.2.2.2.2.1, q.2.2.2.2.2.2.2.2.2.2.2.2.2.1, q.2.2.2.2.2.2.2.2.2.2.2.2.2.2)
def SS_set_gas (q : SS) (v : Nat → Int64) : SS := (q.1, q.2.1, q.2.2.1, v, q.2.2.2.2.1, q.2.2.2.2.2.1, q.2.2.2.2.2.2.1, q.2.2.2.2.2.2.2.1, q.2.2.2.2.2.2.2.2.1, q.2.2.2.2.2.2.2.2.2.1, q.2.2.2.2.2.2.2.2.2.2.1, q.2.2.2.2.2.2.2.2.2.2.2.1, q.2.2.2.2.2.2.2.2.2.2.2.2.1, q.2.2.2.2.2.2.2.2.2.2.2.2.2.1, q.2.2.2.2.2.2.2.2.2.2.2.2.2.2)
def SS_set_pressure (q : SS) (v : Nat → Int32) : SS := (q.1, q.2.1, q.2.2.1, q.2.2.2.1, v, q.2.2.2.2.2.1, q.2.2.2.2.2.2.1, q.2.2.2.2.2.2.2.1, q.2.2.2.2.2.2.2.2.1, q.2.2.2.2.2.2.2.2.2.1, q.2.2.2.2.2.2.2.2.2.2.1, q.2.2.2.2.2.2.2.2.2.2.2.1, q.2.2.2.2.2.2.2.2.2.2.2.2.1, q.2.2.2.2.2.2.2.2.2.2.2.2.2.1, q.2.2.2.2.2.2.2.2.2.2.2.2.2.2)
def SS_set_outgassing (q : SS) (v : Nat → Int32) : SS := (q.1, q.2.1, q.2.2.1, q.2.2.2.1, q.2.2.2.2.1, v, q.2.2.2.2.2.2.1, q.2.2.2.2.2.2.2.1, q.2.2.2.2.2.2.2.2.1, q.2.2.2.2.2.2.2.2.2.1, q.2.2.2.2.2.2.2.2.2.2.1, q.2.2.2.2.2.2.2.2.2.2.2.1, q.2.2.2.2.2.2.2.2.2.2.2.2.1, q.2.2.2.2.2.2.2.2.2.2.2.2.2.1, q.2.2.2.2.2.2.2.2.2.2.2.2.2.2)
def SS_set_leakSum (q : SS) (v : Nat → Int32) : SS := (q.1, q.2.1, q.2.2.1, q.2.2.2.1, q.2.2.2.2.1, q.2.2.2.2.2.1, v, q.2.2.2.2.2.2.2.1, q.2.2.2.2.2.2.2.2.1, q.2.2.2.2.2.2.2.2.2.1, q.2.2.2.2.2.2.2.2.2.2.1, q.2.2.2.2.2.2.2.2.2.2.2.1, q.2.2.2.2.2.2.2.2.2.2.2.2.1, q.2.2.2.2.2.2.2.2.2.2.2.2.2.1, q.2.2.2.2.2.2.2.2.2.2.2.2.2.2)
def SS_set_rule (q : SS) (v : Nat → Int32) : SS := (q.1, q.2.1, q.2.2.1, q.2.2.2.1, q.2.2.2.2.1, q.2.2.2.2.2.1, q.2.2.2.2.2.2.1, v, q.2.2.2.2.2.2.2.2.1, q.2.2.2.2.2.2.2.2.2.1, q.2.2.2.2.2.2.2.2.2.2.1, q.2.2.2.2.2.2.2.2.2.2.2.1, q.2.2.2.2.2.2.2.2.2.2.2.2.1, q.2.2.2.2.2.2.2.2.2.2.2.2.2.1, q.2.2.2.2.2.2.2.2.2.2.2.2.2.2)
def SS_set_valveTrips (q : SS) (v : Nat → Int32) : SS := (q.1, q.2.1, q.2.2.1, q.2.2.2.1, q.2.2.2.2.1, q.2.2.2.2.2.1, q.2.2.2.2.2.2.1, q.2.2.2.2.2.2.2.1, v, q.2.2.2.2.2.2.2.2.2.1, q.2.2.2.2.2.2.2.2.2.2.1, q.2.2.2.2.2.2.2.2.2.2.2.1, q.2.2.2.2.2.2.2.2.2.2.2.2.1, q.2.2.2.2.2.2.2.2.2.2.2.2.2.1, q.2.2.2.2.2.2.2.2.2.2.2.2.2.2)
def SS_set_pumpTrips (q : SS) (v : Nat → Int32) : SS := (q.1, q.2.1, q.2.2.1, q.2.2.2.1, q.2.2.2.2.1, q.2.2.2.2.2.1, q.2.2.2.2.2.2.1, q.2.2.2.2.2.2.2.1, q.2.2.2.2.2.2.2.2.1, v, q.2.2.2.2.2.2.2.2.2.2.1, q.2.2.2.2.2.2.2.2.2.2.2.1, q.2.2.2.2.2.2.2.2.2.2.2.2.1, q.2.2.2.2.2.2.2.2.2.2.2.2.2.1, q.2.2.2.2.2.2.2.2.2.2.2.2.2.2)
def SS_set_leak (q : SS) (v : Nat → Int32) : SS := (q.1, q.2.1, q.2.2.1, q.2.2.2.1, q.2.2.2.2.1, q.2.2.2.2.2.1, q.2.2.2.2.2.2.1, q.2.2.2.2.2.2.2.1, q.2.2.2.2.2.2.2.2.1, q.2.2.2.2.2.2.2.2.2.1, v, q.2.2.2.2.2.2.2.2.2.2.2.1, q.2.2.2.2.2.2.2.2.2.2.2.2.1, q.2.2.2.2.2.2.2.2.2.2.2.2.2.1, q.2.2.2.2.2.2.2.2.2.2.2.2.2.2)
def SS_set_kept (q : SS) (v : Int32) : SS := (q.1, q.2.1, q.2.2.1, q.2.2.2.1, q.2.2.2.2.1, q.2.2.2.2.2.1, q.2.2.2.2.2.2.1, q.2.2.2.2.2.2.2.1, q.2.2.2.2.2.2.2.2.1, q.2.2.2.2.2.2.2.2.2.1, q.2.2.2.2.2.2.2.2.2.2.1, v, q.2.2.2.2.2.2.2.2.2.2.2.2.1, q.2.2.2.2.2.2.2.2.2.2.2.2.2.1, q.2.2.2.2.2.2.2.2.2.2.2.2.2.2)
def SS_set_next (q : SS) (v : Int32) : SS := (q.1, q.2.1, q.2.2.1, q.2.2.2.1, q.2.2.2.2.1, q.2.2.2.2.2.1, q.2.2.2.2.2.2.1, q.2.2.2.2.2.2.2.1, q.2.2.2.2.2.2.2.2.1, q.2.2.2.2.2.2.2.2.2.1, q.2.2.2.2.2.2.2.2.2.2.1, q.2.2.2.2.2.2.2.2.2.2.2.1, v, q.2.2.2.2.2.2.2.2.2.2.2.2.2.1, q.2.2.2.2.2.2.2.2.2.2.2.2.2.2)
def SS_set_facts (q : SS) (v : Nat → Int32) : SS := (q.1, q.2.1, q.2.2.1, q.2.2.2.1, q.2.2.2.2.1, q.2.2.2.2.2.1, q.2.2.2.2.2.2.1, q.2.2.2.2.2.2.2.1, q.2.2.2.2.2.2.2.2.1, q.2.2.2.2.2.2.2.2.2.1, q.2.2.2.2.2.2.2.2.2.2.1, q.2.2.2.2.2.2.2.2.2.2.2.1, q.2.2.2.2.2.2.2.2.2.2.2.2.1, v, q.2.2.2.2.2.2.2.2.2.2.2.2.2.2)
def SS_set_rises (q : SS) (v : Nat → Int64) : SS := (q.1, q.2.1, q.2.2.1, q.2.2.2.1, q.2.2.2.2.1, q.2.2.2.2.2.1, q.2.2.2.2.2.2.1, q.2.2.2.2.2.2.2.1, q.2.2.2.2.2.2.2.2.1, q.2.2.2.2.2.2.2.2.2.1, q.2.2.2.2.2.2.2.2.2.2.1, q.2.2.2.2.2.2.2.2.2.2.2.1, q.2.2.2.2.2.2.2.2.2.2.2.2.1, q.2.2.2.2.2.2.2.2.2.2.2.2.2.1, v)
theorem SS_time_set_time (q : SS) (v : Int32) : SS_time (SS_set_time q v) = v := rfl
theorem SS_openValves_set_time (q : SS) (v : Int32) : SS_openValves (SS_set_time q v) = SS_openValves q := rfl
theorem SS_runningPumps_set_time (q : SS) (v : Int32) : SS_runningPumps (SS_set_time q v) = SS_runningPumps q := rfl
theorem SS_gas_set_time (q : SS) (v : Int32) : SS_gas (SS_set_time q v) = SS_gas q := rfl
theorem SS_pressure_set_time (q : SS) (v : Int32) : SS_pressure (SS_set_time q v) = SS_pressure q := rfl
theorem SS_outgassing_set_time (q : SS) (v : Int32) : SS_outgassing (SS_set_time q v) = SS_outgassing q := rfl
theorem SS_leakSum_set_time (q : SS) (v : Int32) : SS_leakSum (SS_set_time q v) = SS_leakSum q := rfl
theorem SS_rule_set_time (q : SS) (v : Int32) : SS_rule (SS_set_time q v) = SS_rule q := rfl
theorem SS_valveTrips_set_time (q : SS) (v : Int32) : SS_valveTrips (SS_set_time q v) = SS_valveTrips q := rfl
theorem SS_pumpTrips_set_time (q : SS) (v : Int32) : SS_pumpTrips (SS_set_time q v) = SS_pumpTrips q := rfl
theorem SS_leak_set_time (q : SS) (v : Int32) : SS_leak (SS_set_time q v) = SS_leak q := rfl
theorem SS_kept_set_time (q : SS) (v : Int32) : SS_kept (SS_set_time q v) = SS_kept q := rfl
theorem SS_next_set_time (q : SS) (v : Int32) : SS_next (SS_set_time q v) = SS_next q := rfl
theorem SS_facts_set_time (q : SS) (v : Int32) : SS_facts (SS_set_time q v) = SS_facts q := rfl
theorem SS_rises_set_time (q : SS) (v : Int32) : SS_rises (SS_set_time q v) = SS_rises q := rfl
theorem SS_time_set_openValves (q : SS) (v : Int32) : SS_time (SS_set_openValves q v) = SS_time q := rfl
theorem SS_openValves_set_openValves (q : SS) (v : Int32) : SS_openValves (SS_set_openValves q v) = v := rfl
theorem SS_runningPumps_set_openValves (q : SS) (v : Int32) : SS_runningPumps (SS_set_openValves q v) = SS_runningPumps q := rfl
theorem SS_gas_set_openValves (q : SS) (v : Int32) : SS_gas (SS_set_openValves q v) = SS_gas q := rfl
theorem SS_pressure_set_openValves (q : SS) (v : Int32) : SS_pressure (SS_set_openValves q v) = SS_pressure q := rfl
theorem SS_outgassing_set_openValves (q : SS) (v : Int32) : SS_outgassing (SS_set_openValves q v) = SS_outgassing q := rfl
theorem SS_leakSum_set_openValves (q : SS) (v : Int32) : SS_leakSum (SS_set_openValves q v) = SS_leakSum q := rfl
theorem SS_rule_set_openValves (q : SS) (v : Int32) : SS_rule (SS_set_openValves q v) = SS_rule q := rfl
theorem SS_valveTrips_set_openValves (q : SS) (v : Int32) : SS_valveTrips (SS_set_openValves q v) = SS_valveTrips q := rfl
theorem SS_pumpTrips_set_openValves (q : SS) (v : Int32) : SS_pumpTrips (SS_set_openValves q v) = SS_pumpTrips q := rfl
theorem SS_leak_set_openValves (q : SS) (v : Int32) : SS_leak (SS_set_openValves q v) = SS_leak q := rfl
theorem SS_kept_set_openValves (q : SS) (v : Int32) : SS_kept (SS_set_openValves q v) = SS_kept q := rfl
theorem SS_next_set_openValves (q : SS) (v : Int32) : SS_next (SS_set_openValves q v) = SS_next q := rfl
theorem SS_facts_set_openValves (q : SS) (v : Int32) : SS_facts (SS_set_openValves q v) = SS_facts q := rfl
theorem SS_rises_set_openValves (q : SS) (v : Int32) : SS_rises (SS_set_openValves q v) = SS_rises q := rfl
theorem SS_time_set_runningPumps (q : SS) (v : Int32) : SS_time (SS_set_runningPumps q v) = SS_time q := rfl
theorem SS_openValves_set_runningPumps (q : SS) (v : Int32) : SS_openValves (SS_set_runningPumps q v) = SS_openValves q := rfl
theorem SS_runningPumps_set_runningPumps (q : SS) (v : Int32) : SS_runningPumps (SS_set_runningPumps q v) = v := rfl
theorem SS_gas_set_runningPumps (q : SS) (v : Int32) : SS_gas (SS_set_runningPumps q v) = SS_gas q := rfl
theorem SS_pressure_set_runningPumps (q : SS) (v : Int32) : SS_pressure (SS_set_runningPumps q v) = SS_pressure q := rfl
theorem SS_outgassing_set_runningPumps (q : SS) (v : Int32) : SS_outgassing (SS_set_runningPumps q v) = SS_outgassing q := rfl
theorem SS_leakSum_set_runningPumps (q : SS) (v : Int32) : SS_leakSum (SS_set_runningPumps q v) = SS_leakSum q := rfl
theorem SS_rule_set_runningPumps (q : SS) (v : Int32) : SS_rule (SS_set_runningPumps q v) = SS_rule q := rfl
theorem SS_valveTrips_set_runningPumps (q : SS) (v : Int32) : SS_valveTrips (SS_set_runningPumps q v) = SS_valveTrips q := rfl
theorem SS_pumpTrips_set_runningPumps (q : SS) (v : Int32) : SS_pumpTrips (SS_set_runningPumps q v) = SS_pumpTrips q := rfl
theorem SS_leak_set_runningPumps (q : SS) (v : Int32) : SS_leak (SS_set_runningPumps q v) = SS_leak q := rfl
theorem SS_kept_set_runningPumps (q : SS) (v : Int32) : SS_kept (SS_set_runningPumps q v) = SS_kept q := rfl
theorem SS_next_set_runningPumps (q : SS) (v : Int32) : SS_next (SS_set_runningPumps q v) = SS_next q := rfl
theorem SS_facts_set_runningPumps (q : SS) (v : Int32) : SS_facts (SS_set_runningPumps q v) = SS_facts q := rfl
theorem SS_rises_set_runningPumps (q : SS) (v : Int32) : SS_rises (SS_set_runningPumps q v) = SS_rises q := rfl
theorem SS_time_set_gas (q : SS) (v : Nat → Int64) : SS_time (SS_set_gas q v) = SS_time q := rfl
theorem SS_openValves_set_gas (q : SS) (v : Nat → Int64) : SS_openValves (SS_set_gas q v) = SS_openValves q := rfl
theorem SS_runningPumps_set_gas (q : SS) (v : Nat → Int64) : SS_runningPumps (SS_set_gas q v) = SS_runningPumps q := rfl
theorem SS_gas_set_gas (q : SS) (v : Nat → Int64) : SS_gas (SS_set_gas q v) = v := rfl
theorem SS_pressure_set_gas (q : SS) (v : Nat → Int64) : SS_pressure (SS_set_gas q v) = SS_pressure q := rfl
theorem SS_outgassing_set_gas (q : SS) (v : Nat → Int64) : SS_outgassing (SS_set_gas q v) = SS_outgassing q := rfl
theorem SS_leakSum_set_gas (q : SS) (v : Nat → Int64) : SS_leakSum (SS_set_gas q v) = SS_leakSum q := rfl
theorem SS_rule_set_gas (q : SS) (v : Nat → Int64) : SS_rule (SS_set_gas q v) = SS_rule q := rfl
theorem SS_valveTrips_set_gas (q : SS) (v : Nat → Int64) : SS_valveTrips (SS_set_gas q v) = SS_valveTrips q := rfl
theorem SS_pumpTrips_set_gas (q : SS) (v : Nat → Int64) : SS_pumpTrips (SS_set_gas q v) = SS_pumpTrips q := rfl
theorem SS_leak_set_gas (q : SS) (v : Nat → Int64) : SS_leak (SS_set_gas q v) = SS_leak q := rfl
theorem SS_kept_set_gas (q : SS) (v : Nat → Int64) : SS_kept (SS_set_gas q v) = SS_kept q := rfl
theorem SS_next_set_gas (q : SS) (v : Nat → Int64) : SS_next (SS_set_gas q v) = SS_next q := rfl
theorem SS_facts_set_gas (q : SS) (v : Nat → Int64) : SS_facts (SS_set_gas q v) = SS_facts q := rfl
theorem SS_rises_set_gas (q : SS) (v : Nat → Int64) : SS_rises (SS_set_gas q v) = SS_rises q := rfl
theorem SS_time_set_pressure (q : SS) (v : Nat → Int32) : SS_time (SS_set_pressure q v) = SS_time q := rfl
theorem SS_openValves_set_pressure (q : SS) (v : Nat → Int32) : SS_openValves (SS_set_pressure q v) = SS_openValves q := rfl
theorem SS_runningPumps_set_pressure (q : SS) (v : Nat → Int32) : SS_runningPumps (SS_set_pressure q v) = SS_runningPumps q := rfl
theorem SS_gas_set_pressure (q : SS) (v : Nat → Int32) : SS_gas (SS_set_pressure q v) = SS_gas q := rfl
theorem SS_pressure_set_pressure (q : SS) (v : Nat → Int32) : SS_pressure (SS_set_pressure q v) = v := rfl
theorem SS_outgassing_set_pressure (q : SS) (v : Nat → Int32) : SS_outgassing (SS_set_pressure q v) = SS_outgassing q := rfl
theorem SS_leakSum_set_pressure (q : SS) (v : Nat → Int32) : SS_leakSum (SS_set_pressure q v) = SS_leakSum q := rfl
theorem SS_rule_set_pressure (q : SS) (v : Nat → Int32) : SS_rule (SS_set_pressure q v) = SS_rule q := rfl
theorem SS_valveTrips_set_pressure (q : SS) (v : Nat → Int32) : SS_valveTrips (SS_set_pressure q v) = SS_valveTrips q := rfl
theorem SS_pumpTrips_set_pressure (q : SS) (v : Nat → Int32) : SS_pumpTrips (SS_set_pressure q v) = SS_pumpTrips q := rfl
theorem SS_leak_set_pressure (q : SS) (v : Nat → Int32) : SS_leak (SS_set_pressure q v) = SS_leak q := rfl
theorem SS_kept_set_pressure (q : SS) (v : Nat → Int32) : SS_kept (SS_set_pressure q v) = SS_kept q := rfl
theorem SS_next_set_pressure (q : SS) (v : Nat → Int32) : SS_next (SS_set_pressure q v) = SS_next q := rfl
theorem SS_facts_set_pressure (q : SS) (v : Nat → Int32) : SS_facts (SS_set_pressure q v) = SS_facts q := rfl
theorem SS_rises_set_pressure (q : SS) (v : Nat → Int32) : SS_rises (SS_set_pressure q v) = SS_rises q := rfl
theorem SS_time_set_outgassing (q : SS) (v : Nat → Int32) : SS_time (SS_set_outgassing q v) = SS_time q := rfl
theorem SS_openValves_set_outgassing (q : SS) (v : Nat → Int32) : SS_openValves (SS_set_outgassing q v) = SS_openValves q := rfl
theorem SS_runningPumps_set_outgassing (q : SS) (v : Nat → Int32) : SS_runningPumps (SS_set_outgassing q v) = SS_runningPumps q := rfl
theorem SS_gas_set_outgassing (q : SS) (v : Nat → Int32) : SS_gas (SS_set_outgassing q v) = SS_gas q := rfl
theorem SS_pressure_set_outgassing (q : SS) (v : Nat → Int32) : SS_pressure (SS_set_outgassing q v) = SS_pressure q := rfl
theorem SS_outgassing_set_outgassing (q : SS) (v : Nat → Int32) : SS_outgassing (SS_set_outgassing q v) = v := rfl
theorem SS_leakSum_set_outgassing (q : SS) (v : Nat → Int32) : SS_leakSum (SS_set_outgassing q v) = SS_leakSum q := rfl
theorem SS_rule_set_outgassing (q : SS) (v : Nat → Int32) : SS_rule (SS_set_outgassing q v) = SS_rule q := rfl
theorem SS_valveTrips_set_outgassing (q : SS) (v : Nat → Int32) : SS_valveTrips (SS_set_outgassing q v) = SS_valveTrips q := rfl
theorem SS_pumpTrips_set_outgassing (q : SS) (v : Nat → Int32) : SS_pumpTrips (SS_set_outgassing q v) = SS_pumpTrips q := rfl
theorem SS_leak_set_outgassing (q : SS) (v : Nat → Int32) : SS_leak (SS_set_outgassing q v) = SS_leak q := rfl
theorem SS_kept_set_outgassing (q : SS) (v : Nat → Int32) : SS_kept (SS_set_outgassing q v) = SS_kept q := rfl
theorem SS_next_set_outgassing (q : SS) (v : Nat → Int32) : SS_next (SS_set_outgassing q v) = SS_next q := rfl
theorem SS_facts_set_outgassing (q : SS) (v : Nat → Int32) : SS_facts (SS_set_outgassing q v) = SS_facts q := rfl
theorem SS_rises_set_outgassing (q : SS) (v : Nat → Int32) : SS_rises (SS_set_outgassing q v) = SS_rises q := rfl
theorem SS_time_set_leakSum (q : SS) (v : Nat → Int32) : SS_time (SS_set_leakSum q v) = SS_time q := rfl
theorem SS_openValves_set_leakSum (q : SS) (v : Nat → Int32) : SS_openValves (SS_set_leakSum q v) = SS_openValves q := rfl
theorem SS_runningPumps_set_leakSum (q : SS) (v : Nat → Int32) : SS_runningPumps (SS_set_leakSum q v) = SS_runningPumps q := rfl
theorem SS_gas_set_leakSum (q : SS) (v : Nat → Int32) : SS_gas (SS_set_leakSum q v) = SS_gas q := rfl
theorem SS_pressure_set_leakSum (q : SS) (v : Nat → Int32) : SS_pressure (SS_set_leakSum q v) = SS_pressure q := rfl
theorem SS_outgassing_set_leakSum (q : SS) (v : Nat → Int32) : SS_outgassing (SS_set_leakSum q v) = SS_outgassing q := rfl
theorem SS_leakSum_set_leakSum (q : SS) (v : Nat → Int32) : SS_leakSum (SS_set_leakSum q v) = v := rfl
theorem SS_rule_set_leakSum (q : SS) (v : Nat → Int32) : SS_rule (SS_set_leakSum q v) = SS_rule q := rfl
theorem SS_valveTrips_set_leakSum (q : SS) (v : Nat → Int32) : SS_valveTrips (SS_set_leakSum q v) = SS_valveTrips q := rfl
theorem SS_pumpTrips_set_leakSum (q : SS) (v : Nat → Int32) : SS_pumpTrips (SS_set_leakSum q v) = SS_pumpTrips q := rfl
theorem SS_leak_set_leakSum (q : SS) (v : Nat → Int32) : SS_leak (SS_set_leakSum q v) = SS_leak q := rfl
theorem SS_kept_set_leakSum (q : SS) (v : Nat → Int32) : SS_kept (SS_set_leakSum q v) = SS_kept q := rfl
theorem SS_next_set_leakSum (q : SS) (v : Nat → Int32) : SS_next (SS_set_leakSum q v) = SS_next q := rfl
theorem SS_facts_set_leakSum (q : SS) (v : Nat → Int32) : SS_facts (SS_set_leakSum q v) = SS_facts q := rfl
theorem SS_rises_set_leakSum (q : SS) (v : Nat → Int32) : SS_rises (SS_set_leakSum q v) = SS_rises q := rfl
theorem SS_time_set_rule (q : SS) (v : Nat → Int32) : SS_time (SS_set_rule q v) = SS_time q := rfl
theorem SS_openValves_set_rule (q : SS) (v : Nat → Int32) : SS_openValves (SS_set_rule q v) = SS_openValves q := rfl
theorem SS_runningPumps_set_rule (q : SS) (v : Nat → Int32) : SS_runningPumps (SS_set_rule q v) = SS_runningPumps q := rfl
theorem SS_gas_set_rule (q : SS) (v : Nat → Int32) : SS_gas (SS_set_rule q v) = SS_gas q := rfl
theorem SS_pressure_set_rule (q : SS) (v : Nat → Int32) : SS_pressure (SS_set_rule q v) = SS_pressure q := rfl
theorem SS_outgassing_set_rule (q : SS) (v : Nat → Int32) : SS_outgassing (SS_set_rule q v) = SS_outgassing q := rfl
theorem SS_leakSum_set_rule (q : SS) (v : Nat → Int32) : SS_leakSum (SS_set_rule q v) = SS_leakSum q := rfl
theorem SS_rule_set_rule (q : SS) (v : Nat → Int32) : SS_rule (SS_set_rule q v) = v := rfl
theorem SS_valveTrips_set_rule (q : SS) (v : Nat → Int32) : SS_valveTrips (SS_set_rule q v) = SS_valveTrips q := rfl
theorem SS_pumpTrips_set_rule (q : SS) (v : Nat → Int32) : SS_pumpTrips (SS_set_rule q v) = SS_pumpTrips q := rfl
theorem SS_leak_set_rule (q : SS) (v : Nat → Int32) : SS_leak (SS_set_rule q v) = SS_leak q := rfl
theorem SS_kept_set_rule (q : SS) (v : Nat → Int32) : SS_kept (SS_set_rule q v) = SS_kept q := rfl
theorem SS_next_set_rule (q : SS) (v : Nat → Int32) : SS_next (SS_set_rule q v) = SS_next q := rfl
theorem SS_facts_set_rule (q : SS) (v : Nat → Int32) : SS_facts (SS_set_rule q v) = SS_facts q := rfl
theorem SS_rises_set_rule (q : SS) (v : Nat → Int32) : SS_rises (SS_set_rule q v) = SS_rises q := rfl
theorem SS_time_set_valveTrips (q : SS) (v : Nat → Int32) : SS_time (SS_set_valveTrips q v) = SS_time q := rfl
theorem SS_openValves_set_valveTrips (q : SS) (v : Nat → Int32) : SS_openValves (SS_set_valveTrips q v) = SS_openValves q := rfl
theorem SS_runningPumps_set_valveTrips (q : SS) (v : Nat → Int32) : SS_runningPumps (SS_set_valveTrips q v) = SS_runningPumps q := rfl
theorem SS_gas_set_valveTrips (q : SS) (v : Nat → Int32) : SS_gas (SS_set_valveTrips q v) = SS_gas q := rfl
theorem SS_pressure_set_valveTrips (q : SS) (v : Nat → Int32) : SS_pressure (SS_set_valveTrips q v) = SS_pressure q := rfl
theorem SS_outgassing_set_valveTrips (q : SS) (v : Nat → Int32) : SS_outgassing (SS_set_valveTrips q v) = SS_outgassing q := rfl
theorem SS_leakSum_set_valveTrips (q : SS) (v : Nat → Int32) : SS_leakSum (SS_set_valveTrips q v) = SS_leakSum q := rfl
theorem SS_rule_set_valveTrips (q : SS) (v : Nat → Int32) : SS_rule (SS_set_valveTrips q v) = SS_rule q := rfl
theorem SS_valveTrips_set_valveTrips (q : SS) (v : Nat → Int32) : SS_valveTrips (SS_set_valveTrips q v) = v := rfl
theorem SS_pumpTrips_set_valveTrips (q : SS) (v : Nat → Int32) : SS_pumpTrips (SS_set_valveTrips q v) = SS_pumpTrips q := rfl
theorem SS_leak_set_valveTrips (q : SS) (v : Nat → Int32) : SS_leak (SS_set_valveTrips q v) = SS_leak q := rfl
theorem SS_kept_set_valveTrips (q : SS) (v : Nat → Int32) : SS_kept (SS_set_valveTrips q v) = SS_kept q := rfl
theorem SS_next_set_valveTrips (q : SS) (v : Nat → Int32) : SS_next (SS_set_valveTrips q v) = SS_next q := rfl
theorem SS_facts_set_valveTrips (q : SS) (v : Nat → Int32) : SS_facts (SS_set_valveTrips q v) = SS_facts q := rfl
theorem SS_rises_set_valveTrips (q : SS) (v : Nat → Int32) : SS_rises (SS_set_valveTrips q v) = SS_rises q := rfl
theorem SS_time_set_pumpTrips (q : SS) (v : Nat → Int32) : SS_time (SS_set_pumpTrips q v) = SS_time q := rfl
theorem SS_openValves_set_pumpTrips (q : SS) (v : Nat → Int32) : SS_openValves (SS_set_pumpTrips q v) = SS_openValves q := rfl
theorem SS_runningPumps_set_pumpTrips (q : SS) (v : Nat → Int32) : SS_runningPumps (SS_set_pumpTrips q v) = SS_runningPumps q := rfl
theorem SS_gas_set_pumpTrips (q : SS) (v : Nat → Int32) : SS_gas (SS_set_pumpTrips q v) = SS_gas q := rfl
theorem SS_pressure_set_pumpTrips (q : SS) (v : Nat → Int32) : SS_pressure (SS_set_pumpTrips q v) = SS_pressure q := rfl
theorem SS_outgassing_set_pumpTrips (q : SS) (v : Nat → Int32) : SS_outgassing (SS_set_pumpTrips q v) = SS_outgassing q := rfl
theorem SS_leakSum_set_pumpTrips (q : SS) (v : Nat → Int32) : SS_leakSum (SS_set_pumpTrips q v) = SS_leakSum q := rfl
theorem SS_rule_set_pumpTrips (q : SS) (v : Nat → Int32) : SS_rule (SS_set_pumpTrips q v) = SS_rule q := rfl
theorem SS_valveTrips_set_pumpTrips (q : SS) (v : Nat → Int32) : SS_valveTrips (SS_set_pumpTrips q v) = SS_valveTrips q := rfl
theorem SS_pumpTrips_set_pumpTrips (q : SS) (v : Nat → Int32) : SS_pumpTrips (SS_set_pumpTrips q v) = v := rfl
theorem SS_leak_set_pumpTrips (q : SS) (v : Nat → Int32) : SS_leak (SS_set_pumpTrips q v) = SS_leak q := rfl
theorem SS_kept_set_pumpTrips (q : SS) (v : Nat → Int32) : SS_kept (SS_set_pumpTrips q v) = SS_kept q := rfl
theorem SS_next_set_pumpTrips (q : SS) (v : Nat → Int32) : SS_next (SS_set_pumpTrips q v) = SS_next q := rfl
theorem SS_facts_set_pumpTrips (q : SS) (v : Nat → Int32) : SS_facts (SS_set_pumpTrips q v) = SS_facts q := rfl
theorem SS_rises_set_pumpTrips (q : SS) (v : Nat → Int32) : SS_rises (SS_set_pumpTrips q v) = SS_rises q := rfl
theorem SS_time_set_leak (q : SS) (v : Nat → Int32) : SS_time (SS_set_leak q v) = SS_time q := rfl
theorem SS_openValves_set_leak (q : SS) (v : Nat → Int32) : SS_openValves (SS_set_leak q v) = SS_openValves q := rfl
theorem SS_runningPumps_set_leak (q : SS) (v : Nat → Int32) : SS_runningPumps (SS_set_leak q v) = SS_runningPumps q := rfl
theorem SS_gas_set_leak (q : SS) (v : Nat → Int32) : SS_gas (SS_set_leak q v) = SS_gas q := rfl
theorem SS_pressure_set_leak (q : SS) (v : Nat → Int32) : SS_pressure (SS_set_leak q v) = SS_pressure q := rfl
theorem SS_outgassing_set_leak (q : SS) (v : Nat → Int32) : SS_outgassing (SS_set_leak q v) = SS_outgassing q := rfl
theorem SS_leakSum_set_leak (q : SS) (v : Nat → Int32) : SS_leakSum (SS_set_leak q v) = SS_leakSum q := rfl
theorem SS_rule_set_leak (q : SS) (v : Nat → Int32) : SS_rule (SS_set_leak q v) = SS_rule q := rfl
theorem SS_valveTrips_set_leak (q : SS) (v : Nat → Int32) : SS_valveTrips (SS_set_leak q v) = SS_valveTrips q := rfl
theorem SS_pumpTrips_set_leak (q : SS) (v : Nat → Int32) : SS_pumpTrips (SS_set_leak q v) = SS_pumpTrips q := rfl
theorem SS_leak_set_leak (q : SS) (v : Nat → Int32) : SS_leak (SS_set_leak q v) = v := rfl
theorem SS_kept_set_leak (q : SS) (v : Nat → Int32) : SS_kept (SS_set_leak q v) = SS_kept q := rfl
theorem SS_next_set_leak (q : SS) (v : Nat → Int32) : SS_next (SS_set_leak q v) = SS_next q := rfl
theorem SS_facts_set_leak (q : SS) (v : Nat → Int32) : SS_facts (SS_set_leak q v) = SS_facts q := rfl
theorem SS_rises_set_leak (q : SS) (v : Nat → Int32) : SS_rises (SS_set_leak q v) = SS_rises q := rfl
theorem SS_time_set_kept (q : SS) (v : Int32) : SS_time (SS_set_kept q v) = SS_time q := rfl
theorem SS_openValves_set_kept (q : SS) (v : Int32) : SS_openValves (SS_set_kept q v) = SS_openValves q := rfl
theorem SS_runningPumps_set_kept (q : SS) (v : Int32) : SS_runningPumps (SS_set_kept q v) = SS_runningPumps q := rfl
theorem SS_gas_set_kept (q : SS) (v : Int32) : SS_gas (SS_set_kept q v) = SS_gas q := rfl
theorem SS_pressure_set_kept (q : SS) (v : Int32) : SS_pressure (SS_set_kept q v) = SS_pressure q := rfl
theorem SS_outgassing_set_kept (q : SS) (v : Int32) : SS_outgassing (SS_set_kept q v) = SS_outgassing q := rfl
theorem SS_leakSum_set_kept (q : SS) (v : Int32) : SS_leakSum (SS_set_kept q v) = SS_leakSum q := rfl
theorem SS_rule_set_kept (q : SS) (v : Int32) : SS_rule (SS_set_kept q v) = SS_rule q := rfl
theorem SS_valveTrips_set_kept (q : SS) (v : Int32) : SS_valveTrips (SS_set_kept q v) = SS_valveTrips q := rfl
theorem SS_pumpTrips_set_kept (q : SS) (v : Int32) : SS_pumpTrips (SS_set_kept q v) = SS_pumpTrips q := rfl
theorem SS_leak_set_kept (q : SS) (v : Int32) : SS_leak (SS_set_kept q v) = SS_leak q := rfl
theorem SS_kept_set_kept (q : SS) (v : Int32) : SS_kept (SS_set_kept q v) = v := rfl
theorem SS_next_set_kept (q : SS) (v : Int32) : SS_next (SS_set_kept q v) = SS_next q := rfl
theorem SS_facts_set_kept (q : SS) (v : Int32) : SS_facts (SS_set_kept q v) = SS_facts q := rfl
theorem SS_rises_set_kept (q : SS) (v : Int32) : SS_rises (SS_set_kept q v) = SS_rises q := rfl
theorem SS_time_set_next (q : SS) (v : Int32) : SS_time (SS_set_next q v) = SS_time q := rfl
theorem SS_openValves_set_next (q : SS) (v : Int32) : SS_openValves (SS_set_next q v) = SS_openValves q := rfl
theorem SS_runningPumps_set_next (q : SS) (v : Int32) : SS_runningPumps (SS_set_next q v) = SS_runningPumps q := rfl
theorem SS_gas_set_next (q : SS) (v : Int32) : SS_gas (SS_set_next q v) = SS_gas q := rfl
theorem SS_pressure_set_next (q : SS) (v : Int32) : SS_pressure (SS_set_next q v) = SS_pressure q := rfl
theorem SS_outgassing_set_next (q : SS) (v : Int32) : SS_outgassing (SS_set_next q v) = SS_outgassing q := rfl
theorem SS_leakSum_set_next (q : SS) (v : Int32) : SS_leakSum (SS_set_next q v) = SS_leakSum q := rfl
theorem SS_rule_set_next (q : SS) (v : Int32) : SS_rule (SS_set_next q v) = SS_rule q := rfl
theorem SS_valveTrips_set_next (q : SS) (v : Int32) : SS_valveTrips (SS_set_next q v) = SS_valveTrips q := rfl
theorem SS_pumpTrips_set_next (q : SS) (v : Int32) : SS_pumpTrips (SS_set_next q v) = SS_pumpTrips q := rfl
theorem SS_leak_set_next (q : SS) (v : Int32) : SS_leak (SS_set_next q v) = SS_leak q := rfl
theorem SS_kept_set_next (q : SS) (v : Int32) : SS_kept (SS_set_next q v) = SS_kept q := rfl
theorem SS_next_set_next (q : SS) (v : Int32) : SS_next (SS_set_next q v) = v := rfl
theorem SS_facts_set_next (q : SS) (v : Int32) : SS_facts (SS_set_next q v) = SS_facts q := rfl
theorem SS_rises_set_next (q : SS) (v : Int32) : SS_rises (SS_set_next q v) = SS_rises q := rfl
theorem SS_time_set_facts (q : SS) (v : Nat → Int32) : SS_time (SS_set_facts q v) = SS_time q := rfl
theorem SS_openValves_set_facts (q : SS) (v : Nat → Int32) : SS_openValves (SS_set_facts q v) = SS_openValves q := rfl
theorem SS_runningPumps_set_facts (q : SS) (v : Nat → Int32) : SS_runningPumps (SS_set_facts q v) = SS_runningPumps q := rfl
theorem SS_gas_set_facts (q : SS) (v : Nat → Int32) : SS_gas (SS_set_facts q v) = SS_gas q := rfl
theorem SS_pressure_set_facts (q : SS) (v : Nat → Int32) : SS_pressure (SS_set_facts q v) = SS_pressure q := rfl
theorem SS_outgassing_set_facts (q : SS) (v : Nat → Int32) : SS_outgassing (SS_set_facts q v) = SS_outgassing q := rfl
theorem SS_leakSum_set_facts (q : SS) (v : Nat → Int32) : SS_leakSum (SS_set_facts q v) = SS_leakSum q := rfl
theorem SS_rule_set_facts (q : SS) (v : Nat → Int32) : SS_rule (SS_set_facts q v) = SS_rule q := rfl
theorem SS_valveTrips_set_facts (q : SS) (v : Nat → Int32) : SS_valveTrips (SS_set_facts q v) = SS_valveTrips q := rfl
theorem SS_pumpTrips_set_facts (q : SS) (v : Nat → Int32) : SS_pumpTrips (SS_set_facts q v) = SS_pumpTrips q := rfl
theorem SS_leak_set_facts (q : SS) (v : Nat → Int32) : SS_leak (SS_set_facts q v) = SS_leak q := rfl
theorem SS_kept_set_facts (q : SS) (v : Nat → Int32) : SS_kept (SS_set_facts q v) = SS_kept q := rfl
theorem SS_next_set_facts (q : SS) (v : Nat → Int32) : SS_next (SS_set_facts q v) = SS_next q := rfl
theorem SS_facts_set_facts (q : SS) (v : Nat → Int32) : SS_facts (SS_set_facts q v) = v := rfl
theorem SS_rises_set_facts (q : SS) (v : Nat → Int32) : SS_rises (SS_set_facts q v) = SS_rises q := rfl
theorem SS_time_set_rises (q : SS) (v : Nat → Int64) : SS_time (SS_set_rises q v) = SS_time q := rfl
theorem SS_openValves_set_rises (q : SS) (v : Nat → Int64) : SS_openValves (SS_set_rises q v) = SS_openValves q := rfl
theorem SS_runningPumps_set_rises (q : SS) (v : Nat → Int64) : SS_runningPumps (SS_set_rises q v) = SS_runningPumps q := rfl
theorem SS_gas_set_rises (q : SS) (v : Nat → Int64) : SS_gas (SS_set_rises q v) = SS_gas q := rfl
theorem SS_pressure_set_rises (q : SS) (v : Nat → Int64) : SS_pressure (SS_set_rises q v) = SS_pressure q := rfl
theorem SS_outgassing_set_rises (q : SS) (v : Nat → Int64) : SS_outgassing (SS_set_rises q v) = SS_outgassing q := rfl
theorem SS_leakSum_set_rises (q : SS) (v : Nat → Int64) : SS_leakSum (SS_set_rises q v) = SS_leakSum q := rfl
theorem SS_rule_set_rises (q : SS) (v : Nat → Int64) : SS_rule (SS_set_rises q v) = SS_rule q := rfl
theorem SS_valveTrips_set_rises (q : SS) (v : Nat → Int64) : SS_valveTrips (SS_set_rises q v) = SS_valveTrips q := rfl
theorem SS_pumpTrips_set_rises (q : SS) (v : Nat → Int64) : SS_pumpTrips (SS_set_rises q v) = SS_pumpTrips q := rfl
theorem SS_leak_set_rises (q : SS) (v : Nat → Int64) : SS_leak (SS_set_rises q v) = SS_leak q := rfl
theorem SS_kept_set_rises (q : SS) (v : Nat → Int64) : SS_kept (SS_set_rises q v) = SS_kept q := rfl
theorem SS_next_set_rises (q : SS) (v : Nat → Int64) : SS_next (SS_set_rises q v) = SS_next q := rfl
theorem SS_facts_set_rises (q : SS) (v : Nat → Int64) : SS_facts (SS_set_rises q v) = SS_facts q := rfl
theorem SS_rises_set_rises (q : SS) (v : Nat → Int64) : SS_rises (SS_set_rises q v) = v := rfl
abbrev MU : Type := (Nat → Int64) × (Int32)
def MU_past (q : MU) : Nat → Int64 := q.1
def MU_pastCount (q : MU) : Int32 := q.2
def MU_set_past (q : MU) (v : Nat → Int64) : MU := (v, q.2)
def MU_set_pastCount (q : MU) (v : Int32) : MU := (q.1, v)
theorem MU_past_set_past (q : MU) (v : Nat → Int64) : MU_past (MU_set_past q v) = v := rfl
theorem MU_pastCount_set_past (q : MU) (v : Nat → Int64) : MU_pastCount (MU_set_past q v) = MU_pastCount q := rfl
theorem MU_past_set_pastCount (q : MU) (v : Int32) : MU_past (MU_set_pastCount q v) = MU_past q := rfl
theorem MU_pastCount_set_pastCount (q : MU) (v : Int32) : MU_pastCount (MU_set_pastCount q v) = v := rfl
abbrev MP : Type := (Nat → Int32) × (Int32) × (Int32) × (Int32) × (Int32) × (Int32) × (Int32)
def MP_text (q : MP) : Nat → Int32 := q.1
def MP_length (q : MP) : Int32 := q.2.1
def MP_from (q : MP) : Int32 := q.2.2.1
def MP_to (q : MP) : Int32 := q.2.2.2.1
def MP_end_ (q : MP) : Int32 := q.2.2.2.2.1
def MP_fault (q : MP) : Int32 := q.2.2.2.2.2.1
def MP_faultAt (q : MP) : Int32 := q.2.2.2.2.2.2
def MP_set_text (q : MP) (v : Nat → Int32) : MP := (v, q.2.1, q.2.2.1, q.2.2.2.1, q.2.2.2.2.1, q.2.2.2.2.2.1, q.2.2.2.2.2.2)
def MP_set_length (q : MP) (v : Int32) : MP := (q.1, v, q.2.2.1, q.2.2.2.1, q.2.2.2.2.1, q.2.2.2.2.2.1, q.2.2.2.2.2.2)
def MP_set_from (q : MP) (v : Int32) : MP := (q.1, q.2.1, v, q.2.2.2.1, q.2.2.2.2.1, q.2.2.2.2.2.1, q.2.2.2.2.2.2)
def MP_set_to (q : MP) (v : Int32) : MP := (q.1, q.2.1, q.2.2.1, v, q.2.2.2.2.1, q.2.2.2.2.2.1, q.2.2.2.2.2.2)
def MP_set_end_ (q : MP) (v : Int32) : MP := (q.1, q.2.1, q.2.2.1, q.2.2.2.1, v, q.2.2.2.2.2.1, q.2.2.2.2.2.2)
def MP_set_fault (q : MP) (v : Int32) : MP := (q.1, q.2.1, q.2.2.1, q.2.2.2.1, q.2.2.2.2.1, v, q.2.2.2.2.2.2)
def MP_set_faultAt (q : MP) (v : Int32) : MP := (q.1, q.2.1, q.2.2.1, q.2.2.2.1, q.2.2.2.2.1, q.2.2.2.2.2.1, v)
theorem MP_text_set_text (q : MP) (v : Nat → Int32) : MP_text (MP_set_text q v) = v := rfl
theorem MP_length_set_text (q : MP) (v : Nat → Int32) : MP_length (MP_set_text q v) = MP_length q := rfl
theorem MP_from_set_text (q : MP) (v : Nat → Int32) : MP_from (MP_set_text q v) = MP_from q := rfl
theorem MP_to_set_text (q : MP) (v : Nat → Int32) : MP_to (MP_set_text q v) = MP_to q := rfl
theorem MP_end__set_text (q : MP) (v : Nat → Int32) : MP_end_ (MP_set_text q v) = MP_end_ q := rfl
theorem MP_fault_set_text (q : MP) (v : Nat → Int32) : MP_fault (MP_set_text q v) = MP_fault q := rfl
theorem MP_faultAt_set_text (q : MP) (v : Nat → Int32) : MP_faultAt (MP_set_text q v) = MP_faultAt q := rfl
theorem MP_text_set_length (q : MP) (v : Int32) : MP_text (MP_set_length q v) = MP_text q := rfl
theorem MP_length_set_length (q : MP) (v : Int32) : MP_length (MP_set_length q v) = v := rfl
theorem MP_from_set_length (q : MP) (v : Int32) : MP_from (MP_set_length q v) = MP_from q := rfl
theorem MP_to_set_length (q : MP) (v : Int32) : MP_to (MP_set_length q v) = MP_to q := rfl
theorem MP_end__set_length (q : MP) (v : Int32) : MP_end_ (MP_set_length q v) = MP_end_ q := rfl
theorem MP_fault_set_length (q : MP) (v : Int32) : MP_fault (MP_set_length q v) = MP_fault q := rfl
theorem MP_faultAt_set_length (q : MP) (v : Int32) : MP_faultAt (MP_set_length q v) = MP_faultAt q := rfl
theorem MP_text_set_from (q : MP) (v : Int32) : MP_text (MP_set_from q v) = MP_text q := rfl
theorem MP_length_set_from (q : MP) (v : Int32) : MP_length (MP_set_from q v) = MP_length q := rfl
theorem MP_from_set_from (q : MP) (v : Int32) : MP_from (MP_set_from q v) = v := rfl
theorem MP_to_set_from (q : MP) (v : Int32) : MP_to (MP_set_from q v) = MP_to q := rfl
theorem MP_end__set_from (q : MP) (v : Int32) : MP_end_ (MP_set_from q v) = MP_end_ q := rfl
theorem MP_fault_set_from (q : MP) (v : Int32) : MP_fault (MP_set_from q v) = MP_fault q := rfl
theorem MP_faultAt_set_from (q : MP) (v : Int32) : MP_faultAt (MP_set_from q v) = MP_faultAt q := rfl
theorem MP_text_set_to (q : MP) (v : Int32) : MP_text (MP_set_to q v) = MP_text q := rfl
theorem MP_length_set_to (q : MP) (v : Int32) : MP_length (MP_set_to q v) = MP_length q := rfl
theorem MP_from_set_to (q : MP) (v : Int32) : MP_from (MP_set_to q v) = MP_from q := rfl
theorem MP_to_set_to (q : MP) (v : Int32) : MP_to (MP_set_to q v) = v := rfl
theorem MP_end__set_to (q : MP) (v : Int32) : MP_end_ (MP_set_to q v) = MP_end_ q := rfl
theorem MP_fault_set_to (q : MP) (v : Int32) : MP_fault (MP_set_to q v) = MP_fault q := rfl
theorem MP_faultAt_set_to (q : MP) (v : Int32) : MP_faultAt (MP_set_to q v) = MP_faultAt q := rfl
theorem MP_text_set_end_ (q : MP) (v : Int32) : MP_text (MP_set_end_ q v) = MP_text q := rfl
theorem MP_length_set_end_ (q : MP) (v : Int32) : MP_length (MP_set_end_ q v) = MP_length q := rfl
theorem MP_from_set_end_ (q : MP) (v : Int32) : MP_from (MP_set_end_ q v) = MP_from q := rfl
theorem MP_to_set_end_ (q : MP) (v : Int32) : MP_to (MP_set_end_ q v) = MP_to q := rfl
theorem MP_end__set_end_ (q : MP) (v : Int32) : MP_end_ (MP_set_end_ q v) = v := rfl
theorem MP_fault_set_end_ (q : MP) (v : Int32) : MP_fault (MP_set_end_ q v) = MP_fault q := rfl
theorem MP_faultAt_set_end_ (q : MP) (v : Int32) : MP_faultAt (MP_set_end_ q v) = MP_faultAt q := rfl
theorem MP_text_set_fault (q : MP) (v : Int32) : MP_text (MP_set_fault q v) = MP_text q := rfl
theorem MP_length_set_fault (q : MP) (v : Int32) : MP_length (MP_set_fault q v) = MP_length q := rfl
theorem MP_from_set_fault (q : MP) (v : Int32) : MP_from (MP_set_fault q v) = MP_from q := rfl
theorem MP_to_set_fault (q : MP) (v : Int32) : MP_to (MP_set_fault q v) = MP_to q := rfl
theorem MP_end__set_fault (q : MP) (v : Int32) : MP_end_ (MP_set_fault q v) = MP_end_ q := rfl
theorem MP_fault_set_fault (q : MP) (v : Int32) : MP_fault (MP_set_fault q v) = v := rfl
theorem MP_faultAt_set_fault (q : MP) (v : Int32) : MP_faultAt (MP_set_fault q v) = MP_faultAt q := rfl
theorem MP_text_set_faultAt (q : MP) (v : Int32) : MP_text (MP_set_faultAt q v) = MP_text q := rfl
theorem MP_length_set_faultAt (q : MP) (v : Int32) : MP_length (MP_set_faultAt q v) = MP_length q := rfl
theorem MP_from_set_faultAt (q : MP) (v : Int32) : MP_from (MP_set_faultAt q v) = MP_from q := rfl
theorem MP_to_set_faultAt (q : MP) (v : Int32) : MP_to (MP_set_faultAt q v) = MP_to q := rfl
theorem MP_end__set_faultAt (q : MP) (v : Int32) : MP_end_ (MP_set_faultAt q v) = MP_end_ q := rfl
theorem MP_fault_set_faultAt (q : MP) (v : Int32) : MP_fault (MP_set_faultAt q v) = MP_fault q := rfl
theorem MP_faultAt_set_faultAt (q : MP) (v : Int32) : MP_faultAt (MP_set_faultAt q v) = v := rfl
abbrev MF : Type := (Int32) × (Int32)
def MF_first (q : MF) : Int32 := q.1
def MF_second (q : MF) : Int32 := q.2
def MF_set_first (q : MF) (v : Int32) : MF := (v, q.2)
def MF_set_second (q : MF) (v : Int32) : MF := (q.1, v)
theorem MF_first_set_first (q : MF) (v : Int32) : MF_first (MF_set_first q v) = v := rfl
theorem MF_second_set_first (q : MF) (v : Int32) : MF_second (MF_set_first q v) = MF_second q := rfl
theorem MF_first_set_second (q : MF) (v : Int32) : MF_first (MF_set_second q v) = MF_first q := rfl
theorem MF_second_set_second (q : MF) (v : Int32) : MF_second (MF_set_second q v) = v := rfl
abbrev MH : Type := (Int32) × (Int32)
def MH_sprayed (q : MH) : Int32 := q.1
def MH_foundSet (q : MH) : Int32 := q.2
def MH_set_sprayed (q : MH) (v : Int32) : MH := (v, q.2)
def MH_set_foundSet (q : MH) (v : Int32) : MH := (q.1, v)
theorem MH_sprayed_set_sprayed (q : MH) (v : Int32) : MH_sprayed (MH_set_sprayed q v) = v := rfl
theorem MH_foundSet_set_sprayed (q : MH) (v : Int32) : MH_foundSet (MH_set_sprayed q v) = MH_foundSet q := rfl
theorem MH_sprayed_set_foundSet (q : MH) (v : Int32) : MH_sprayed (MH_set_foundSet q v) = MH_sprayed q := rfl
theorem MH_foundSet_set_foundSet (q : MH) (v : Int32) : MH_foundSet (MH_set_foundSet q v) = v := rfl
abbrev MG : Type := (Nat → Int32) × (Int32)
def MG_page (q : MG) : Nat → Int32 := q.1
def MG_pageLength (q : MG) : Int32 := q.2
def MG_set_page (q : MG) (v : Nat → Int32) : MG := (v, q.2)
def MG_set_pageLength (q : MG) (v : Int32) : MG := (q.1, v)
theorem MG_page_set_page (q : MG) (v : Nat → Int32) : MG_page (MG_set_page q v) = v := rfl
theorem MG_pageLength_set_page (q : MG) (v : Nat → Int32) : MG_pageLength (MG_set_page q v) = MG_pageLength q := rfl
theorem MG_page_set_pageLength (q : MG) (v : Int32) : MG_page (MG_set_pageLength q v) = MG_page q := rfl
theorem MG_pageLength_set_pageLength (q : MG) (v : Int32) : MG_pageLength (MG_set_pageLength q v) = v := rfl
def updF {n : Nat} {α : Type} (f : Fin n → α) (j : Fin n) (x : α) : Fin n → α := fun i => if i = j then x else f i
theorem updF_same {n : Nat} {α : Type} (f : Fin n → α) (j : Fin n) (x : α) : updF f j x j = x := if_pos rfl
theorem updF_ne {n : Nat} {α : Type} (f : Fin n → α) {i j : Fin n} (x : α) (h : i ≠ j) : updF f j x i = f i := if_neg h
theorem updF_self {n : Nat} {α : Type} (f : Fin n → α) (j : Fin n) : updF f j (f j) = f := by
  funext i
  unfold updF
  split
  · rename_i h; rw [h]
  · rfl
theorem updF_upd {n : Nat} {α : Type} (f : Fin n → α) (j : Fin n) (x y : α) : updF (updF f j x) j y = updF f j y := by
  funext i
  unfold updF
  split <;> rfl
theorem fin2 {P : Fin 2 → Prop} (h0 : P 0) (h1 : P 1) : ∀ i, P i := fun i => match i with
  | ⟨0, _⟩ => h0
  | ⟨1, _⟩ => h1
theorem fin12 {P : Fin 12 → Prop} (h0 : P 0) (h1 : P 1) (h2 : P 2) (h3 : P 3) (h4 : P 4) (h5 : P 5) (h6 : P 6) (h7 : P 7) (h8 : P 8) (h9 : P 9) (h10 : P 10) (h11 : P 11) : ∀ i, P i := fun i => match i with
  | ⟨0, _⟩ => h0
  | ⟨1, _⟩ => h1
  | ⟨2, _⟩ => h2
  | ⟨3, _⟩ => h3
  | ⟨4, _⟩ => h4
  | ⟨5, _⟩ => h5
  | ⟨6, _⟩ => h6
  | ⟨7, _⟩ => h7
  | ⟨8, _⟩ => h8
  | ⟨9, _⟩ => h9
  | ⟨10, _⟩ => h10
  | ⟨11, _⟩ => h11
def fLay (k : KT) (i : Fin 2) (L : LL) : List Value := [.int (LL_chambers L), .int (LL_pumps L), .int (LL_valves L), .int (LL_flanges L), .ref (k.b + (4 + 17 * i.val + 1)), .ref (k.b + (4 + 17 * i.val + 2)), .ref (k.b + (4 + 17 * i.val + 3)), .ref (k.b + (4 + 17 * i.val + 4)), .ref (k.b + (4 + 17 * i.val + 5)), .ref (k.b + (4 + 17 * i.val + 6)), .ref (k.b + (4 + 17 * i.val + 7)), .ref (k.b + (4 + 17 * i.val + 8)), .ref (k.b + (4 + 17 * i.val + 9)), .ref (k.b + (4 + 17 * i.val + 10)), .ref (k.b + (4 + 17 * i.val + 11)), .ref (k.b + (4 + 17 * i.val + 12)), .ref (k.b + (4 + 17 * i.val + 13)), .ref (k.b + (4 + 17 * i.val + 14)), .ref (k.b + (4 + 17 * i.val + 15))]
def cLay (k : KT) (i : Fin 2) (L : LL) : va_W := [(k.b + (4 + 17 * i.val), .inr (1, fLay k i L)), (k.b + (4 + 17 * i.val + 1), .inl (k.c 0, (8, .inl (LL_volume L)))), (k.b + (4 + 17 * i.val + 2), .inl (k.c 0, (8, .inl (LL_firstOutgassing L)))), (k.b + (4 + 17 * i.val + 3), .inl (k.c 0, (8, .inl (LL_decay L)))), (k.b + (4 + 17 * i.val + 4), .inl (k.c 0, (6, .inl (LL_pumpChamber L)))), (k.b + (4 + 17 * i.val + 5), .inl (k.c 0, (6, .inl (LL_exhaust L)))), (k.b + (4 + 17 * i.val + 6), .inl (k.c 0, (6, .inl (LL_speed L)))), (k.b + (4 + 17 * i.val + 7), .inl (k.c 0, (6, .inl (LL_low L)))), (k.b + (4 + 17 * i.val + 8), .inl (k.c 0, (6, .inl (LL_high L)))), (k.b + (4 + 17 * i.val + 9), .inl (k.c 0, (6, .inl (LL_backing L)))), (k.b + (4 + 17 * i.val + 10), .inl (k.c 0, (10, .inl (LL_valveChamber L)))), (k.b + (4 + 17 * i.val + 11), .inl (k.c 0, (10, .inl (LL_otherSide L)))), (k.b + (4 + 17 * i.val + 12), .inl (k.c 0, (10, .inl (LL_conductance L)))), (k.b + (4 + 17 * i.val + 13), .inl (k.c 0, (10, .inl (LL_firstRule L)))), (k.b + (4 + 17 * i.val + 14), .inl (k.c 0, (24, .inl (LL_flangeChamber L)))), (k.b + (4 + 17 * i.val + 15), .inl (k.c 0, (24, .inl (LL_firstLeak L))))]
def fSt (k : KT) (j : Fin 12) (S : SS) : List Value := [.ref (k.b + (4)), .int (SS_time S), .int (SS_openValves S), .int (SS_runningPumps S), .ref (k.b + (45 + 12 * j.val + 1)), .ref (k.b + (45 + 12 * j.val + 2)), .ref (k.b + (45 + 12 * j.val + 3)), .ref (k.b + (45 + 12 * j.val + 4)), .ref (k.b + (45 + 12 * j.val + 5)), .ref (k.b + (45 + 12 * j.val + 6)), .ref (k.b + (45 + 12 * j.val + 7)), .ref (k.b + (45 + 12 * j.val + 8)), .ref (k.b + (45 + 12 * j.val + 9))]
def fTl (k : KT) (j : Fin 12) (S : SS) : List Value := [.int (SS_kept S), .int (SS_next S), .ref (k.b + (45 + 12 * j.val + 10)), .ref (k.b + (45 + 12 * j.val + 11))]
def cSt (k : KT) (j : Fin 12) (S : SS) : va_W := [(k.b + (45 + 12 * j.val), .inr (5, fSt k j S)), (k.b + (45 + 12 * j.val + 1), .inl (k.c 1, (8, .inr (.inl (SS_gas S))))), (k.b + (45 + 12 * j.val + 2), .inl (k.c 0, (9, .inl (SS_pressure S)))), (k.b + (45 + 12 * j.val + 3), .inl (k.c 0, (8, .inl (SS_outgassing S)))), (k.b + (45 + 12 * j.val + 4), .inl (k.c 0, (8, .inl (SS_leakSum S)))), (k.b + (45 + 12 * j.val + 5), .inl (k.c 0, (10, .inl (SS_rule S)))), (k.b + (45 + 12 * j.val + 6), .inl (k.c 0, (10, .inl (SS_valveTrips S)))), (k.b + (45 + 12 * j.val + 7), .inl (k.c 0, (6, .inl (SS_pumpTrips S)))), (k.b + (45 + 12 * j.val + 8), .inl (k.c 0, (24, .inl (SS_leak S)))), (k.b + (45 + 12 * j.val + 9), .inr (7, fTl k j S)), (k.b + (45 + 12 * j.val + 10), .inl (k.c 0, (40, .inl (SS_facts S)))), (k.b + (45 + 12 * j.val + 11), .inl (k.c 1, (20, .inr (.inl (SS_rises S)))))]
def fMain (k : KT) (tp : TP) (ee : EE) : List Value := [.ref (k.b + (1)), .ref (k.b + (3)), .ref (k.b + (4)), .ref (k.b + (20)), .ref (k.b + (37)), .ref (k.b + (38)), .ref (k.b + (42)), .ref (k.b + (44)), .ref (k.b + (45 + 12 * (TP_pr tp).val)), .ref (k.b + (45 + 12 * (TP_tr tp).val)), .int (TP_nextPast tp), .int (TP_undoable tp), .int (EE_code ee), .int (EE_pos ee)]
def fText (k : KT) (T : TT) : List Value := [.ref (k.b + (2)), .int (TT_length T)]
def fReader (k : KT) (R : RR) : List Value := [.ref (k.b + (1)), .int (RR_kind R), .int (RR_start R), .int (RR_end_ R), .int (RR_value R), .int (RR_errorCode R), .int (RR_errorPosition R)]
def fParser (k : KT) : List Value := [.ref (k.b + (3)), .ref (k.b + (21))]
def fRecipe (k : KT) (rc : RC) : List Value := [.ref (k.b + (3)), .ref (k.b + (4)), .int (RC_first rc), .int (RC_second rc)]
def fHunt (k : KT) (hn : HN) : List Value := [.ref (k.b + (39)), .ref (k.b + (40)), .ref (k.b + (41)), .int (HN_groups hn), .int (HN_sprayed hn), .int (HN_foundSet hn)]
def fReport (k : KT) (rp : RP) : List Value := [.ref (k.b + (43)), .int (RP_length rp)]
def fModel (k : KT) (mu : MU) (th : Int32) (mp : MP) (mf : MF) (mh : MH) (mg : MG) : List Value := [.ref (k.b + (190)), .ref (k.b + (191)), .ref (k.b + (192)), .ref (k.b + (193)), .ref (k.b + (194)), .int (MU_pastCount mu), .int th, .ref (k.b + (195)), .int (MP_length mp), .int (MP_from mp), .int (MP_to mp), .int (MP_end_ mp), .int (MP_fault mp), .int (MP_faultAt mp), .int (MF_first mf), .int (MF_second mf), .int (MH_sprayed mh), .int (MH_foundSet mh), .ref (k.b + (196)), .int (MG_pageLength mg)]
def wAll (k : KT) (T : TT) (R : RR) (ly : Fin 2 → LL) (rc : RC) (hn : HN) (rp : RP) (tp : TP) (ee : EE) (st : Fin 12 → SS) (w : Nat → Int64) (aside : Nat → Int64) (thought : Nat → Int64) (fresh : Nat → Int64) (mu : MU) (th : Int32) (mp : MP) (mf : MF) (mh : MH) (mg : MG) (ou : Nat → Int64) (od : Nat → UInt64) : va_W := [(k.b + (0), .inr (9, fMain k tp ee)), (k.b + (1), .inr (8, fText k T)), (k.b + (2), .inl (k.c 2, (900, .inl (TT_bytes T)))), (k.b + (3), .inr (2, fReader k R))] ++ (cLay k 0 (ly 0) ++ ([(k.b + (20), .inr (6, fParser k))] ++ (cLay k 1 (ly 1) ++ ([(k.b + (37), .inr (3, fRecipe k rc)), (k.b + (38), .inr (0, fHunt k hn)), (k.b + (39), .inl (k.c 0, (24, .inl (HN_numbers hn)))), (k.b + (40), .inl (k.c 0, (47, .inl (HN_froms hn)))), (k.b + (41), .inl (k.c 0, (47, .inl (HN_sizes hn)))), (k.b + (42), .inr (4, fReport k rp)), (k.b + (43), .inl (k.c 2, (246, .inl (RP_bytes rp)))), (k.b + (44), .inl (k.c 4, (10, .inr (.inr (.inr (.inr (fun i => some (k.b + (45 + 12 * (TP_past tp i).val)))))))))] ++ (cSt k 0 (st 0) ++ (cSt k 1 (st 1) ++ (cSt k 2 (st 2) ++ (cSt k 3 (st 3) ++ (cSt k 4 (st 4) ++ (cSt k 5 (st 5) ++ (cSt k 6 (st 6) ++ (cSt k 7 (st 7) ++ (cSt k 8 (st 8) ++ (cSt k 9 (st 9) ++ (cSt k 10 (st 10) ++ (cSt k 11 (st 11) ++ ([(k.b + (189), .inr (10, fModel k mu th mp mf mh mg)), (k.b + (190), .inl (k.c 1, (256, .inr (.inl (w))))), (k.b + (191), .inl (k.c 1, (256, .inr (.inl (aside))))), (k.b + (192), .inl (k.c 1, (256, .inr (.inl (thought))))), (k.b + (193), .inl (k.c 1, (256, .inr (.inl (fresh))))), (k.b + (194), .inl (k.c 1, (2560, .inr (.inl (MU_past mu))))), (k.b + (195), .inl (k.c 2, (900, .inl (MP_text mp)))), (k.b + (196), .inl (k.c 2, (900, .inl (MG_page mg)))), (k.b + (197), .inl (k.c 1, (1, .inr (.inl (ou))))), (k.b + (198), .inl (k.c 3, (1, .inr (.inr (.inr (.inl (od)))))))])))))))))))))))))
section WORLD
variable {k : KT} {T : TT} {R : RR} {ly : Fin 2 → LL} {rc : RC} {hn : HN} {rp : RP} {tp : TP} {ee : EE} {st : Fin 12 → SS} {w : Nat → Int64} {aside : Nat → Int64} {thought : Nat → Int64} {fresh : Nat → Int64} {mu : MU} {th : Int32} {mp : MP} {mf : MF} {mh : MH} {mg : MG} {ou : Nat → Int64} {od : Nat → UInt64}
theorem o_main : (wAll k T R ly rc hn rp tp ee st w aside thought fresh mu th mp mf mh mg ou od)[0]? = some (k.b + (0), .inr (9, fMain k tp ee)) := rfl
theorem o_text : (wAll k T R ly rc hn rp tp ee st w aside thought fresh mu th mp mf mh mg ou od)[1]? = some (k.b + (1), .inr (8, fText k T)) := rfl
theorem a_T_bytes : (wAll k T R ly rc hn rp tp ee st w aside thought fresh mu th mp mf mh mg ou od)[2]? = some (k.b + (2), .inl (k.c 2, (900, .inl (TT_bytes T)))) := rfl
theorem o_reader : (wAll k T R ly rc hn rp tp ee st w aside thought fresh mu th mp mf mh mg ou od)[3]? = some (k.b + (3), .inr (2, fReader k R)) := rfl
theorem o_parser : (wAll k T R ly rc hn rp tp ee st w aside thought fresh mu th mp mf mh mg ou od)[20]? = some (k.b + (20), .inr (6, fParser k)) := rfl
theorem o_recipe : (wAll k T R ly rc hn rp tp ee st w aside thought fresh mu th mp mf mh mg ou od)[37]? = some (k.b + (37), .inr (3, fRecipe k rc)) := rfl
theorem o_hunt : (wAll k T R ly rc hn rp tp ee st w aside thought fresh mu th mp mf mh mg ou od)[38]? = some (k.b + (38), .inr (0, fHunt k hn)) := rfl
theorem a_hn_numbers : (wAll k T R ly rc hn rp tp ee st w aside thought fresh mu th mp mf mh mg ou od)[39]? = some (k.b + (39), .inl (k.c 0, (24, .inl (HN_numbers hn)))) := rfl
theorem a_hn_froms : (wAll k T R ly rc hn rp tp ee st w aside thought fresh mu th mp mf mh mg ou od)[40]? = some (k.b + (40), .inl (k.c 0, (47, .inl (HN_froms hn)))) := rfl
theorem a_hn_sizes : (wAll k T R ly rc hn rp tp ee st w aside thought fresh mu th mp mf mh mg ou od)[41]? = some (k.b + (41), .inl (k.c 0, (47, .inl (HN_sizes hn)))) := rfl
theorem o_report : (wAll k T R ly rc hn rp tp ee st w aside thought fresh mu th mp mf mh mg ou od)[42]? = some (k.b + (42), .inr (4, fReport k rp)) := rfl
theorem a_rp_bytes : (wAll k T R ly rc hn rp tp ee st w aside thought fresh mu th mp mf mh mg ou od)[43]? = some (k.b + (43), .inl (k.c 2, (246, .inl (RP_bytes rp)))) := rfl
theorem a_past : (wAll k T R ly rc hn rp tp ee st w aside thought fresh mu th mp mf mh mg ou od)[44]? = some (k.b + (44), .inl (k.c 4, (10, .inr (.inr (.inr (.inr (fun i => some (k.b + (45 + 12 * (TP_past tp i).val))))))))) := rfl
theorem o_model : (wAll k T R ly rc hn rp tp ee st w aside thought fresh mu th mp mf mh mg ou od)[189]? = some (k.b + (189), .inr (10, fModel k mu th mp mf mh mg)) := rfl
theorem a_m_w : (wAll k T R ly rc hn rp tp ee st w aside thought fresh mu th mp mf mh mg ou od)[190]? = some (k.b + (190), .inl (k.c 1, (256, .inr (.inl (w))))) := rfl
theorem a_m_aside : (wAll k T R ly rc hn rp tp ee st w aside thought fresh mu th mp mf mh mg ou od)[191]? = some (k.b + (191), .inl (k.c 1, (256, .inr (.inl (aside))))) := rfl
theorem a_m_thought : (wAll k T R ly rc hn rp tp ee st w aside thought fresh mu th mp mf mh mg ou od)[192]? = some (k.b + (192), .inl (k.c 1, (256, .inr (.inl (thought))))) := rfl
theorem a_m_fresh : (wAll k T R ly rc hn rp tp ee st w aside thought fresh mu th mp mf mh mg ou od)[193]? = some (k.b + (193), .inl (k.c 1, (256, .inr (.inl (fresh))))) := rfl
theorem a_m_past : (wAll k T R ly rc hn rp tp ee st w aside thought fresh mu th mp mf mh mg ou od)[194]? = some (k.b + (194), .inl (k.c 1, (2560, .inr (.inl (MU_past mu))))) := rfl
theorem a_m_text : (wAll k T R ly rc hn rp tp ee st w aside thought fresh mu th mp mf mh mg ou od)[195]? = some (k.b + (195), .inl (k.c 2, (900, .inl (MP_text mp)))) := rfl
theorem a_m_page : (wAll k T R ly rc hn rp tp ee st w aside thought fresh mu th mp mf mh mg ou od)[196]? = some (k.b + (196), .inl (k.c 2, (900, .inl (MG_page mg)))) := rfl
theorem a_m_ou : (wAll k T R ly rc hn rp tp ee st w aside thought fresh mu th mp mf mh mg ou od)[197]? = some (k.b + (197), .inl (k.c 1, (1, .inr (.inl (ou))))) := rfl
theorem a_m_od : (wAll k T R ly rc hn rp tp ee st w aside thought fresh mu th mp mf mh mg ou od)[198]? = some (k.b + (198), .inl (k.c 3, (1, .inr (.inr (.inr (.inl (od))))))) := rfl
theorem o_lay (i : Fin 2) : (wAll k T R ly rc hn rp tp ee st w aside thought fresh mu th mp mf mh mg ou od)[4 + 17 * i.val]? = some (k.b + (4 + 17 * i.val), .inr (1, fLay k i (ly i))) := by
  revert i
  exact fin2 rfl rfl
theorem a_lay_volume (i : Fin 2) : (wAll k T R ly rc hn rp tp ee st w aside thought fresh mu th mp mf mh mg ou od)[4 + 17 * i.val + 1]? = some (k.b + (4 + 17 * i.val + 1), .inl (k.c 0, (8, .inl (LL_volume (ly i))))) := by
  revert i
  exact fin2 rfl rfl
theorem a_lay_firstOutgassing (i : Fin 2) : (wAll k T R ly rc hn rp tp ee st w aside thought fresh mu th mp mf mh mg ou od)[4 + 17 * i.val + 2]? = some (k.b + (4 + 17 * i.val + 2), .inl (k.c 0, (8, .inl (LL_firstOutgassing (ly i))))) := by
  revert i
  exact fin2 rfl rfl
theorem a_lay_decay (i : Fin 2) : (wAll k T R ly rc hn rp tp ee st w aside thought fresh mu th mp mf mh mg ou od)[4 + 17 * i.val + 3]? = some (k.b + (4 + 17 * i.val + 3), .inl (k.c 0, (8, .inl (LL_decay (ly i))))) := by
  revert i
  exact fin2 rfl rfl
theorem a_lay_pumpChamber (i : Fin 2) : (wAll k T R ly rc hn rp tp ee st w aside thought fresh mu th mp mf mh mg ou od)[4 + 17 * i.val + 4]? = some (k.b + (4 + 17 * i.val + 4), .inl (k.c 0, (6, .inl (LL_pumpChamber (ly i))))) := by
  revert i
  exact fin2 rfl rfl
theorem a_lay_exhaust (i : Fin 2) : (wAll k T R ly rc hn rp tp ee st w aside thought fresh mu th mp mf mh mg ou od)[4 + 17 * i.val + 5]? = some (k.b + (4 + 17 * i.val + 5), .inl (k.c 0, (6, .inl (LL_exhaust (ly i))))) := by
  revert i
  exact fin2 rfl rfl
theorem a_lay_speed (i : Fin 2) : (wAll k T R ly rc hn rp tp ee st w aside thought fresh mu th mp mf mh mg ou od)[4 + 17 * i.val + 6]? = some (k.b + (4 + 17 * i.val + 6), .inl (k.c 0, (6, .inl (LL_speed (ly i))))) := by
  revert i
  exact fin2 rfl rfl
theorem a_lay_low (i : Fin 2) : (wAll k T R ly rc hn rp tp ee st w aside thought fresh mu th mp mf mh mg ou od)[4 + 17 * i.val + 7]? = some (k.b + (4 + 17 * i.val + 7), .inl (k.c 0, (6, .inl (LL_low (ly i))))) := by
  revert i
  exact fin2 rfl rfl
theorem a_lay_high (i : Fin 2) : (wAll k T R ly rc hn rp tp ee st w aside thought fresh mu th mp mf mh mg ou od)[4 + 17 * i.val + 8]? = some (k.b + (4 + 17 * i.val + 8), .inl (k.c 0, (6, .inl (LL_high (ly i))))) := by
  revert i
  exact fin2 rfl rfl
theorem a_lay_backing (i : Fin 2) : (wAll k T R ly rc hn rp tp ee st w aside thought fresh mu th mp mf mh mg ou od)[4 + 17 * i.val + 9]? = some (k.b + (4 + 17 * i.val + 9), .inl (k.c 0, (6, .inl (LL_backing (ly i))))) := by
  revert i
  exact fin2 rfl rfl
theorem a_lay_valveChamber (i : Fin 2) : (wAll k T R ly rc hn rp tp ee st w aside thought fresh mu th mp mf mh mg ou od)[4 + 17 * i.val + 10]? = some (k.b + (4 + 17 * i.val + 10), .inl (k.c 0, (10, .inl (LL_valveChamber (ly i))))) := by
  revert i
  exact fin2 rfl rfl
theorem a_lay_otherSide (i : Fin 2) : (wAll k T R ly rc hn rp tp ee st w aside thought fresh mu th mp mf mh mg ou od)[4 + 17 * i.val + 11]? = some (k.b + (4 + 17 * i.val + 11), .inl (k.c 0, (10, .inl (LL_otherSide (ly i))))) := by
  revert i
  exact fin2 rfl rfl
theorem a_lay_conductance (i : Fin 2) : (wAll k T R ly rc hn rp tp ee st w aside thought fresh mu th mp mf mh mg ou od)[4 + 17 * i.val + 12]? = some (k.b + (4 + 17 * i.val + 12), .inl (k.c 0, (10, .inl (LL_conductance (ly i))))) := by
  revert i
  exact fin2 rfl rfl
theorem a_lay_firstRule (i : Fin 2) : (wAll k T R ly rc hn rp tp ee st w aside thought fresh mu th mp mf mh mg ou od)[4 + 17 * i.val + 13]? = some (k.b + (4 + 17 * i.val + 13), .inl (k.c 0, (10, .inl (LL_firstRule (ly i))))) := by
  revert i
  exact fin2 rfl rfl
theorem a_lay_flangeChamber (i : Fin 2) : (wAll k T R ly rc hn rp tp ee st w aside thought fresh mu th mp mf mh mg ou od)[4 + 17 * i.val + 14]? = some (k.b + (4 + 17 * i.val + 14), .inl (k.c 0, (24, .inl (LL_flangeChamber (ly i))))) := by
  revert i
  exact fin2 rfl rfl
theorem a_lay_firstLeak (i : Fin 2) : (wAll k T R ly rc hn rp tp ee st w aside thought fresh mu th mp mf mh mg ou od)[4 + 17 * i.val + 15]? = some (k.b + (4 + 17 * i.val + 15), .inl (k.c 0, (24, .inl (LL_firstLeak (ly i))))) := by
  revert i
  exact fin2 rfl rfl
theorem o_st (j : Fin 12) : (wAll k T R ly rc hn rp tp ee st w aside thought fresh mu th mp mf mh mg ou od)[45 + 12 * j.val]? = some (k.b + (45 + 12 * j.val), .inr (5, fSt k j (st j))) := by
  revert j
  exact fin12 rfl rfl rfl rfl rfl rfl rfl rfl rfl rfl rfl rfl
theorem o_tl (j : Fin 12) : (wAll k T R ly rc hn rp tp ee st w aside thought fresh mu th mp mf mh mg ou od)[45 + 12 * j.val + 9]? = some (k.b + (45 + 12 * j.val + 9), .inr (7, fTl k j (st j))) := by
  revert j
  exact fin12 rfl rfl rfl rfl rfl rfl rfl rfl rfl rfl rfl rfl
theorem a_st_gas (j : Fin 12) : (wAll k T R ly rc hn rp tp ee st w aside thought fresh mu th mp mf mh mg ou od)[45 + 12 * j.val + 1]? = some (k.b + (45 + 12 * j.val + 1), .inl (k.c 1, (8, .inr (.inl (SS_gas (st j)))))) := by
  revert j
  exact fin12 rfl rfl rfl rfl rfl rfl rfl rfl rfl rfl rfl rfl
theorem a_st_pressure (j : Fin 12) : (wAll k T R ly rc hn rp tp ee st w aside thought fresh mu th mp mf mh mg ou od)[45 + 12 * j.val + 2]? = some (k.b + (45 + 12 * j.val + 2), .inl (k.c 0, (9, .inl (SS_pressure (st j))))) := by
  revert j
  exact fin12 rfl rfl rfl rfl rfl rfl rfl rfl rfl rfl rfl rfl
theorem a_st_outgassing (j : Fin 12) : (wAll k T R ly rc hn rp tp ee st w aside thought fresh mu th mp mf mh mg ou od)[45 + 12 * j.val + 3]? = some (k.b + (45 + 12 * j.val + 3), .inl (k.c 0, (8, .inl (SS_outgassing (st j))))) := by
  revert j
  exact fin12 rfl rfl rfl rfl rfl rfl rfl rfl rfl rfl rfl rfl
theorem a_st_leakSum (j : Fin 12) : (wAll k T R ly rc hn rp tp ee st w aside thought fresh mu th mp mf mh mg ou od)[45 + 12 * j.val + 4]? = some (k.b + (45 + 12 * j.val + 4), .inl (k.c 0, (8, .inl (SS_leakSum (st j))))) := by
  revert j
  exact fin12 rfl rfl rfl rfl rfl rfl rfl rfl rfl rfl rfl rfl
theorem a_st_rule (j : Fin 12) : (wAll k T R ly rc hn rp tp ee st w aside thought fresh mu th mp mf mh mg ou od)[45 + 12 * j.val + 5]? = some (k.b + (45 + 12 * j.val + 5), .inl (k.c 0, (10, .inl (SS_rule (st j))))) := by
  revert j
  exact fin12 rfl rfl rfl rfl rfl rfl rfl rfl rfl rfl rfl rfl
theorem a_st_valveTrips (j : Fin 12) : (wAll k T R ly rc hn rp tp ee st w aside thought fresh mu th mp mf mh mg ou od)[45 + 12 * j.val + 6]? = some (k.b + (45 + 12 * j.val + 6), .inl (k.c 0, (10, .inl (SS_valveTrips (st j))))) := by
  revert j
  exact fin12 rfl rfl rfl rfl rfl rfl rfl rfl rfl rfl rfl rfl
theorem a_st_pumpTrips (j : Fin 12) : (wAll k T R ly rc hn rp tp ee st w aside thought fresh mu th mp mf mh mg ou od)[45 + 12 * j.val + 7]? = some (k.b + (45 + 12 * j.val + 7), .inl (k.c 0, (6, .inl (SS_pumpTrips (st j))))) := by
  revert j
  exact fin12 rfl rfl rfl rfl rfl rfl rfl rfl rfl rfl rfl rfl
theorem a_st_leak (j : Fin 12) : (wAll k T R ly rc hn rp tp ee st w aside thought fresh mu th mp mf mh mg ou od)[45 + 12 * j.val + 8]? = some (k.b + (45 + 12 * j.val + 8), .inl (k.c 0, (24, .inl (SS_leak (st j))))) := by
  revert j
  exact fin12 rfl rfl rfl rfl rfl rfl rfl rfl rfl rfl rfl rfl
theorem a_st_facts (j : Fin 12) : (wAll k T R ly rc hn rp tp ee st w aside thought fresh mu th mp mf mh mg ou od)[45 + 12 * j.val + 10]? = some (k.b + (45 + 12 * j.val + 10), .inl (k.c 0, (40, .inl (SS_facts (st j))))) := by
  revert j
  exact fin12 rfl rfl rfl rfl rfl rfl rfl rfl rfl rfl rfl rfl
theorem a_st_rises (j : Fin 12) : (wAll k T R ly rc hn rp tp ee st w aside thought fresh mu th mp mf mh mg ou od)[45 + 12 * j.val + 11]? = some (k.b + (45 + 12 * j.val + 11), .inl (k.c 1, (20, .inr (.inl (SS_rises (st j)))))) := by
  revert j
  exact fin12 rfl rfl rfl rfl rfl rfl rfl rfl rfl rfl rfl rfl
theorem o_st1 (j : Fin 12) (S : SS) : (wAll k T R ly rc hn rp tp ee (updF st j S) w aside thought fresh mu th mp mf mh mg ou od)[45 + 12 * j.val]? = some (k.b + (45 + 12 * j.val), .inr (5, fSt k j S)) := by
  have h := o_st (k := k) (st := updF st j S) j (T := T) (R := R) (ly := ly) (rc := rc) (hn := hn) (rp := rp) (tp := tp) (ee := ee) (w := w) (aside := aside) (thought := thought) (fresh := fresh) (mu := mu) (th := th) (mp := mp) (mf := mf) (mh := mh) (mg := mg) (ou := ou) (od := od)
  rw [updF_same] at h
  exact h
theorem o_tl1 (j : Fin 12) (S : SS) : (wAll k T R ly rc hn rp tp ee (updF st j S) w aside thought fresh mu th mp mf mh mg ou od)[45 + 12 * j.val + 9]? = some (k.b + (45 + 12 * j.val + 9), .inr (7, fTl k j S)) := by
  have h := o_tl (k := k) (st := updF st j S) j (T := T) (R := R) (ly := ly) (rc := rc) (hn := hn) (rp := rp) (tp := tp) (ee := ee) (w := w) (aside := aside) (thought := thought) (fresh := fresh) (mu := mu) (th := th) (mp := mp) (mf := mf) (mh := mh) (mg := mg) (ou := ou) (od := od)
  rw [updF_same] at h
  exact h
theorem a_st1_gas (j : Fin 12) (S : SS) : (wAll k T R ly rc hn rp tp ee (updF st j S) w aside thought fresh mu th mp mf mh mg ou od)[45 + 12 * j.val + 1]? = some (k.b + (45 + 12 * j.val + 1), .inl (k.c 1, (8, .inr (.inl (SS_gas S))))) := by
  have h := a_st_gas (k := k) (st := updF st j S) j (T := T) (R := R) (ly := ly) (rc := rc) (hn := hn) (rp := rp) (tp := tp) (ee := ee) (w := w) (aside := aside) (thought := thought) (fresh := fresh) (mu := mu) (th := th) (mp := mp) (mf := mf) (mh := mh) (mg := mg) (ou := ou) (od := od)
  rw [updF_same] at h
  exact h
theorem a_st1_pressure (j : Fin 12) (S : SS) : (wAll k T R ly rc hn rp tp ee (updF st j S) w aside thought fresh mu th mp mf mh mg ou od)[45 + 12 * j.val + 2]? = some (k.b + (45 + 12 * j.val + 2), .inl (k.c 0, (9, .inl (SS_pressure S)))) := by
  have h := a_st_pressure (k := k) (st := updF st j S) j (T := T) (R := R) (ly := ly) (rc := rc) (hn := hn) (rp := rp) (tp := tp) (ee := ee) (w := w) (aside := aside) (thought := thought) (fresh := fresh) (mu := mu) (th := th) (mp := mp) (mf := mf) (mh := mh) (mg := mg) (ou := ou) (od := od)
  rw [updF_same] at h
  exact h
theorem a_st1_outgassing (j : Fin 12) (S : SS) : (wAll k T R ly rc hn rp tp ee (updF st j S) w aside thought fresh mu th mp mf mh mg ou od)[45 + 12 * j.val + 3]? = some (k.b + (45 + 12 * j.val + 3), .inl (k.c 0, (8, .inl (SS_outgassing S)))) := by
  have h := a_st_outgassing (k := k) (st := updF st j S) j (T := T) (R := R) (ly := ly) (rc := rc) (hn := hn) (rp := rp) (tp := tp) (ee := ee) (w := w) (aside := aside) (thought := thought) (fresh := fresh) (mu := mu) (th := th) (mp := mp) (mf := mf) (mh := mh) (mg := mg) (ou := ou) (od := od)
  rw [updF_same] at h
  exact h
theorem a_st1_leakSum (j : Fin 12) (S : SS) : (wAll k T R ly rc hn rp tp ee (updF st j S) w aside thought fresh mu th mp mf mh mg ou od)[45 + 12 * j.val + 4]? = some (k.b + (45 + 12 * j.val + 4), .inl (k.c 0, (8, .inl (SS_leakSum S)))) := by
  have h := a_st_leakSum (k := k) (st := updF st j S) j (T := T) (R := R) (ly := ly) (rc := rc) (hn := hn) (rp := rp) (tp := tp) (ee := ee) (w := w) (aside := aside) (thought := thought) (fresh := fresh) (mu := mu) (th := th) (mp := mp) (mf := mf) (mh := mh) (mg := mg) (ou := ou) (od := od)
  rw [updF_same] at h
  exact h
theorem a_st1_rule (j : Fin 12) (S : SS) : (wAll k T R ly rc hn rp tp ee (updF st j S) w aside thought fresh mu th mp mf mh mg ou od)[45 + 12 * j.val + 5]? = some (k.b + (45 + 12 * j.val + 5), .inl (k.c 0, (10, .inl (SS_rule S)))) := by
  have h := a_st_rule (k := k) (st := updF st j S) j (T := T) (R := R) (ly := ly) (rc := rc) (hn := hn) (rp := rp) (tp := tp) (ee := ee) (w := w) (aside := aside) (thought := thought) (fresh := fresh) (mu := mu) (th := th) (mp := mp) (mf := mf) (mh := mh) (mg := mg) (ou := ou) (od := od)
  rw [updF_same] at h
  exact h
theorem a_st1_valveTrips (j : Fin 12) (S : SS) : (wAll k T R ly rc hn rp tp ee (updF st j S) w aside thought fresh mu th mp mf mh mg ou od)[45 + 12 * j.val + 6]? = some (k.b + (45 + 12 * j.val + 6), .inl (k.c 0, (10, .inl (SS_valveTrips S)))) := by
  have h := a_st_valveTrips (k := k) (st := updF st j S) j (T := T) (R := R) (ly := ly) (rc := rc) (hn := hn) (rp := rp) (tp := tp) (ee := ee) (w := w) (aside := aside) (thought := thought) (fresh := fresh) (mu := mu) (th := th) (mp := mp) (mf := mf) (mh := mh) (mg := mg) (ou := ou) (od := od)
  rw [updF_same] at h
  exact h
theorem a_st1_pumpTrips (j : Fin 12) (S : SS) : (wAll k T R ly rc hn rp tp ee (updF st j S) w aside thought fresh mu th mp mf mh mg ou od)[45 + 12 * j.val + 7]? = some (k.b + (45 + 12 * j.val + 7), .inl (k.c 0, (6, .inl (SS_pumpTrips S)))) := by
  have h := a_st_pumpTrips (k := k) (st := updF st j S) j (T := T) (R := R) (ly := ly) (rc := rc) (hn := hn) (rp := rp) (tp := tp) (ee := ee) (w := w) (aside := aside) (thought := thought) (fresh := fresh) (mu := mu) (th := th) (mp := mp) (mf := mf) (mh := mh) (mg := mg) (ou := ou) (od := od)
  rw [updF_same] at h
  exact h
theorem a_st1_leak (j : Fin 12) (S : SS) : (wAll k T R ly rc hn rp tp ee (updF st j S) w aside thought fresh mu th mp mf mh mg ou od)[45 + 12 * j.val + 8]? = some (k.b + (45 + 12 * j.val + 8), .inl (k.c 0, (24, .inl (SS_leak S)))) := by
  have h := a_st_leak (k := k) (st := updF st j S) j (T := T) (R := R) (ly := ly) (rc := rc) (hn := hn) (rp := rp) (tp := tp) (ee := ee) (w := w) (aside := aside) (thought := thought) (fresh := fresh) (mu := mu) (th := th) (mp := mp) (mf := mf) (mh := mh) (mg := mg) (ou := ou) (od := od)
  rw [updF_same] at h
  exact h
theorem a_st1_facts (j : Fin 12) (S : SS) : (wAll k T R ly rc hn rp tp ee (updF st j S) w aside thought fresh mu th mp mf mh mg ou od)[45 + 12 * j.val + 10]? = some (k.b + (45 + 12 * j.val + 10), .inl (k.c 0, (40, .inl (SS_facts S)))) := by
  have h := a_st_facts (k := k) (st := updF st j S) j (T := T) (R := R) (ly := ly) (rc := rc) (hn := hn) (rp := rp) (tp := tp) (ee := ee) (w := w) (aside := aside) (thought := thought) (fresh := fresh) (mu := mu) (th := th) (mp := mp) (mf := mf) (mh := mh) (mg := mg) (ou := ou) (od := od)
  rw [updF_same] at h
  exact h
theorem a_st1_rises (j : Fin 12) (S : SS) : (wAll k T R ly rc hn rp tp ee (updF st j S) w aside thought fresh mu th mp mf mh mg ou od)[45 + 12 * j.val + 11]? = some (k.b + (45 + 12 * j.val + 11), .inl (k.c 1, (20, .inr (.inl (SS_rises S))))) := by
  have h := a_st_rises (k := k) (st := updF st j S) j (T := T) (R := R) (ly := ly) (rc := rc) (hn := hn) (rp := rp) (tp := tp) (ee := ee) (w := w) (aside := aside) (thought := thought) (fresh := fresh) (mu := mu) (th := th) (mp := mp) (mf := mf) (mh := mh) (mg := mg) (ou := ou) (od := od)
  rw [updF_same] at h
  exact h
theorem o_lay1 (i : Fin 2) (L : LL) : (wAll k T R (updF ly i L) rc hn rp tp ee st w aside thought fresh mu th mp mf mh mg ou od)[4 + 17 * i.val]? = some (k.b + (4 + 17 * i.val), .inr (1, fLay k i L)) := by
  have h := o_lay (k := k) (ly := updF ly i L) i (T := T) (R := R) (rc := rc) (hn := hn) (rp := rp) (tp := tp) (ee := ee) (st := st) (w := w) (aside := aside) (thought := thought) (fresh := fresh) (mu := mu) (th := th) (mp := mp) (mf := mf) (mh := mh) (mg := mg) (ou := ou) (od := od)
  rw [updF_same] at h
  exact h
theorem a_lay1_volume (i : Fin 2) (L : LL) : (wAll k T R (updF ly i L) rc hn rp tp ee st w aside thought fresh mu th mp mf mh mg ou od)[4 + 17 * i.val + 1]? = some (k.b + (4 + 17 * i.val + 1), .inl (k.c 0, (8, .inl (LL_volume L)))) := by
  have h := a_lay_volume (k := k) (ly := updF ly i L) i (T := T) (R := R) (rc := rc) (hn := hn) (rp := rp) (tp := tp) (ee := ee) (st := st) (w := w) (aside := aside) (thought := thought) (fresh := fresh) (mu := mu) (th := th) (mp := mp) (mf := mf) (mh := mh) (mg := mg) (ou := ou) (od := od)
  rw [updF_same] at h
  exact h
theorem a_lay1_firstOutgassing (i : Fin 2) (L : LL) : (wAll k T R (updF ly i L) rc hn rp tp ee st w aside thought fresh mu th mp mf mh mg ou od)[4 + 17 * i.val + 2]? = some (k.b + (4 + 17 * i.val + 2), .inl (k.c 0, (8, .inl (LL_firstOutgassing L)))) := by
  have h := a_lay_firstOutgassing (k := k) (ly := updF ly i L) i (T := T) (R := R) (rc := rc) (hn := hn) (rp := rp) (tp := tp) (ee := ee) (st := st) (w := w) (aside := aside) (thought := thought) (fresh := fresh) (mu := mu) (th := th) (mp := mp) (mf := mf) (mh := mh) (mg := mg) (ou := ou) (od := od)
  rw [updF_same] at h
  exact h
theorem a_lay1_decay (i : Fin 2) (L : LL) : (wAll k T R (updF ly i L) rc hn rp tp ee st w aside thought fresh mu th mp mf mh mg ou od)[4 + 17 * i.val + 3]? = some (k.b + (4 + 17 * i.val + 3), .inl (k.c 0, (8, .inl (LL_decay L)))) := by
  have h := a_lay_decay (k := k) (ly := updF ly i L) i (T := T) (R := R) (rc := rc) (hn := hn) (rp := rp) (tp := tp) (ee := ee) (st := st) (w := w) (aside := aside) (thought := thought) (fresh := fresh) (mu := mu) (th := th) (mp := mp) (mf := mf) (mh := mh) (mg := mg) (ou := ou) (od := od)
  rw [updF_same] at h
  exact h
theorem a_lay1_pumpChamber (i : Fin 2) (L : LL) : (wAll k T R (updF ly i L) rc hn rp tp ee st w aside thought fresh mu th mp mf mh mg ou od)[4 + 17 * i.val + 4]? = some (k.b + (4 + 17 * i.val + 4), .inl (k.c 0, (6, .inl (LL_pumpChamber L)))) := by
  have h := a_lay_pumpChamber (k := k) (ly := updF ly i L) i (T := T) (R := R) (rc := rc) (hn := hn) (rp := rp) (tp := tp) (ee := ee) (st := st) (w := w) (aside := aside) (thought := thought) (fresh := fresh) (mu := mu) (th := th) (mp := mp) (mf := mf) (mh := mh) (mg := mg) (ou := ou) (od := od)
  rw [updF_same] at h
  exact h
theorem a_lay1_exhaust (i : Fin 2) (L : LL) : (wAll k T R (updF ly i L) rc hn rp tp ee st w aside thought fresh mu th mp mf mh mg ou od)[4 + 17 * i.val + 5]? = some (k.b + (4 + 17 * i.val + 5), .inl (k.c 0, (6, .inl (LL_exhaust L)))) := by
  have h := a_lay_exhaust (k := k) (ly := updF ly i L) i (T := T) (R := R) (rc := rc) (hn := hn) (rp := rp) (tp := tp) (ee := ee) (st := st) (w := w) (aside := aside) (thought := thought) (fresh := fresh) (mu := mu) (th := th) (mp := mp) (mf := mf) (mh := mh) (mg := mg) (ou := ou) (od := od)
  rw [updF_same] at h
  exact h
theorem a_lay1_speed (i : Fin 2) (L : LL) : (wAll k T R (updF ly i L) rc hn rp tp ee st w aside thought fresh mu th mp mf mh mg ou od)[4 + 17 * i.val + 6]? = some (k.b + (4 + 17 * i.val + 6), .inl (k.c 0, (6, .inl (LL_speed L)))) := by
  have h := a_lay_speed (k := k) (ly := updF ly i L) i (T := T) (R := R) (rc := rc) (hn := hn) (rp := rp) (tp := tp) (ee := ee) (st := st) (w := w) (aside := aside) (thought := thought) (fresh := fresh) (mu := mu) (th := th) (mp := mp) (mf := mf) (mh := mh) (mg := mg) (ou := ou) (od := od)
  rw [updF_same] at h
  exact h
theorem a_lay1_low (i : Fin 2) (L : LL) : (wAll k T R (updF ly i L) rc hn rp tp ee st w aside thought fresh mu th mp mf mh mg ou od)[4 + 17 * i.val + 7]? = some (k.b + (4 + 17 * i.val + 7), .inl (k.c 0, (6, .inl (LL_low L)))) := by
  have h := a_lay_low (k := k) (ly := updF ly i L) i (T := T) (R := R) (rc := rc) (hn := hn) (rp := rp) (tp := tp) (ee := ee) (st := st) (w := w) (aside := aside) (thought := thought) (fresh := fresh) (mu := mu) (th := th) (mp := mp) (mf := mf) (mh := mh) (mg := mg) (ou := ou) (od := od)
  rw [updF_same] at h
  exact h
theorem a_lay1_high (i : Fin 2) (L : LL) : (wAll k T R (updF ly i L) rc hn rp tp ee st w aside thought fresh mu th mp mf mh mg ou od)[4 + 17 * i.val + 8]? = some (k.b + (4 + 17 * i.val + 8), .inl (k.c 0, (6, .inl (LL_high L)))) := by
  have h := a_lay_high (k := k) (ly := updF ly i L) i (T := T) (R := R) (rc := rc) (hn := hn) (rp := rp) (tp := tp) (ee := ee) (st := st) (w := w) (aside := aside) (thought := thought) (fresh := fresh) (mu := mu) (th := th) (mp := mp) (mf := mf) (mh := mh) (mg := mg) (ou := ou) (od := od)
  rw [updF_same] at h
  exact h
theorem a_lay1_backing (i : Fin 2) (L : LL) : (wAll k T R (updF ly i L) rc hn rp tp ee st w aside thought fresh mu th mp mf mh mg ou od)[4 + 17 * i.val + 9]? = some (k.b + (4 + 17 * i.val + 9), .inl (k.c 0, (6, .inl (LL_backing L)))) := by
  have h := a_lay_backing (k := k) (ly := updF ly i L) i (T := T) (R := R) (rc := rc) (hn := hn) (rp := rp) (tp := tp) (ee := ee) (st := st) (w := w) (aside := aside) (thought := thought) (fresh := fresh) (mu := mu) (th := th) (mp := mp) (mf := mf) (mh := mh) (mg := mg) (ou := ou) (od := od)
  rw [updF_same] at h
  exact h
theorem a_lay1_valveChamber (i : Fin 2) (L : LL) : (wAll k T R (updF ly i L) rc hn rp tp ee st w aside thought fresh mu th mp mf mh mg ou od)[4 + 17 * i.val + 10]? = some (k.b + (4 + 17 * i.val + 10), .inl (k.c 0, (10, .inl (LL_valveChamber L)))) := by
  have h := a_lay_valveChamber (k := k) (ly := updF ly i L) i (T := T) (R := R) (rc := rc) (hn := hn) (rp := rp) (tp := tp) (ee := ee) (st := st) (w := w) (aside := aside) (thought := thought) (fresh := fresh) (mu := mu) (th := th) (mp := mp) (mf := mf) (mh := mh) (mg := mg) (ou := ou) (od := od)
  rw [updF_same] at h
  exact h
theorem a_lay1_otherSide (i : Fin 2) (L : LL) : (wAll k T R (updF ly i L) rc hn rp tp ee st w aside thought fresh mu th mp mf mh mg ou od)[4 + 17 * i.val + 11]? = some (k.b + (4 + 17 * i.val + 11), .inl (k.c 0, (10, .inl (LL_otherSide L)))) := by
  have h := a_lay_otherSide (k := k) (ly := updF ly i L) i (T := T) (R := R) (rc := rc) (hn := hn) (rp := rp) (tp := tp) (ee := ee) (st := st) (w := w) (aside := aside) (thought := thought) (fresh := fresh) (mu := mu) (th := th) (mp := mp) (mf := mf) (mh := mh) (mg := mg) (ou := ou) (od := od)
  rw [updF_same] at h
  exact h
theorem a_lay1_conductance (i : Fin 2) (L : LL) : (wAll k T R (updF ly i L) rc hn rp tp ee st w aside thought fresh mu th mp mf mh mg ou od)[4 + 17 * i.val + 12]? = some (k.b + (4 + 17 * i.val + 12), .inl (k.c 0, (10, .inl (LL_conductance L)))) := by
  have h := a_lay_conductance (k := k) (ly := updF ly i L) i (T := T) (R := R) (rc := rc) (hn := hn) (rp := rp) (tp := tp) (ee := ee) (st := st) (w := w) (aside := aside) (thought := thought) (fresh := fresh) (mu := mu) (th := th) (mp := mp) (mf := mf) (mh := mh) (mg := mg) (ou := ou) (od := od)
  rw [updF_same] at h
  exact h
theorem a_lay1_firstRule (i : Fin 2) (L : LL) : (wAll k T R (updF ly i L) rc hn rp tp ee st w aside thought fresh mu th mp mf mh mg ou od)[4 + 17 * i.val + 13]? = some (k.b + (4 + 17 * i.val + 13), .inl (k.c 0, (10, .inl (LL_firstRule L)))) := by
  have h := a_lay_firstRule (k := k) (ly := updF ly i L) i (T := T) (R := R) (rc := rc) (hn := hn) (rp := rp) (tp := tp) (ee := ee) (st := st) (w := w) (aside := aside) (thought := thought) (fresh := fresh) (mu := mu) (th := th) (mp := mp) (mf := mf) (mh := mh) (mg := mg) (ou := ou) (od := od)
  rw [updF_same] at h
  exact h
theorem a_lay1_flangeChamber (i : Fin 2) (L : LL) : (wAll k T R (updF ly i L) rc hn rp tp ee st w aside thought fresh mu th mp mf mh mg ou od)[4 + 17 * i.val + 14]? = some (k.b + (4 + 17 * i.val + 14), .inl (k.c 0, (24, .inl (LL_flangeChamber L)))) := by
  have h := a_lay_flangeChamber (k := k) (ly := updF ly i L) i (T := T) (R := R) (rc := rc) (hn := hn) (rp := rp) (tp := tp) (ee := ee) (st := st) (w := w) (aside := aside) (thought := thought) (fresh := fresh) (mu := mu) (th := th) (mp := mp) (mf := mf) (mh := mh) (mg := mg) (ou := ou) (od := od)
  rw [updF_same] at h
  exact h
theorem a_lay1_firstLeak (i : Fin 2) (L : LL) : (wAll k T R (updF ly i L) rc hn rp tp ee st w aside thought fresh mu th mp mf mh mg ou od)[4 + 17 * i.val + 15]? = some (k.b + (4 + 17 * i.val + 15), .inl (k.c 0, (24, .inl (LL_firstLeak L)))) := by
  have h := a_lay_firstLeak (k := k) (ly := updF ly i L) i (T := T) (R := R) (rc := rc) (hn := hn) (rp := rp) (tp := tp) (ee := ee) (st := st) (w := w) (aside := aside) (thought := thought) (fresh := fresh) (mu := mu) (th := th) (mp := mp) (mf := mf) (mh := mh) (mg := mg) (ou := ou) (od := od)
  rw [updF_same] at h
  exact h
set_option maxRecDepth 100000 in
theorem s_tp_nextPast (v : Int32) : (wAll k T R ly rc hn rp tp ee st w aside thought fresh mu th mp mf mh mg ou od).set (0) (k.b + (0), .inr (9, fMain k (TP_set_nextPast tp v) ee)) = wAll k T R ly rc hn rp (TP_set_nextPast tp v) ee st w aside thought fresh mu th mp mf mh mg ou od := rfl
set_option maxRecDepth 100000 in
theorem s_tp_undoable (v : Int32) : (wAll k T R ly rc hn rp tp ee st w aside thought fresh mu th mp mf mh mg ou od).set (0) (k.b + (0), .inr (9, fMain k (TP_set_undoable tp v) ee)) = wAll k T R ly rc hn rp (TP_set_undoable tp v) ee st w aside thought fresh mu th mp mf mh mg ou od := rfl
set_option maxRecDepth 100000 in
theorem s_tp_pr (v : Fin 12) : (wAll k T R ly rc hn rp tp ee st w aside thought fresh mu th mp mf mh mg ou od).set (0) (k.b + (0), .inr (9, fMain k (TP_set_pr tp v) ee)) = wAll k T R ly rc hn rp (TP_set_pr tp v) ee st w aside thought fresh mu th mp mf mh mg ou od := rfl
set_option maxRecDepth 100000 in
theorem s_tp_tr (v : Fin 12) : (wAll k T R ly rc hn rp tp ee st w aside thought fresh mu th mp mf mh mg ou od).set (0) (k.b + (0), .inr (9, fMain k (TP_set_tr tp v) ee)) = wAll k T R ly rc hn rp (TP_set_tr tp v) ee st w aside thought fresh mu th mp mf mh mg ou od := rfl
set_option maxRecDepth 100000 in
theorem s_ee_code (v : Int32) : (wAll k T R ly rc hn rp tp ee st w aside thought fresh mu th mp mf mh mg ou od).set (0) (k.b + (0), .inr (9, fMain k tp (EE_set_code ee v))) = wAll k T R ly rc hn rp tp (EE_set_code ee v) st w aside thought fresh mu th mp mf mh mg ou od := rfl
set_option maxRecDepth 100000 in
theorem s_ee_pos (v : Int32) : (wAll k T R ly rc hn rp tp ee st w aside thought fresh mu th mp mf mh mg ou od).set (0) (k.b + (0), .inr (9, fMain k tp (EE_set_pos ee v))) = wAll k T R ly rc hn rp tp (EE_set_pos ee v) st w aside thought fresh mu th mp mf mh mg ou od := rfl
set_option maxRecDepth 100000 in
theorem s_T_length (v : Int32) : (wAll k T R ly rc hn rp tp ee st w aside thought fresh mu th mp mf mh mg ou od).set (1) (k.b + (1), .inr (8, fText k (TT_set_length T v))) = wAll k (TT_set_length T v) R ly rc hn rp tp ee st w aside thought fresh mu th mp mf mh mg ou od := rfl
set_option maxRecDepth 100000 in
theorem s_R_kind (v : Int32) : (wAll k T R ly rc hn rp tp ee st w aside thought fresh mu th mp mf mh mg ou od).set (3) (k.b + (3), .inr (2, fReader k (RR_set_kind R v))) = wAll k T (RR_set_kind R v) ly rc hn rp tp ee st w aside thought fresh mu th mp mf mh mg ou od := rfl
set_option maxRecDepth 100000 in
theorem s_R_start (v : Int32) : (wAll k T R ly rc hn rp tp ee st w aside thought fresh mu th mp mf mh mg ou od).set (3) (k.b + (3), .inr (2, fReader k (RR_set_start R v))) = wAll k T (RR_set_start R v) ly rc hn rp tp ee st w aside thought fresh mu th mp mf mh mg ou od := rfl
set_option maxRecDepth 100000 in
theorem s_R_end_ (v : Int32) : (wAll k T R ly rc hn rp tp ee st w aside thought fresh mu th mp mf mh mg ou od).set (3) (k.b + (3), .inr (2, fReader k (RR_set_end_ R v))) = wAll k T (RR_set_end_ R v) ly rc hn rp tp ee st w aside thought fresh mu th mp mf mh mg ou od := rfl
set_option maxRecDepth 100000 in
theorem s_R_value (v : Int32) : (wAll k T R ly rc hn rp tp ee st w aside thought fresh mu th mp mf mh mg ou od).set (3) (k.b + (3), .inr (2, fReader k (RR_set_value R v))) = wAll k T (RR_set_value R v) ly rc hn rp tp ee st w aside thought fresh mu th mp mf mh mg ou od := rfl
set_option maxRecDepth 100000 in
theorem s_R_errorCode (v : Int32) : (wAll k T R ly rc hn rp tp ee st w aside thought fresh mu th mp mf mh mg ou od).set (3) (k.b + (3), .inr (2, fReader k (RR_set_errorCode R v))) = wAll k T (RR_set_errorCode R v) ly rc hn rp tp ee st w aside thought fresh mu th mp mf mh mg ou od := rfl
set_option maxRecDepth 100000 in
theorem s_R_errorPosition (v : Int32) : (wAll k T R ly rc hn rp tp ee st w aside thought fresh mu th mp mf mh mg ou od).set (3) (k.b + (3), .inr (2, fReader k (RR_set_errorPosition R v))) = wAll k T (RR_set_errorPosition R v) ly rc hn rp tp ee st w aside thought fresh mu th mp mf mh mg ou od := rfl
set_option maxRecDepth 100000 in
theorem s_rc_first (v : Int32) : (wAll k T R ly rc hn rp tp ee st w aside thought fresh mu th mp mf mh mg ou od).set (37) (k.b + (37), .inr (3, fRecipe k (RC_set_first rc v))) = wAll k T R ly (RC_set_first rc v) hn rp tp ee st w aside thought fresh mu th mp mf mh mg ou od := rfl
set_option maxRecDepth 100000 in
theorem s_rc_second (v : Int32) : (wAll k T R ly rc hn rp tp ee st w aside thought fresh mu th mp mf mh mg ou od).set (37) (k.b + (37), .inr (3, fRecipe k (RC_set_second rc v))) = wAll k T R ly (RC_set_second rc v) hn rp tp ee st w aside thought fresh mu th mp mf mh mg ou od := rfl
set_option maxRecDepth 100000 in
theorem s_hn_groups (v : Int32) : (wAll k T R ly rc hn rp tp ee st w aside thought fresh mu th mp mf mh mg ou od).set (38) (k.b + (38), .inr (0, fHunt k (HN_set_groups hn v))) = wAll k T R ly rc (HN_set_groups hn v) rp tp ee st w aside thought fresh mu th mp mf mh mg ou od := rfl
set_option maxRecDepth 100000 in
theorem s_hn_sprayed (v : Int32) : (wAll k T R ly rc hn rp tp ee st w aside thought fresh mu th mp mf mh mg ou od).set (38) (k.b + (38), .inr (0, fHunt k (HN_set_sprayed hn v))) = wAll k T R ly rc (HN_set_sprayed hn v) rp tp ee st w aside thought fresh mu th mp mf mh mg ou od := rfl
set_option maxRecDepth 100000 in
theorem s_hn_foundSet (v : Int32) : (wAll k T R ly rc hn rp tp ee st w aside thought fresh mu th mp mf mh mg ou od).set (38) (k.b + (38), .inr (0, fHunt k (HN_set_foundSet hn v))) = wAll k T R ly rc (HN_set_foundSet hn v) rp tp ee st w aside thought fresh mu th mp mf mh mg ou od := rfl
set_option maxRecDepth 100000 in
theorem s_rp_length (v : Int32) : (wAll k T R ly rc hn rp tp ee st w aside thought fresh mu th mp mf mh mg ou od).set (42) (k.b + (42), .inr (4, fReport k (RP_set_length rp v))) = wAll k T R ly rc hn (RP_set_length rp v) tp ee st w aside thought fresh mu th mp mf mh mg ou od := rfl
set_option maxRecDepth 100000 in
theorem s_mu_pastCount (v : Int32) : (wAll k T R ly rc hn rp tp ee st w aside thought fresh mu th mp mf mh mg ou od).set (189) (k.b + (189), .inr (10, fModel k (MU_set_pastCount mu v) th mp mf mh mg)) = wAll k T R ly rc hn rp tp ee st w aside thought fresh (MU_set_pastCount mu v) th mp mf mh mg ou od := rfl
set_option maxRecDepth 100000 in
theorem s_mp_length (v : Int32) : (wAll k T R ly rc hn rp tp ee st w aside thought fresh mu th mp mf mh mg ou od).set (189) (k.b + (189), .inr (10, fModel k mu th (MP_set_length mp v) mf mh mg)) = wAll k T R ly rc hn rp tp ee st w aside thought fresh mu th (MP_set_length mp v) mf mh mg ou od := rfl
set_option maxRecDepth 100000 in
theorem s_mp_from (v : Int32) : (wAll k T R ly rc hn rp tp ee st w aside thought fresh mu th mp mf mh mg ou od).set (189) (k.b + (189), .inr (10, fModel k mu th (MP_set_from mp v) mf mh mg)) = wAll k T R ly rc hn rp tp ee st w aside thought fresh mu th (MP_set_from mp v) mf mh mg ou od := rfl
set_option maxRecDepth 100000 in
theorem s_mp_to (v : Int32) : (wAll k T R ly rc hn rp tp ee st w aside thought fresh mu th mp mf mh mg ou od).set (189) (k.b + (189), .inr (10, fModel k mu th (MP_set_to mp v) mf mh mg)) = wAll k T R ly rc hn rp tp ee st w aside thought fresh mu th (MP_set_to mp v) mf mh mg ou od := rfl
set_option maxRecDepth 100000 in
theorem s_mp_end_ (v : Int32) : (wAll k T R ly rc hn rp tp ee st w aside thought fresh mu th mp mf mh mg ou od).set (189) (k.b + (189), .inr (10, fModel k mu th (MP_set_end_ mp v) mf mh mg)) = wAll k T R ly rc hn rp tp ee st w aside thought fresh mu th (MP_set_end_ mp v) mf mh mg ou od := rfl
set_option maxRecDepth 100000 in
theorem s_mp_fault (v : Int32) : (wAll k T R ly rc hn rp tp ee st w aside thought fresh mu th mp mf mh mg ou od).set (189) (k.b + (189), .inr (10, fModel k mu th (MP_set_fault mp v) mf mh mg)) = wAll k T R ly rc hn rp tp ee st w aside thought fresh mu th (MP_set_fault mp v) mf mh mg ou od := rfl
set_option maxRecDepth 100000 in
theorem s_mp_faultAt (v : Int32) : (wAll k T R ly rc hn rp tp ee st w aside thought fresh mu th mp mf mh mg ou od).set (189) (k.b + (189), .inr (10, fModel k mu th (MP_set_faultAt mp v) mf mh mg)) = wAll k T R ly rc hn rp tp ee st w aside thought fresh mu th (MP_set_faultAt mp v) mf mh mg ou od := rfl
set_option maxRecDepth 100000 in
theorem s_mf_first (v : Int32) : (wAll k T R ly rc hn rp tp ee st w aside thought fresh mu th mp mf mh mg ou od).set (189) (k.b + (189), .inr (10, fModel k mu th mp (MF_set_first mf v) mh mg)) = wAll k T R ly rc hn rp tp ee st w aside thought fresh mu th mp (MF_set_first mf v) mh mg ou od := rfl
set_option maxRecDepth 100000 in
theorem s_mf_second (v : Int32) : (wAll k T R ly rc hn rp tp ee st w aside thought fresh mu th mp mf mh mg ou od).set (189) (k.b + (189), .inr (10, fModel k mu th mp (MF_set_second mf v) mh mg)) = wAll k T R ly rc hn rp tp ee st w aside thought fresh mu th mp (MF_set_second mf v) mh mg ou od := rfl
set_option maxRecDepth 100000 in
theorem s_mh_sprayed (v : Int32) : (wAll k T R ly rc hn rp tp ee st w aside thought fresh mu th mp mf mh mg ou od).set (189) (k.b + (189), .inr (10, fModel k mu th mp mf (MH_set_sprayed mh v) mg)) = wAll k T R ly rc hn rp tp ee st w aside thought fresh mu th mp mf (MH_set_sprayed mh v) mg ou od := rfl
set_option maxRecDepth 100000 in
theorem s_mh_foundSet (v : Int32) : (wAll k T R ly rc hn rp tp ee st w aside thought fresh mu th mp mf mh mg ou od).set (189) (k.b + (189), .inr (10, fModel k mu th mp mf (MH_set_foundSet mh v) mg)) = wAll k T R ly rc hn rp tp ee st w aside thought fresh mu th mp mf (MH_set_foundSet mh v) mg ou od := rfl
set_option maxRecDepth 100000 in
theorem s_mg_pageLength (v : Int32) : (wAll k T R ly rc hn rp tp ee st w aside thought fresh mu th mp mf mh mg ou od).set (189) (k.b + (189), .inr (10, fModel k mu th mp mf mh (MG_set_pageLength mg v))) = wAll k T R ly rc hn rp tp ee st w aside thought fresh mu th mp mf mh (MG_set_pageLength mg v) ou od := rfl
set_option maxRecDepth 100000 in
theorem s_th (v : Int32) : (wAll k T R ly rc hn rp tp ee st w aside thought fresh mu th mp mf mh mg ou od).set (189) (k.b + (189), .inr (10, fModel k mu v mp mf mh mg)) = wAll k T R ly rc hn rp tp ee st w aside thought fresh mu v mp mf mh mg ou od := rfl
set_option maxRecDepth 100000 in
theorem s_T_bytes (v : Nat → Int32) : (wAll k T R ly rc hn rp tp ee st w aside thought fresh mu th mp mf mh mg ou od).set (2) (k.b + (2), .inl (k.c 2, (900, .inl (v)))) = wAll k (TT_set_bytes T v) R ly rc hn rp tp ee st w aside thought fresh mu th mp mf mh mg ou od := rfl
set_option maxRecDepth 100000 in
theorem s_hn_numbers (v : Nat → Int32) : (wAll k T R ly rc hn rp tp ee st w aside thought fresh mu th mp mf mh mg ou od).set (39) (k.b + (39), .inl (k.c 0, (24, .inl (v)))) = wAll k T R ly rc (HN_set_numbers hn v) rp tp ee st w aside thought fresh mu th mp mf mh mg ou od := rfl
set_option maxRecDepth 100000 in
theorem s_hn_froms (v : Nat → Int32) : (wAll k T R ly rc hn rp tp ee st w aside thought fresh mu th mp mf mh mg ou od).set (40) (k.b + (40), .inl (k.c 0, (47, .inl (v)))) = wAll k T R ly rc (HN_set_froms hn v) rp tp ee st w aside thought fresh mu th mp mf mh mg ou od := rfl
set_option maxRecDepth 100000 in
theorem s_hn_sizes (v : Nat → Int32) : (wAll k T R ly rc hn rp tp ee st w aside thought fresh mu th mp mf mh mg ou od).set (41) (k.b + (41), .inl (k.c 0, (47, .inl (v)))) = wAll k T R ly rc (HN_set_sizes hn v) rp tp ee st w aside thought fresh mu th mp mf mh mg ou od := rfl
set_option maxRecDepth 100000 in
theorem s_rp_bytes (v : Nat → Int32) : (wAll k T R ly rc hn rp tp ee st w aside thought fresh mu th mp mf mh mg ou od).set (43) (k.b + (43), .inl (k.c 2, (246, .inl (v)))) = wAll k T R ly rc hn (RP_set_bytes rp v) tp ee st w aside thought fresh mu th mp mf mh mg ou od := rfl
set_option maxRecDepth 100000 in
theorem s_mu_past (v : Nat → Int64) : (wAll k T R ly rc hn rp tp ee st w aside thought fresh mu th mp mf mh mg ou od).set (194) (k.b + (194), .inl (k.c 1, (2560, .inr (.inl (v))))) = wAll k T R ly rc hn rp tp ee st w aside thought fresh (MU_set_past mu v) th mp mf mh mg ou od := rfl
set_option maxRecDepth 100000 in
theorem s_mp_text (v : Nat → Int32) : (wAll k T R ly rc hn rp tp ee st w aside thought fresh mu th mp mf mh mg ou od).set (195) (k.b + (195), .inl (k.c 2, (900, .inl (v)))) = wAll k T R ly rc hn rp tp ee st w aside thought fresh mu th (MP_set_text mp v) mf mh mg ou od := rfl
set_option maxRecDepth 100000 in
theorem s_mg_page (v : Nat → Int32) : (wAll k T R ly rc hn rp tp ee st w aside thought fresh mu th mp mf mh mg ou od).set (196) (k.b + (196), .inl (k.c 2, (900, .inl (v)))) = wAll k T R ly rc hn rp tp ee st w aside thought fresh mu th mp mf mh (MG_set_page mg v) ou od := rfl
set_option maxRecDepth 100000 in
theorem s_past (v : Nat → Fin 12) : (wAll k T R ly rc hn rp tp ee st w aside thought fresh mu th mp mf mh mg ou od).set (44) (k.b + (44), .inl (k.c 4, (10, .inr (.inr (.inr (.inr (fun i => some (k.b + (45 + 12 * (v i).val))))))))) = wAll k T R ly rc hn rp (TP_set_past tp v) ee st w aside thought fresh mu th mp mf mh mg ou od := rfl
set_option maxRecDepth 100000 in
theorem s_w (v : Nat → Int64) : (wAll k T R ly rc hn rp tp ee st w aside thought fresh mu th mp mf mh mg ou od).set (190) (k.b + (190), .inl (k.c 1, (256, .inr (.inl (v))))) = wAll k T R ly rc hn rp tp ee st v aside thought fresh mu th mp mf mh mg ou od := rfl
set_option maxRecDepth 100000 in
theorem s_aside (v : Nat → Int64) : (wAll k T R ly rc hn rp tp ee st w aside thought fresh mu th mp mf mh mg ou od).set (191) (k.b + (191), .inl (k.c 1, (256, .inr (.inl (v))))) = wAll k T R ly rc hn rp tp ee st w v thought fresh mu th mp mf mh mg ou od := rfl
set_option maxRecDepth 100000 in
theorem s_thought (v : Nat → Int64) : (wAll k T R ly rc hn rp tp ee st w aside thought fresh mu th mp mf mh mg ou od).set (192) (k.b + (192), .inl (k.c 1, (256, .inr (.inl (v))))) = wAll k T R ly rc hn rp tp ee st w aside v fresh mu th mp mf mh mg ou od := rfl
set_option maxRecDepth 100000 in
theorem s_fresh (v : Nat → Int64) : (wAll k T R ly rc hn rp tp ee st w aside thought fresh mu th mp mf mh mg ou od).set (193) (k.b + (193), .inl (k.c 1, (256, .inr (.inl (v))))) = wAll k T R ly rc hn rp tp ee st w aside thought v mu th mp mf mh mg ou od := rfl
set_option maxRecDepth 100000 in
theorem s_ou (v : Nat → Int64) : (wAll k T R ly rc hn rp tp ee st w aside thought fresh mu th mp mf mh mg ou od).set (197) (k.b + (197), .inl (k.c 1, (1, .inr (.inl (v))))) = wAll k T R ly rc hn rp tp ee st w aside thought fresh mu th mp mf mh mg v od := rfl
set_option maxRecDepth 100000 in
theorem s_od (v : Nat → UInt64) : (wAll k T R ly rc hn rp tp ee st w aside thought fresh mu th mp mf mh mg ou od).set (198) (k.b + (198), .inl (k.c 3, (1, .inr (.inr (.inr (.inl (v))))))) = wAll k T R ly rc hn rp tp ee st w aside thought fresh mu th mp mf mh mg ou v := rfl
set_option maxRecDepth 100000 in
theorem s_st_time (j : Fin 12) (S : SS) (v : Int32) : (wAll k T R ly rc hn rp tp ee (updF st j S) w aside thought fresh mu th mp mf mh mg ou od).set (45 + 12 * j.val) (k.b + (45 + 12 * j.val), .inr (5, fSt k j (SS_set_time S v))) = wAll k T R ly rc hn rp tp ee (updF st j (SS_set_time S v)) w aside thought fresh mu th mp mf mh mg ou od := by
  revert j
  exact fin12 rfl rfl rfl rfl rfl rfl rfl rfl rfl rfl rfl rfl
set_option maxRecDepth 100000 in
theorem s_st_openValves (j : Fin 12) (S : SS) (v : Int32) : (wAll k T R ly rc hn rp tp ee (updF st j S) w aside thought fresh mu th mp mf mh mg ou od).set (45 + 12 * j.val) (k.b + (45 + 12 * j.val), .inr (5, fSt k j (SS_set_openValves S v))) = wAll k T R ly rc hn rp tp ee (updF st j (SS_set_openValves S v)) w aside thought fresh mu th mp mf mh mg ou od := by
  revert j
  exact fin12 rfl rfl rfl rfl rfl rfl rfl rfl rfl rfl rfl rfl
set_option maxRecDepth 100000 in
theorem s_st_runningPumps (j : Fin 12) (S : SS) (v : Int32) : (wAll k T R ly rc hn rp tp ee (updF st j S) w aside thought fresh mu th mp mf mh mg ou od).set (45 + 12 * j.val) (k.b + (45 + 12 * j.val), .inr (5, fSt k j (SS_set_runningPumps S v))) = wAll k T R ly rc hn rp tp ee (updF st j (SS_set_runningPumps S v)) w aside thought fresh mu th mp mf mh mg ou od := by
  revert j
  exact fin12 rfl rfl rfl rfl rfl rfl rfl rfl rfl rfl rfl rfl
set_option maxRecDepth 100000 in
theorem s_st_kept (j : Fin 12) (S : SS) (v : Int32) : (wAll k T R ly rc hn rp tp ee (updF st j S) w aside thought fresh mu th mp mf mh mg ou od).set (45 + 12 * j.val + 9) (k.b + (45 + 12 * j.val + 9), .inr (7, fTl k j (SS_set_kept S v))) = wAll k T R ly rc hn rp tp ee (updF st j (SS_set_kept S v)) w aside thought fresh mu th mp mf mh mg ou od := by
  revert j
  exact fin12 rfl rfl rfl rfl rfl rfl rfl rfl rfl rfl rfl rfl
set_option maxRecDepth 100000 in
theorem s_st_next (j : Fin 12) (S : SS) (v : Int32) : (wAll k T R ly rc hn rp tp ee (updF st j S) w aside thought fresh mu th mp mf mh mg ou od).set (45 + 12 * j.val + 9) (k.b + (45 + 12 * j.val + 9), .inr (7, fTl k j (SS_set_next S v))) = wAll k T R ly rc hn rp tp ee (updF st j (SS_set_next S v)) w aside thought fresh mu th mp mf mh mg ou od := by
  revert j
  exact fin12 rfl rfl rfl rfl rfl rfl rfl rfl rfl rfl rfl rfl
set_option maxRecDepth 100000 in
theorem s_st_gas (j : Fin 12) (S : SS) (v : Nat → Int64) : (wAll k T R ly rc hn rp tp ee (updF st j S) w aside thought fresh mu th mp mf mh mg ou od).set (45 + 12 * j.val + 1) (k.b + (45 + 12 * j.val + 1), .inl (k.c 1, (8, .inr (.inl (v))))) = wAll k T R ly rc hn rp tp ee (updF st j (SS_set_gas S v)) w aside thought fresh mu th mp mf mh mg ou od := by
  revert j
  exact fin12 rfl rfl rfl rfl rfl rfl rfl rfl rfl rfl rfl rfl
set_option maxRecDepth 100000 in
theorem s_st_pressure (j : Fin 12) (S : SS) (v : Nat → Int32) : (wAll k T R ly rc hn rp tp ee (updF st j S) w aside thought fresh mu th mp mf mh mg ou od).set (45 + 12 * j.val + 2) (k.b + (45 + 12 * j.val + 2), .inl (k.c 0, (9, .inl (v)))) = wAll k T R ly rc hn rp tp ee (updF st j (SS_set_pressure S v)) w aside thought fresh mu th mp mf mh mg ou od := by
  revert j
  exact fin12 rfl rfl rfl rfl rfl rfl rfl rfl rfl rfl rfl rfl
set_option maxRecDepth 100000 in
theorem s_st_outgassing (j : Fin 12) (S : SS) (v : Nat → Int32) : (wAll k T R ly rc hn rp tp ee (updF st j S) w aside thought fresh mu th mp mf mh mg ou od).set (45 + 12 * j.val + 3) (k.b + (45 + 12 * j.val + 3), .inl (k.c 0, (8, .inl (v)))) = wAll k T R ly rc hn rp tp ee (updF st j (SS_set_outgassing S v)) w aside thought fresh mu th mp mf mh mg ou od := by
  revert j
  exact fin12 rfl rfl rfl rfl rfl rfl rfl rfl rfl rfl rfl rfl
set_option maxRecDepth 100000 in
theorem s_st_leakSum (j : Fin 12) (S : SS) (v : Nat → Int32) : (wAll k T R ly rc hn rp tp ee (updF st j S) w aside thought fresh mu th mp mf mh mg ou od).set (45 + 12 * j.val + 4) (k.b + (45 + 12 * j.val + 4), .inl (k.c 0, (8, .inl (v)))) = wAll k T R ly rc hn rp tp ee (updF st j (SS_set_leakSum S v)) w aside thought fresh mu th mp mf mh mg ou od := by
  revert j
  exact fin12 rfl rfl rfl rfl rfl rfl rfl rfl rfl rfl rfl rfl
set_option maxRecDepth 100000 in
theorem s_st_rule (j : Fin 12) (S : SS) (v : Nat → Int32) : (wAll k T R ly rc hn rp tp ee (updF st j S) w aside thought fresh mu th mp mf mh mg ou od).set (45 + 12 * j.val + 5) (k.b + (45 + 12 * j.val + 5), .inl (k.c 0, (10, .inl (v)))) = wAll k T R ly rc hn rp tp ee (updF st j (SS_set_rule S v)) w aside thought fresh mu th mp mf mh mg ou od := by
  revert j
  exact fin12 rfl rfl rfl rfl rfl rfl rfl rfl rfl rfl rfl rfl
set_option maxRecDepth 100000 in
theorem s_st_valveTrips (j : Fin 12) (S : SS) (v : Nat → Int32) : (wAll k T R ly rc hn rp tp ee (updF st j S) w aside thought fresh mu th mp mf mh mg ou od).set (45 + 12 * j.val + 6) (k.b + (45 + 12 * j.val + 6), .inl (k.c 0, (10, .inl (v)))) = wAll k T R ly rc hn rp tp ee (updF st j (SS_set_valveTrips S v)) w aside thought fresh mu th mp mf mh mg ou od := by
  revert j
  exact fin12 rfl rfl rfl rfl rfl rfl rfl rfl rfl rfl rfl rfl
set_option maxRecDepth 100000 in
theorem s_st_pumpTrips (j : Fin 12) (S : SS) (v : Nat → Int32) : (wAll k T R ly rc hn rp tp ee (updF st j S) w aside thought fresh mu th mp mf mh mg ou od).set (45 + 12 * j.val + 7) (k.b + (45 + 12 * j.val + 7), .inl (k.c 0, (6, .inl (v)))) = wAll k T R ly rc hn rp tp ee (updF st j (SS_set_pumpTrips S v)) w aside thought fresh mu th mp mf mh mg ou od := by
  revert j
  exact fin12 rfl rfl rfl rfl rfl rfl rfl rfl rfl rfl rfl rfl
set_option maxRecDepth 100000 in
theorem s_st_leak (j : Fin 12) (S : SS) (v : Nat → Int32) : (wAll k T R ly rc hn rp tp ee (updF st j S) w aside thought fresh mu th mp mf mh mg ou od).set (45 + 12 * j.val + 8) (k.b + (45 + 12 * j.val + 8), .inl (k.c 0, (24, .inl (v)))) = wAll k T R ly rc hn rp tp ee (updF st j (SS_set_leak S v)) w aside thought fresh mu th mp mf mh mg ou od := by
  revert j
  exact fin12 rfl rfl rfl rfl rfl rfl rfl rfl rfl rfl rfl rfl
set_option maxRecDepth 100000 in
theorem s_st_facts (j : Fin 12) (S : SS) (v : Nat → Int32) : (wAll k T R ly rc hn rp tp ee (updF st j S) w aside thought fresh mu th mp mf mh mg ou od).set (45 + 12 * j.val + 10) (k.b + (45 + 12 * j.val + 10), .inl (k.c 0, (40, .inl (v)))) = wAll k T R ly rc hn rp tp ee (updF st j (SS_set_facts S v)) w aside thought fresh mu th mp mf mh mg ou od := by
  revert j
  exact fin12 rfl rfl rfl rfl rfl rfl rfl rfl rfl rfl rfl rfl
set_option maxRecDepth 100000 in
theorem s_st_rises (j : Fin 12) (S : SS) (v : Nat → Int64) : (wAll k T R ly rc hn rp tp ee (updF st j S) w aside thought fresh mu th mp mf mh mg ou od).set (45 + 12 * j.val + 11) (k.b + (45 + 12 * j.val + 11), .inl (k.c 1, (20, .inr (.inl (v))))) = wAll k T R ly rc hn rp tp ee (updF st j (SS_set_rises S v)) w aside thought fresh mu th mp mf mh mg ou od := by
  revert j
  exact fin12 rfl rfl rfl rfl rfl rfl rfl rfl rfl rfl rfl rfl
set_option maxRecDepth 100000 in
theorem s_lay_chambers (i : Fin 2) (L : LL) (v : Int32) : (wAll k T R (updF ly i L) rc hn rp tp ee st w aside thought fresh mu th mp mf mh mg ou od).set (4 + 17 * i.val) (k.b + (4 + 17 * i.val), .inr (1, fLay k i (LL_set_chambers L v))) = wAll k T R (updF ly i (LL_set_chambers L v)) rc hn rp tp ee st w aside thought fresh mu th mp mf mh mg ou od := by
  revert i
  exact fin2 rfl rfl
set_option maxRecDepth 100000 in
theorem s_lay_pumps (i : Fin 2) (L : LL) (v : Int32) : (wAll k T R (updF ly i L) rc hn rp tp ee st w aside thought fresh mu th mp mf mh mg ou od).set (4 + 17 * i.val) (k.b + (4 + 17 * i.val), .inr (1, fLay k i (LL_set_pumps L v))) = wAll k T R (updF ly i (LL_set_pumps L v)) rc hn rp tp ee st w aside thought fresh mu th mp mf mh mg ou od := by
  revert i
  exact fin2 rfl rfl
set_option maxRecDepth 100000 in
theorem s_lay_valves (i : Fin 2) (L : LL) (v : Int32) : (wAll k T R (updF ly i L) rc hn rp tp ee st w aside thought fresh mu th mp mf mh mg ou od).set (4 + 17 * i.val) (k.b + (4 + 17 * i.val), .inr (1, fLay k i (LL_set_valves L v))) = wAll k T R (updF ly i (LL_set_valves L v)) rc hn rp tp ee st w aside thought fresh mu th mp mf mh mg ou od := by
  revert i
  exact fin2 rfl rfl
set_option maxRecDepth 100000 in
theorem s_lay_flanges (i : Fin 2) (L : LL) (v : Int32) : (wAll k T R (updF ly i L) rc hn rp tp ee st w aside thought fresh mu th mp mf mh mg ou od).set (4 + 17 * i.val) (k.b + (4 + 17 * i.val), .inr (1, fLay k i (LL_set_flanges L v))) = wAll k T R (updF ly i (LL_set_flanges L v)) rc hn rp tp ee st w aside thought fresh mu th mp mf mh mg ou od := by
  revert i
  exact fin2 rfl rfl
set_option maxRecDepth 100000 in
theorem s_lay_volume (i : Fin 2) (L : LL) (v : Nat → Int32) : (wAll k T R (updF ly i L) rc hn rp tp ee st w aside thought fresh mu th mp mf mh mg ou od).set (4 + 17 * i.val + 1) (k.b + (4 + 17 * i.val + 1), .inl (k.c 0, (8, .inl (v)))) = wAll k T R (updF ly i (LL_set_volume L v)) rc hn rp tp ee st w aside thought fresh mu th mp mf mh mg ou od := by
  revert i
  exact fin2 rfl rfl
set_option maxRecDepth 100000 in
theorem s_lay_firstOutgassing (i : Fin 2) (L : LL) (v : Nat → Int32) : (wAll k T R (updF ly i L) rc hn rp tp ee st w aside thought fresh mu th mp mf mh mg ou od).set (4 + 17 * i.val + 2) (k.b + (4 + 17 * i.val + 2), .inl (k.c 0, (8, .inl (v)))) = wAll k T R (updF ly i (LL_set_firstOutgassing L v)) rc hn rp tp ee st w aside thought fresh mu th mp mf mh mg ou od := by
  revert i
  exact fin2 rfl rfl
set_option maxRecDepth 100000 in
theorem s_lay_decay (i : Fin 2) (L : LL) (v : Nat → Int32) : (wAll k T R (updF ly i L) rc hn rp tp ee st w aside thought fresh mu th mp mf mh mg ou od).set (4 + 17 * i.val + 3) (k.b + (4 + 17 * i.val + 3), .inl (k.c 0, (8, .inl (v)))) = wAll k T R (updF ly i (LL_set_decay L v)) rc hn rp tp ee st w aside thought fresh mu th mp mf mh mg ou od := by
  revert i
  exact fin2 rfl rfl
set_option maxRecDepth 100000 in
theorem s_lay_pumpChamber (i : Fin 2) (L : LL) (v : Nat → Int32) : (wAll k T R (updF ly i L) rc hn rp tp ee st w aside thought fresh mu th mp mf mh mg ou od).set (4 + 17 * i.val + 4) (k.b + (4 + 17 * i.val + 4), .inl (k.c 0, (6, .inl (v)))) = wAll k T R (updF ly i (LL_set_pumpChamber L v)) rc hn rp tp ee st w aside thought fresh mu th mp mf mh mg ou od := by
  revert i
  exact fin2 rfl rfl
set_option maxRecDepth 100000 in
theorem s_lay_exhaust (i : Fin 2) (L : LL) (v : Nat → Int32) : (wAll k T R (updF ly i L) rc hn rp tp ee st w aside thought fresh mu th mp mf mh mg ou od).set (4 + 17 * i.val + 5) (k.b + (4 + 17 * i.val + 5), .inl (k.c 0, (6, .inl (v)))) = wAll k T R (updF ly i (LL_set_exhaust L v)) rc hn rp tp ee st w aside thought fresh mu th mp mf mh mg ou od := by
  revert i
  exact fin2 rfl rfl
set_option maxRecDepth 100000 in
theorem s_lay_speed (i : Fin 2) (L : LL) (v : Nat → Int32) : (wAll k T R (updF ly i L) rc hn rp tp ee st w aside thought fresh mu th mp mf mh mg ou od).set (4 + 17 * i.val + 6) (k.b + (4 + 17 * i.val + 6), .inl (k.c 0, (6, .inl (v)))) = wAll k T R (updF ly i (LL_set_speed L v)) rc hn rp tp ee st w aside thought fresh mu th mp mf mh mg ou od := by
  revert i
  exact fin2 rfl rfl
set_option maxRecDepth 100000 in
theorem s_lay_low (i : Fin 2) (L : LL) (v : Nat → Int32) : (wAll k T R (updF ly i L) rc hn rp tp ee st w aside thought fresh mu th mp mf mh mg ou od).set (4 + 17 * i.val + 7) (k.b + (4 + 17 * i.val + 7), .inl (k.c 0, (6, .inl (v)))) = wAll k T R (updF ly i (LL_set_low L v)) rc hn rp tp ee st w aside thought fresh mu th mp mf mh mg ou od := by
  revert i
  exact fin2 rfl rfl
set_option maxRecDepth 100000 in
theorem s_lay_high (i : Fin 2) (L : LL) (v : Nat → Int32) : (wAll k T R (updF ly i L) rc hn rp tp ee st w aside thought fresh mu th mp mf mh mg ou od).set (4 + 17 * i.val + 8) (k.b + (4 + 17 * i.val + 8), .inl (k.c 0, (6, .inl (v)))) = wAll k T R (updF ly i (LL_set_high L v)) rc hn rp tp ee st w aside thought fresh mu th mp mf mh mg ou od := by
  revert i
  exact fin2 rfl rfl
set_option maxRecDepth 100000 in
theorem s_lay_backing (i : Fin 2) (L : LL) (v : Nat → Int32) : (wAll k T R (updF ly i L) rc hn rp tp ee st w aside thought fresh mu th mp mf mh mg ou od).set (4 + 17 * i.val + 9) (k.b + (4 + 17 * i.val + 9), .inl (k.c 0, (6, .inl (v)))) = wAll k T R (updF ly i (LL_set_backing L v)) rc hn rp tp ee st w aside thought fresh mu th mp mf mh mg ou od := by
  revert i
  exact fin2 rfl rfl
set_option maxRecDepth 100000 in
theorem s_lay_valveChamber (i : Fin 2) (L : LL) (v : Nat → Int32) : (wAll k T R (updF ly i L) rc hn rp tp ee st w aside thought fresh mu th mp mf mh mg ou od).set (4 + 17 * i.val + 10) (k.b + (4 + 17 * i.val + 10), .inl (k.c 0, (10, .inl (v)))) = wAll k T R (updF ly i (LL_set_valveChamber L v)) rc hn rp tp ee st w aside thought fresh mu th mp mf mh mg ou od := by
  revert i
  exact fin2 rfl rfl
set_option maxRecDepth 100000 in
theorem s_lay_otherSide (i : Fin 2) (L : LL) (v : Nat → Int32) : (wAll k T R (updF ly i L) rc hn rp tp ee st w aside thought fresh mu th mp mf mh mg ou od).set (4 + 17 * i.val + 11) (k.b + (4 + 17 * i.val + 11), .inl (k.c 0, (10, .inl (v)))) = wAll k T R (updF ly i (LL_set_otherSide L v)) rc hn rp tp ee st w aside thought fresh mu th mp mf mh mg ou od := by
  revert i
  exact fin2 rfl rfl
set_option maxRecDepth 100000 in
theorem s_lay_conductance (i : Fin 2) (L : LL) (v : Nat → Int32) : (wAll k T R (updF ly i L) rc hn rp tp ee st w aside thought fresh mu th mp mf mh mg ou od).set (4 + 17 * i.val + 12) (k.b + (4 + 17 * i.val + 12), .inl (k.c 0, (10, .inl (v)))) = wAll k T R (updF ly i (LL_set_conductance L v)) rc hn rp tp ee st w aside thought fresh mu th mp mf mh mg ou od := by
  revert i
  exact fin2 rfl rfl
set_option maxRecDepth 100000 in
theorem s_lay_firstRule (i : Fin 2) (L : LL) (v : Nat → Int32) : (wAll k T R (updF ly i L) rc hn rp tp ee st w aside thought fresh mu th mp mf mh mg ou od).set (4 + 17 * i.val + 13) (k.b + (4 + 17 * i.val + 13), .inl (k.c 0, (10, .inl (v)))) = wAll k T R (updF ly i (LL_set_firstRule L v)) rc hn rp tp ee st w aside thought fresh mu th mp mf mh mg ou od := by
  revert i
  exact fin2 rfl rfl
set_option maxRecDepth 100000 in
theorem s_lay_flangeChamber (i : Fin 2) (L : LL) (v : Nat → Int32) : (wAll k T R (updF ly i L) rc hn rp tp ee st w aside thought fresh mu th mp mf mh mg ou od).set (4 + 17 * i.val + 14) (k.b + (4 + 17 * i.val + 14), .inl (k.c 0, (24, .inl (v)))) = wAll k T R (updF ly i (LL_set_flangeChamber L v)) rc hn rp tp ee st w aside thought fresh mu th mp mf mh mg ou od := by
  revert i
  exact fin2 rfl rfl
set_option maxRecDepth 100000 in
theorem s_lay_firstLeak (i : Fin 2) (L : LL) (v : Nat → Int32) : (wAll k T R (updF ly i L) rc hn rp tp ee st w aside thought fresh mu th mp mf mh mg ou od).set (4 + 17 * i.val + 15) (k.b + (4 + 17 * i.val + 15), .inl (k.c 0, (24, .inl (v)))) = wAll k T R (updF ly i (LL_set_firstLeak L v)) rc hn rp tp ee st w aside thought fresh mu th mp mf mh mg ou od := by
  revert i
  exact fin2 rfl rfl
set_option maxRecDepth 100000 in
theorem wAll_len : (wAll k T R ly rc hn rp tp ee st w aside thought fresh mu th mp mf mh mg ou od).length = 199 := rfl
set_option maxRecDepth 100000 in
theorem wAll_ads : (wAll k T R ly rc hn rp tp ee st w aside thought fresh mu th mp mf mh mg ou od).map Prod.fst = (List.range 199).map (fun i => k.b + i) := rfl
theorem wAll_D : va_D (kA k) (wAll k T R ly rc hn rp tp ee st w aside thought fresh mu th mp mf mh mg ou od) := by
  have key : ∀ (i : Nat) (q : Nat × va_E), (wAll k T R ly rc hn rp tp ee st w aside thought fresh mu th mp mf mh mg ou od)[i]? = some q → q.1 = k.b + i := by
    intro i q hq
    have h1 : ((wAll k T R ly rc hn rp tp ee st w aside thought fresh mu th mp mf mh mg ou od).map Prod.fst)[i]? = some q.1 := by rw [List.getElem?_map, hq]; rfl
    rw [wAll_ads, List.getElem?_map] at h1
    cases hr : (List.range 199)[i]? with
    | none => rw [hr] at h1; cases h1
    | some z =>
      rw [hr] at h1
      have h2 := (List.getElem?_eq_some_iff.mp hr)
      obtain ⟨h3, h4⟩ := h2
      rw [List.getElem_range] at h4
      subst h4
      exact (Option.some.inj h1).symm
  refine ⟨fun i j p q hp hq h => ?_, fun i q hq => ?_⟩
  · rw [key i p hp, key j q hq] at h
    omega
  · show k.b ≤ q.1
    rw [key i q hq]
    omega
end WORLD
end
section
theorem zz_end : True := trivial
end
