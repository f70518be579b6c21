/-! the law's loop -/
theorem op_cases (v : Int32) : (∃ t, t < 50 ∧ v = i4 t) ∨ (v.toInt < 0 ∨ 49 < v.toInt) := by
  by_cases h : 0 ≤ v.toInt ∧ v.toInt ≤ 49
  · exact Or.inl ⟨n4 v, by unfold n4; omega, (i4_n4 h.1).symm⟩
  · exact Or.inr (by omega)
theorem TURN {k : KT} {z : ZT} (X : XX k strs z RL cL_law 9 ret room_1) {b0 len : Nat} {xs : Nat → Int32} (hX : va_X b0 len xs (zS z) (zS z).heap) (hbl : b0 < (zS z).heap.size) (hbA : ¬ kA k b0) {T : TT} {R : RR} {ly : Fin 2 → LL} {rc : RC} {hn : HN} {rp : RP} {tp : TP} {ee : EE} {st : Fin 12 → SS} {w : Nat → Int64} {aside : Nat → Int64} {thought : Nat → Int64} {fresh : Nat → Int64} {mu : MU} {th : Int32} {mp : MP} {mf : MF} {mh : MH} {mg : MG} {ou : Nat → Int64} {od : Nat → UInt64} {n n' : Nat} (hnc : n + 1 ≤ 601024) (hns : n' + 6 ≤ 7293034) {x5 : Int32} (hlt : ¬ (Int32.ofNat len - 6 < x5)) (g0 : inb (x5) len = true) (g1 : inb (x5 + 1) len = true) (g2 : inb (x5 + 2) len = true) (g3 : inb (x5 + 3) len = true) (g4 : inb (x5 + 4) len = true) (g5 : inb (x5 + 5) len = true) (hI : INVA ly tp st w mu T mp ee rp mg) (nx : NX k z b0 (n + 1) (n' + 6) (x5 + 6)) : VW k z n n' (wAll k T R ly rc hn rp tp ee st w aside thought fresh mu th mp mf mh mg ou od) 28 [some (.ref b0), some (.ref (k.b + (0))), some (.ref (k.b + (189))), some (.ref (k.b + (197))), some (.ref (k.b + (198))), some (.int x5), none, none, none] [] := by
  rcases op_cases (xs (ix x5) &&& 63) with ⟨t, ht, hc⟩ | hc
  · match t, ht, hc with
    | 0, _, hc => exact TN_0 X hX hbl hbA hnc hns hlt g0 g1 g2 g3 g4 g5 hc hI nx
    | 1, _, hc => exact TN_1 X hX hbl hbA hnc hns hlt g0 g1 g2 g3 g4 g5 hc hI nx
    | 2, _, hc => exact TN_2 X hX hbl hbA hnc hns hlt g0 g1 g2 g3 g4 g5 hc hI nx
    | 3, _, hc => exact TN_3 X hX hbl hbA hnc hns hlt g0 g1 g2 g3 g4 g5 hc hI nx
    | 4, _, hc => exact TN_4 X hX hbl hbA hnc hns hlt g0 g1 g2 g3 g4 g5 hc hI nx
    | 5, _, hc => exact TN_5 X hX hbl hbA hnc hns hlt g0 g1 g2 g3 g4 g5 hc hI nx
    | 6, _, hc => exact TN_6 X hX hbl hbA hnc hns hlt g0 g1 g2 g3 g4 g5 hc hI nx
    | 7, _, hc => exact TN_7 X hX hbl hbA hnc hns hlt g0 g1 g2 g3 g4 g5 hc hI nx
    | 8, _, hc => exact TN_8 X hX hbl hbA hnc hns hlt g0 g1 g2 g3 g4 g5 hc hI nx
    | 9, _, hc => exact TN_9 X hX hbl hbA hnc hns hlt g0 g1 g2 g3 g4 g5 hc hI nx
    | 10, _, hc => exact TN_10 X hX hbl hbA hnc hns hlt g0 g1 g2 g3 g4 g5 hc hI nx
    | 11, _, hc => exact TN_11 X hX hbl hbA hnc hns hlt g0 g1 g2 g3 g4 g5 hc hI nx
    | 12, _, hc => exact TN_12 X hX hbl hbA hnc hns hlt g0 g1 g2 g3 g4 g5 hc hI nx
    | 13, _, hc => exact TN_13 X hX hbl hbA hnc hns hlt g0 g1 g2 g3 g4 g5 hc hI nx
    | 14, _, hc => exact TN_14 X hX hbl hbA hnc hns hlt g0 g1 g2 g3 g4 g5 hc hI nx
    | 15, _, hc => exact TN_15 X hX hbl hbA hnc hns hlt g0 g1 g2 g3 g4 g5 hc hI nx
    | 16, _, hc => exact TN_16 X hX hbl hbA hnc hns hlt g0 g1 g2 g3 g4 g5 hc hI nx
    | 17, _, hc => exact TN_17 X hX hbl hbA hnc hns hlt g0 g1 g2 g3 g4 g5 hc hI nx
    | 18, _, hc => exact TN_18 X hX hbl hbA hnc hns hlt g0 g1 g2 g3 g4 g5 hc hI nx
    | 19, _, hc => exact TN_19 X hX hbl hbA hnc hns hlt g0 g1 g2 g3 g4 g5 hc hI nx
    | 20, _, hc => exact TN_20 X hX hbl hbA hnc hns hlt g0 g1 g2 g3 g4 g5 hc hI nx
    | 21, _, hc => exact TN_21 X hX hbl hbA hnc hns hlt g0 g1 g2 g3 g4 g5 hc hI nx
    | 22, _, hc => exact TN_22 X hX hbl hbA hnc hns hlt g0 g1 g2 g3 g4 g5 hc hI nx
    | 23, _, hc => exact TN_23 X hX hbl hbA hnc hns hlt g0 g1 g2 g3 g4 g5 hc hI nx
    | 24, _, hc => exact TN_24 X hX hbl hbA hnc hns hlt g0 g1 g2 g3 g4 g5 hc hI nx
    | 25, _, hc => exact TN_25 X hX hbl hbA hnc hns hlt g0 g1 g2 g3 g4 g5 hc hI nx
    | 26, _, hc => exact TN_26 X hX hbl hbA hnc hns hlt g0 g1 g2 g3 g4 g5 hc hI nx
    | 27, _, hc => exact TN_27 X hX hbl hbA hnc hns hlt g0 g1 g2 g3 g4 g5 hc hI nx
    | 28, _, hc => exact TN_28 X hX hbl hbA hnc hns hlt g0 g1 g2 g3 g4 g5 hc hI nx
    | 29, _, hc => exact TN_29 X hX hbl hbA hnc hns hlt g0 g1 g2 g3 g4 g5 hc hI nx
    | 30, _, hc => exact TN_30 X hX hbl hbA hnc hns hlt g0 g1 g2 g3 g4 g5 hc hI nx
    | 31, _, hc => exact TN_31 X hX hbl hbA hnc hns hlt g0 g1 g2 g3 g4 g5 hc hI nx
    | 32, _, hc => exact TN_32 X hX hbl hbA hnc hns hlt g0 g1 g2 g3 g4 g5 hc hI nx
    | 33, _, hc => exact TN_33 X hX hbl hbA hnc hns hlt g0 g1 g2 g3 g4 g5 hc hI nx
    | 34, _, hc => exact TN_34 X hX hbl hbA hnc hns hlt g0 g1 g2 g3 g4 g5 hc hI nx
    | 35, _, hc => exact TN_35 X hX hbl hbA hnc hns hlt g0 g1 g2 g3 g4 g5 hc hI nx
    | 36, _, hc => exact TN_36 X hX hbl hbA hnc hns hlt g0 g1 g2 g3 g4 g5 hc hI nx
    | 37, _, hc => exact TN_37 X hX hbl hbA hnc hns hlt g0 g1 g2 g3 g4 g5 hc hI nx
    | 38, _, hc => exact TN_38 X hX hbl hbA hnc hns hlt g0 g1 g2 g3 g4 g5 hc hI nx
    | 39, _, hc => exact TN_39 X hX hbl hbA hnc hns hlt g0 g1 g2 g3 g4 g5 hc hI nx
    | 40, _, hc => exact TN_40 X hX hbl hbA hnc hns hlt g0 g1 g2 g3 g4 g5 hc hI nx
    | 41, _, hc => exact TN_41 X hX hbl hbA hnc hns hlt g0 g1 g2 g3 g4 g5 hc hI nx
    | 42, _, hc => exact TN_42 X hX hbl hbA hnc hns hlt g0 g1 g2 g3 g4 g5 hc hI nx
    | 43, _, hc => exact TN_43 X hX hbl hbA hnc hns hlt g0 g1 g2 g3 g4 g5 hc hI nx
    | 44, _, hc => exact TN_44 X hX hbl hbA hnc hns hlt g0 g1 g2 g3 g4 g5 hc hI nx
    | 45, _, hc => exact TN_45 X hX hbl hbA hnc hns hlt g0 g1 g2 g3 g4 g5 hc hI nx
    | 46, _, hc => exact TN_46 X hX hbl hbA hnc hns hlt g0 g1 g2 g3 g4 g5 hc hI nx
    | 47, _, hc => exact TN_47 X hX hbl hbA hnc hns hlt g0 g1 g2 g3 g4 g5 hc hI nx
    | 48, _, hc => exact TN_48 X hX hbl hbA hnc hns hlt g0 g1 g2 g3 g4 g5 hc hI nx
    | 49, _, hc => exact TN_49 X hX hbl hbA hnc hns hlt g0 g1 g2 g3 g4 g5 hc hI nx
    | t + 50, ht, _ => exact absurd ht (by omega)
  · exact LT_no X hX hbl hbA hlt g0 hc (nx _ _ _ _ _ _ _ _ _ _ _ _ _ _ _ _ _ _ _ _ _ hI)
theorem LEAVE {k : KT} {z : ZT} (X : XX k strs z RL cL_law 9 ret room_1) {b0 len : Nat} {xs : Nat → Int32} (hX : va_X b0 len xs (zS z) (zS z).heap) (hbl : b0 < (zS z).heap.size) (hbA : ¬ kA k b0) {ws : va_W} {n n' : Nat} {x5 : Int32} (hlt : Int32.ofNat len - 6 < x5) (kk : VW k z n n' ws 3067 [some (.ref b0), some (.ref (k.b + (0))), some (.ref (k.b + (189))), some (.ref (k.b + (197))), some (.ref (k.b + (198))), some (.int x5), none, none, none] [.int 1]) : VW k z n n' ws 28 [some (.ref b0), some (.ref (k.b + (0))), some (.ref (k.b + (189))), some (.ref (k.b + (197))), some (.ref (k.b + (198))), some (.int x5), none, none, none] [] := by
  refine r_iload X (x := x5) dL_law_28 rfl ?_
  refine r_aload_n X (x := b0) dL_law_30 rfl ?_
  refine r_slen X hX hbl hbA dL_law_31 ?_
  refine r_bipush X (v := 6) dL_law_32 rfl ?_
  refine r_isub X dL_law_34 ?_
  refine r_icmp_gt X 3066 dL_law_35 rfl (fun _ => ?_) (fun c => absurd hlt c)
  refine r_iconst X (v := 1) dL_law_3066 rfl ?_
  exact kk
theorem ALOOP {k : KT} {z : ZT} (X : XX k strs z RL cL_law 9 ret room_1) {b0 len : Nat} {xs : Nat → Int32} (hX : va_X b0 len xs (zS z) (zS z).heap) (hbl : b0 < (zS z).heap.size) (hbA : ¬ kA k b0) (hlen : len ≤ 3072) (fin : ∀ (ws : va_W) (lo : List (Option Value)), lo.length = 9 → VW k z 601024 7293034 ws 3067 lo [.int 1]) : ∀ (r t : Nat), 6 * t + r = 3100 → t ≤ 513 → NX k z b0 (199 + t) (8971 + 6 * t) (i4 (6 * t)) := by
  intro r
  induction r using Nat.strongRecOn with
  | _ r ih =>
  intro t hr ht T R ly rc hn rp tp ee st w aside thought fresh mu th mp mf mh mg ou od hI
  have e6 : (Int32.ofNat len - 6).toInt = (len : Int) - 6 := i4_neg_lt (x := len) (y := 6) (by omega) (by omega)
  by_cases hlt : Int32.ofNat len - 6 < i4 (6 * t)
  · exact LEAVE X hX hbl hbA hlt (VW.widen (c := 601024) (s := 7293034) (by omega) (by omega) (fin _ _ rfl))
  · have hle : 6 * t + 6 ≤ len := by
      rw [Int32.lt_iff_toInt_lt, e6, i4_toInt (by omega)] at hlt
      omega
    have gg : ∀ j, j < 6 → inb (i4 (6 * t + j)) len = true := fun j hj => inb4 (by omega) (by omega)
    refine TURN X hX hbl hbA (n := 199 + t) (n' := 8971 + 6 * t) (by omega) (by omega) hlt (gg 0 (by omega)) (by rw [ad1]; exact gg 1 (by omega)) (by rw [ad2]; exact gg 2 (by omega)) (by rw [ad3]; exact gg 3 (by omega)) (by rw [ad4]; exact gg 4 (by omega)) (by rw [ad5]; exact gg 5 (by omega)) hI ?_
    have h := ih (r - 6) (by omega) (t + 1) (by omega) (by omega)
    rw [ad6]
    exact h
