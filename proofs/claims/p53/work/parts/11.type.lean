/-! the law types its text -/
def tyI (i : Nat) (x2 : Int32) : Nat → (Nat → Int32) → Int32 → Option (Nat → Int32)
  | 0, _, _ => none
  | fu + 1, f, x4 => if 20 ≤ x4 then some f else gd (inb (x4 / 4) 5) (if sLen i ≤ x2 + x4 then tyI i x2 fu (upd f (ix (x4 / 4)) (((f (ix (x4 / 4))) <<< (8 &&& 31)) ||| 0)) (x4 + 1) else gd (inb (x2 + x4) (sN i)) (tyI i x2 fu (upd f (ix (x4 / 4)) (((f (ix (x4 / 4))) <<< (8 &&& 31)) ||| (sCh i (ix (x2 + x4))))) (x4 + 1)))
def tyO (i : Nat) : Nat → TT → Int32 → Option TT
  | 0, _, _ => none
  | fu + 1, T, x2 => if sLen i ≤ x2 then (f9_truncateText T (sLen i)).bind fun u => some u.2 else (tyI i x2 21 (fun _ => 0) 0).bind fun f => (f9_appendText T (f (ix 0)) (f (ix 1)) (f (ix 2)) (f (ix 3)) (f (ix 4))).bind fun u => tyO i fu u.2 (x2 + 20)
section TYPE
variable {k : KT} {z : ZT}
theorem r_newI {own : String} {cc : ByteArray} {nL : Nat} {ret : Option FieldType} {R0 : Room} {n n' pc pc' : Nat} {ws : va_W} {lo : List (Option Value)} {st : List Value} (X : XX k strs z own cc nL ret R0) {v : Int32} {N' : Nat} (hn : ¬ v < 0) (hN : v.toNatClampNeg = N') (hbytes : N' * componentBytes .int ≤ 536870912) (hc : n + 1 ≤ R0.cells) (hs : n' + N' ≤ R0.slots) (d : DEC cc pc 2 pc' (.newarray .int)) (kk : ∀ q : Nat, VW k z (n + 1) (n' + N') (ws ++ [(q, .inl (k.c 0, (N', .inl (fun _ => 0))))]) pc' lo (.ref q :: st)) : VW k z n n' ws pc lo (.int v :: st) := by
  obtain ⟨d, rfl⟩ := d
  intro H L la hP hD hS hl
  refine va_newaK (atype := .int) X.1 X.2.1 (X.ts _ ac_int) rfl d rfl hn hN hbytes (by rw [X.R]; exact hc) (by rw [X.R]; exact hs) rfl fun H1 cA e1 z1 o1 hAr hNm => ?_
  have hcA : cA = k.c 0 := by
    have h2 := (X.K.2 0 _ rfl).2
    exact Option.some.inj (hNm.symm.trans h2)
  subst hcA
  have hk : ∀ (kq : Nat) (x : Nat × va_E), ws[kq]? = some x → H1[x.1]? = H[x.1]? := fun kq x hx => o1 x.1 ((hP kq x hx).lt)
  have hA : kA k H.size := Nat.le_trans X.2.2.2.2.2.2.2.2.2 hS.1
  refine kk H.size H1 L la ((hP.kept hk).app (fun kq x hx => ?_)) (hD.push hP rfl hA) ⟨Nat.le_trans hS.1 (by omega), fun x h1 h2 => (o1 x (Nat.lt_of_lt_of_le h1 hS.1)).trans (hS.2.1 x h1 h2), hS.2.2⟩ hl
  have hz : kq < 1 := (List.getElem?_eq_some_iff.mp hx).1
  rw [show kq = 0 by omega] at hx
  cases hx
  show H1[H.size]? = some (vp_cell _ _)
  rw [vp_cell_i]
  exact e1
theorem VW.drop {n n' : Nat} {ws : va_W} {x : Nat × va_E} {pc : Nat} {lo : List (Option Value)} {st : List Value} (kk : VW k z n n' ws pc lo st) : VW k z n n' (ws ++ [x]) pc lo st := by
  intro H L la hP hD hS hl
  have hg : ∀ (i : Nat) (q : Nat × va_E), ws[i]? = some q → (ws ++ [x])[i]? = some q := fun i q h => by
    rw [List.getElem?_append_left (List.getElem?_eq_some_iff.mp h).1]; exact h
  exact kk H L la (fun i q h => hP i q (hg i q h)) ⟨fun i j p q hp hq h => hD.1 i j p q (hg i p hp) (hg j q hq) h, fun i q h => hD.2 i q (hg i q h)⟩ hS hl
set_option maxHeartbeats 4000000 in
theorem B_tyI {mc ms : Nat} (X : XX k strs z RL cL_type 5 none (rmD 5 mc ms)) {ws : va_W} {L q i : Nat} (hL : ws.length = L) (hi : i < 11) {n n' : Nat} (hn : n ≤ mc) (hn' : n' ≤ ms) {x2 : Int32} {F : Nat → Int32}
    (kk : ∀ x4 : Int32, VW k z n n' (ws ++ [(q, .inl (k.c 0, (5, .inl F)))]) 69 [some (.ref (k.b + (0))), some (.ref (k.sK i)), some (.int x2), some (.ref q), some (.int x4)] []) :
    ∀ (fu : Nat) (f : Nat → Int32) (x4 : Int32), tyI i x2 fu f x4 = some F → VW k z n n' (ws ++ [(q, .inl (k.c 0, (5, .inl f)))]) 17 [some (.ref (k.b + (0))), some (.ref (k.sK i)), some (.int x2), some (.ref q), some (.int x4)] [] := by
  intro fu
  induction fu with
  | zero => intro f x4 hf; cases hf
  | succ fu ih =>
    intro f x4 hf
    rw [tyI] at hf
    refine r_iload X (x := x4) dL_type_17 rfl ?_
    refine r_bipush X (v := 20) dL_type_19 rfl ?_
    refine r_icmp_ge X 69 dL_type_21 rfl (fun c => ?_) (fun c => ?_)
    · replace hf := ifT hf c
      obtain rfl := Option.some.inj hf
      exact kk x4
    · replace hf := ifF hf c
      obtain ⟨g, hf⟩ := gdS hf
      refine r_aload_n X (x := q) dL_type_24 rfl ?_
      refine r_iload X (x := x4) dL_type_25 rfl ?_
      refine r_iconst X (v := 4) dL_type_27 rfl ?_
      refine r_idiv X dL_type_28 (by decide) ?_
      refine r_aload_n X (x := q) dL_type_29 rfl ?_
      refine r_iload X (x := x4) dL_type_30 rfl ?_
      refine r_iconst X (v := 4) dL_type_32 rfl ?_
      refine r_idiv X dL_type_33 (by decide) ?_
      refine r_iaload X (f := f) (L + 0) (gx (p := L) (i := 0) hL rfl) g dL_type_34 ?_
      refine r_bipush X (v := 8) dL_type_35 rfl ?_
      refine r_ishl X dL_type_37 ?_
      refine r_iload_n X (x := x2) dL_type_38 rfl ?_
      refine r_iload X (x := x4) dL_type_39 rfl ?_
      refine r_iadd X dL_type_41 ?_
      refine r_aload_n X (x := k.sK i) dL_type_42 rfl ?_
      refine r_strlen X (i := i) hi lkL_7 (Nat.le_of_ble_eq_true rfl) (Nat.le_of_ble_eq_true rfl) rfl hn hn' dL_type_43 ?_
      have hfin : ∀ v : Int32, tyI i x2 fu (upd f (ix (x4 / 4)) (((f (ix (x4 / 4))) <<< (8 &&& 31)) ||| v)) (x4 + 1) = some F → VW k z n n' (ws ++ [(q, .inl (k.c 0, (5, .inl f)))]) 61 [some (.ref (k.b + (0))), some (.ref (k.sK i)), some (.int x2), some (.ref q), some (.int x4)] [.int v, .int ((f (ix (x4 / 4))) <<< (8 &&& 31)), .int (x4 / 4), .ref q] := by
        intro v hv
        refine r_ior X dL_type_61 ?_
        refine r_iastore X (f := f) (ws1 := ws ++ [(q, .inl (k.c 0, (5, .inl (upd f (ix (x4 / 4)) (((f (ix (x4 / 4))) <<< (8 &&& 31)) ||| v)))))]) (L + 0) (gx (p := L) (i := 0) hL rfl) g (sx (p := L) (i := 0) hL rfl) dL_type_62 ?_
        refine r_iinc X (x := x4) (v := x4 + 1) [some (.ref (k.b + (0))), some (.ref (k.sK i)), some (.int x2), some (.ref q), some (.int (x4 + 1))] dL_type_63 rfl rfl rfl ?_
        refine r_goto X 17 dL_type_66 rfl ?_
        exact ih _ _ hv
      refine r_icmp_ge X 60 dL_type_46 rfl (fun c2 => ?_) (fun c2 => ?_)
      · replace hf := ifT hf c2
        refine r_iconst X (v := 0) dL_type_60 rfl ?_
        exact hfin 0 hf
      · replace hf := ifF hf c2
        obtain ⟨g2, hf⟩ := gdS hf
        refine r_aload_n X (x := k.sK i) dL_type_49 rfl ?_
        refine r_iload_n X (x := x2) dL_type_50 rfl ?_
        refine r_iload X (x := x4) dL_type_51 rfl ?_
        refine r_iadd X dL_type_53 ?_
        refine r_strch X (i := i) hi lkL_13 g2 (Nat.le_of_ble_eq_true rfl) (Nat.le_of_ble_eq_true rfl) rfl hn hn' dL_type_54 ?_
        refine r_goto X 61 dL_type_57 rfl ?_
        exact hfin _ hf
set_option maxHeartbeats 4000000 in
theorem B_tyO {mc ms : Nat} (X : XX k strs z RL cL_type 5 none (rmD 5 mc ms)) {R : RR} {ly : Fin 2 → LL} {rc : RC} {hn : HN} {rp : RP} {tp : TP} {ee : EE} {st : Fin 12 → SS} {T' : TT} {i : Nat} (hi : i < 11) (hQ : zQ z = MQ (zB z) (Qof k none (wAll k T' R ly rc hn rp tp ee st)) (zA z) (zS z) mc ms (kA k)) :
    ∀ (fu n n' : Nat) (T : TT) (x2 : Int32), n + fu ≤ mc → n' + 5 * fu ≤ ms → tyO i fu T x2 = some T' → VW k z n n' (wAll k T R ly rc hn rp tp ee st) 2 [some (.ref (k.b + (0))), some (.ref (k.sK i)), some (.int x2), none, none] [] := by
  intro fu
  induction fu with
  | zero => intro n n' T x2 _ _ hf; cases hf
  | succ fu ih =>
    intro n n' T x2 h1 h2 hf
    rw [tyO] at hf
    refine r_iload_n X (x := x2) dL_type_2 rfl ?_
    refine r_aload_n X (x := k.sK i) dL_type_3 rfl ?_
    refine r_strlen X (i := i) hi lkL_7 (Nat.le_of_ble_eq_true rfl) (Nat.le_of_ble_eq_true rfl) rfl (by omega) (by omega) dL_type_4 ?_
    refine r_icmp_ge X 95 dL_type_7 rfl (fun c => ?_) (fun c => ?_)
    · replace hf := ifT hf c
      obtain ⟨u, hu, hf⟩ := bdS hf
      obtain rfl := Option.some.inj hf
      refine r_aload_n X (x := k.b + (0)) dL_type_95 rfl ?_
      refine r_aload_n X (x := k.sK i) dL_type_96 rfl ?_
      refine r_strlen X (i := i) hi lkL_7 (Nat.le_of_ble_eq_true rfl) (Nat.le_of_ble_eq_true rfl) rfl (by omega) (by omega) dL_type_97 ?_
      refine r_callV0 X [.int (sLen i)] [] (K9_truncateText hu) lkL_23 clsX9 rfl _ o_main (by decide) (Nat.le_of_ble_eq_true rfl) rfl rfl (Nat.le_of_ble_eq_true rfl) rfl rfl (by omega) (by omega) dL_type_100 ?_
      refine r_pop X dL_type_103 rfl ?_
      exact r_return X hQ rfl rfl (by omega) (by omega) dL_type_104
    · replace hf := ifF hf c
      obtain ⟨f, hf1, hf⟩ := bdS hf
      obtain ⟨u, hu, hf⟩ := bdS hf
      refine r_iconst X (v := 5) dL_type_10 rfl ?_
      refine r_newI X (N' := 5) (by decide) rfl (by decide) (by show n + 1 ≤ mc; omega) (by show n' + 5 ≤ ms; omega) dL_type_11 (fun q => ?_)
      refine r_astore_n X [some (.ref (k.b + (0))), some (.ref (k.sK i)), some (.int x2), some (.ref q), none] dL_type_13 (Nat.le_of_ble_eq_true rfl) rfl ?_
      refine r_iconst X (v := 0) dL_type_14 rfl ?_
      refine r_istore X [some (.ref (k.b + (0))), some (.ref (k.sK i)), some (.int x2), some (.ref q), some (.int 0)] dL_type_15 (Nat.le_of_ble_eq_true rfl) rfl ?_
      refine B_tyI X (L := 189) (q := q) wAll_len hi (by omega) (by omega) (F := f) (fun x4 => ?_) 21 _ 0 hf1
      refine r_aload_n X (x := k.b + (0)) dL_type_69 rfl ?_
      refine r_aload_n X (x := q) dL_type_70 rfl ?_
      refine r_iconst X (v := 0) dL_type_71 rfl ?_
      refine r_iaload X (f := f) (189 + 0) (gx (p := 189) (i := 0) wAll_len rfl) (by decide) dL_type_72 ?_
      refine r_aload_n X (x := q) dL_type_73 rfl ?_
      refine r_iconst X (v := 1) dL_type_74 rfl ?_
      refine r_iaload X (f := f) (189 + 0) (gx (p := 189) (i := 0) wAll_len rfl) (by decide) dL_type_75 ?_
      refine r_aload_n X (x := q) dL_type_76 rfl ?_
      refine r_iconst X (v := 2) dL_type_77 rfl ?_
      refine r_iaload X (f := f) (189 + 0) (gx (p := 189) (i := 0) wAll_len rfl) (by decide) dL_type_78 ?_
      refine r_aload_n X (x := q) dL_type_79 rfl ?_
      refine r_iconst X (v := 3) dL_type_80 rfl ?_
      refine r_iaload X (f := f) (189 + 0) (gx (p := 189) (i := 0) wAll_len rfl) (by decide) dL_type_81 ?_
      refine r_aload_n X (x := q) dL_type_82 rfl ?_
      refine r_iconst X (v := 4) dL_type_83 rfl ?_
      refine r_iaload X (f := f) (189 + 0) (gx (p := 189) (i := 0) wAll_len rfl) (by decide) dL_type_84 ?_
      refine VW.msk [true, true, true, false, false] rfl (lo' := [some (.ref (k.b + (0))), some (.ref (k.sK i)), some (.int x2), none, none]) rfl ?_
      refine VW.drop ?_
      refine r_callV0 X [.int (f (ix 0)), .int (f (ix 1)), .int (f (ix 2)), .int (f (ix 3)), .int (f (ix 4))] [] (K9_appendText hu) lkL_17 clsX9 rfl _ o_main (by decide) (Nat.le_of_ble_eq_true rfl) rfl rfl (Nat.le_of_ble_eq_true rfl) rfl rfl (by omega) (by omega) dL_type_85 ?_
      refine r_pop X dL_type_88 rfl ?_
      refine r_iinc X (x := x2) (v := x2 + 20) [some (.ref (k.b + (0))), some (.ref (k.sK i)), some (.int (x2 + 20)), none, none] dL_type_89 rfl rfl rfl ?_
      refine r_goto X 2 dL_type_92 rfl ?_
      exact ih (n + 1) (n' + 5) u.2 (x2 + 20) (by omega) (by omega) hf
theorem K_type {T : TT} {R : RR} {ly : Fin 2 → LL} {rc : RC} {hn : HN} {rp : RP} {tp : TP} {ee : EE} {st : Fin 12 → SS} {T' : TT} {i : Nat} (hi : i < 11) (hf : tyO i 20 T 0 = some T') : CT k strs yL_type cL_type 5 none (rmD 5 20 100) 20 100 [.ref (k.b + (0)), .ref (k.sK i)] (wAll k T R ly rc hn rp tp ee st) none (wAll k T' R ly rc hn rp tp ee st) := by
  refine CT.of (by decide) (Nat.le_of_ble_eq_true rfl) ?_
  intro z X hQ
  show VW k z 0 0 (wAll k T R ly rc hn rp tp ee st) 0 [some (.ref (k.b + (0))), some (.ref (k.sK i)), none, none, none] []
  refine r_iconst X (v := 0) dL_type_0 rfl ?_
  refine r_istore_n X [some (.ref (k.b + (0))), some (.ref (k.sK i)), some (.int 0), none, none] dL_type_1 (Nat.le_of_ble_eq_true rfl) rfl ?_
  exact B_tyO X hi hQ 20 0 0 T 0 (by omega) (by omega) hf
end TYPE
