/-! small words of the printed walks -/
def rmD (d mc ms : Nat) : Room := { frames := d, cells := mc, slots := ms, locals := 34 * d }
theorem rle {maxL d d' a b a' b' : Nat} (h : d < d') (hn : maxL ≤ 15) : RLE maxL (rmD d a b) (rmD d' a' b') := ⟨h, by show 8 + (maxL + 11) + 34 * d ≤ 34 * d'; omega⟩
def isB (v : Int32) : Bool := decide (v = 0 ∨ v = 1)
theorem nb_of {v : Int32} (h : isB v = true) : narrow .boolean (.int v) = .int v := by
  rcases of_decide_eq_true h with rfl | rfl <;> rfl
theorem nb_if {c : Prop} [Decidable c] : narrow .boolean (.int (if c then (1 : Int32) else 0)) = .int (if c then (1 : Int32) else 0) := by
  split <;> rfl
theorem nb_if0 {c : Prop} [Decidable c] : narrow .boolean (.int (if c then (0 : Int32) else 1)) = .int (if c then (0 : Int32) else 1) := by
  split <;> rfl
theorem tsw_out {x : Int32} {l h : Int} (hs : ∀ v : Int, l ≤ v → v ≤ h → x ≠ Int32.ofInt v) : x.toInt < l ∨ h < x.toInt := by
  by_cases a : x.toInt < l
  · exact Or.inl a
  · by_cases b : h < x.toInt
    · exact Or.inr b
    · exact absurd (Int32.ofInt_toInt x).symm (hs x.toInt (by omega) (by omega))
def updN (p : Nat → Fin 12) (m : Nat) (e : Fin 12) : Nat → Fin 12 := fun i => if i = m then e else p i
def FU : Nat := 4096
theorem FU_eq : FU = 4096 := rfl
def oI (x : Int32 ⊕ Nat) : Option Value ⊕ Nat := match x with
  | .inl v => .inl (some (.int v))
  | .inr e => .inr e
def oL (x : Int64 ⊕ Nat) : Option Value ⊕ Nat := match x with
  | .inl v => .inl (some (.long v))
  | .inr e => .inr e
def oD (x : UInt64 ⊕ Nat) : Option Value ⊕ Nat := match x with
  | .inl v => .inl (some (.double v))
  | .inr e => .inr e
theorem VW.foc {k : KT} {z : ZT} {n n' : Nat} {ws ws' : va_W} {pc : Nat} {lo : List (Option Value)} {st : List Value} (h : ws = ws') (kk : VW k z n n' ws' pc lo st) : VW k z n n' ws pc lo st := h ▸ kk

def nn64 (x : UInt64) : Bool := decide (x &&& 0x7fffffffffffffff ≤ 0x7ff0000000000000)
theorem nn_of {x : UInt64} (h : nn64 x = true) : vf_n64 x := by
  have h2 : x &&& 0x7fffffffffffffff ≤ 0x7ff0000000000000 := of_decide_eq_true h
  exact h2
theorem CT_unS {k : KT} {y : MethodName} {cc : ByteArray} {nL : Nat} {ret : Option FieldType} {R0 : Room} {args : List Value} {o : Option Value} {W W2 : (Fin 12 → SS) → va_W} {st : Fin 12 → SS} (j : Fin 12) (h : CT k strs y cc nL ret R0 0 0 args (W (updF st j (st j))) o (W2 (updF st j (st j)))) : CT k strs y cc nL ret R0 0 0 args (W st) o (W2 st) := by
  rw [updF_self] at h
  exact h
theorem heI {ws : va_W} {q a N : Nat} {c : ClassId} {f g : Nat → Int32} (h : ws[q]? = some (a, .inl (c, (N, .inl f)))) (e : f = g) : ws[q]? = some (a, .inl (c, (N, .inl g))) := e ▸ h
theorem heL {ws : va_W} {q a N : Nat} {c : ClassId} {f g : Nat → Int64} (h : ws[q]? = some (a, .inl (c, (N, .inr (.inl f))))) (e : f = g) : ws[q]? = some (a, .inl (c, (N, .inr (.inl g)))) := e ▸ h
theorem hvI {fs : List Value} {i : Nat} {x y : Int32} (h : fs[i]? = some (.int x)) (e : x = y) : fs[i]? = some (.int y) := e ▸ h
theorem nfw_le : nativeFrameWords "java/lang/System" "arraycopy" 5 + 11 ≤ 26 := by decide +kernel
theorem cpR {d mc ms a : Nat} (h : 1 ≤ d) (ha : a ≤ 8) : 1 ≤ (rmD d mc ms).frames ∧ a + (nativeFrameWords "java/lang/System" "arraycopy" 5 + 11) ≤ (rmD d mc ms).locals := ⟨h, by
  have := nfw_le
  show a + (nativeFrameWords "java/lang/System" "arraycopy" 5 + 11) ≤ 34 * d
  omega⟩
section MORE
variable {k : KT} {z : ZT} {own : String} {cc : ByteArray} {nL : Nat} {ret : Option FieldType} {d2 mc2 ms2 : Nat} {R0 : Room} {n n' pc pc' : Nat} {ws : va_W} {lo : List (Option Value)} {st : List Value}
theorem r_callV0 (X : XX k strs z own cc nL ret (rmD d2 mc2 ms2)) {ix ci maxL na d1 : Nat} {y : MethodName} {bytes : ByteArray} {rt : Option FieldType} {C : String} {T : u_T} {N : Nat} {ty : Nat → FieldType} {a : Nat} {fs : List Value} {o : Option Value} {ws' : va_W} {st0 st1 : List Value}
    (As : List Value) (st : List Value) (hM : CT k strs y bytes maxL rt (rmD d1 0 0) 0 0 (.ref a :: As) ws o ws') (w : LKV own ix y bytes maxL rt na) (c : CLS ci C T N ty) (hC : C = y.cls) (q : Nat) (he : ws[q]? = some (a, .inr (ci, fs))) (hd : d1 < d2) (hL : maxL ≤ 15)
    (hst : st0 = As.reverse ++ .ref a :: st) (hna : As.length = na) (hcat : (st.map fun v => v.category).sum ≤ 8) (hlo : lo.length = nL) (hst1 : o.toList ++ st = st1) (hc : n ≤ mc2) (hs : n' ≤ ms2) (d : DEC cc pc 3 pc' (.invokevirtual ix)) (kk : VW k z n n' ws' pc' lo st1) : VW k z n n' ws pc lo st0 :=
  r_callV X As st hM w c hC q he (rle hd hL) rfl rfl hc hs hst hna hcat hlo hst1 d kk
theorem r_callS0 (X : XX k strs z own cc nL ret (rmD d2 mc2 ms2)) {ix maxL na d1 : Nat} {y : MethodName} {bytes : ByteArray} {rt : Option FieldType} {o : Option Value} {ws' : va_W} {st0 st1 : List Value}
    (As : List Value) (st : List Value) (hM : CT k strs y bytes maxL rt (rmD d1 0 0) 0 0 As ws o ws') (w : LKS own ix y bytes maxL rt na) (hd : d1 < d2) (hL : maxL ≤ 15)
    (hst : st0 = As.reverse ++ st) (hna : As.length = na) (hcat : (st.map fun v => v.category).sum ≤ 8) (hlo : lo.length = nL) (hst1 : o.toList ++ st = st1) (hc : n ≤ mc2) (hs : n' ≤ ms2) (d : DEC cc pc 3 pc' (.invokestatic ix)) (kk : VW k z n n' ws' pc' lo st1) : VW k z n n' ws pc lo st0 :=
  r_callS X As st hM w (rle hd hL) rfl rfl hc hs hst hna hcat hlo hst1 d kk
theorem r_callSN0 (X : XX k strs z own cc nL ret (rmD d2 mc2 ms2)) {ix maxL na d1 : Nat} {y : MethodName} {host : String} {bytes : ByteArray} {rt : Option FieldType} {o : Option Value} {ws' : va_W} {st0 st1 : List Value}
    (As : List Value) (st : List Value) (hM : CT k strs y bytes maxL rt (rmD d1 0 0) 0 0 As ws o ws') (w : LKN own ix y host bytes maxL rt na) (hd : d1 < d2) (hL : maxL ≤ 15)
    (hst : st0 = As.reverse ++ st) (hna : As.length = na) (hcat : (st.map fun v => v.category).sum ≤ 8) (hlo : lo.length = nL) (hst1 : o.toList ++ st = st1) (hc : n ≤ mc2) (hs : n' ≤ ms2) (d : DEC cc pc 3 pc' (.invokestatic ix)) (kk : VW k z n n' ws' pc' lo st1) : VW k z n n' ws pc lo st0 :=
  r_callSN X As st hM w (rle hd hL) rfl rfl hc hs hst hna hcat hlo hst1 d kk
/-! text constants -/
theorem r_gets (X : XX k strs z own cc nL ret R0) {C fn fd : String} {v : Value} {ix : Nat} (hZ : va_Z C fn fd v (kA k) (zS z) (zS z).heap) (w : .fieldLink own ix C fn fd ∈ bigw) (d : DEC cc pc 3 pc' (.getstatic ix)) (kk : VW k z n n' ws pc' lo (v :: st)) : VW k z n n' ws pc lo st := by
  obtain ⟨d, rfl⟩ := d
  exact fun H L la hP hD hS hl => va_gets X.1 X.2.1 hZ hS X.own1 (X.ts _ w) (fun _ h => h) d (kk H L la hP hD hS hl)
theorem r_getOF (X : XX k strs z own cc nL ret R0) {C fn fd : String} {q : Nat} {v : Value} {ix : Nat} (hE : va_OF C fn fd v q (kA k) (zS z) (zS z).heap) (w : .fieldLink own ix C fn fd ∈ bigw) (d : DEC cc pc 3 pc' (.getfield ix)) (kk : VW k z n n' ws pc' lo (v :: st)) : VW k z n n' ws pc lo (.ref q :: st) := by
  obtain ⟨d, rfl⟩ := d
  exact fun H L la hP hD hS hl => vk_getf X.1 X.2.1 hE hS X.own1 (X.ts _ w) (fun _ h => h) d (kk H L la hP hD hS hl)
theorem r_tlen (X : XX k strs z own cc nL ret R0) {ty : FieldType} {t N : Nat} {f : Nat → Value} (hT : va_T ty t N f (kA k) (zS z) (zS z).heap) (d : DEC cc pc 1 pc' .arraylength) (kk : VW k z n n' ws pc' lo (.int (Int32.ofNat N) :: st)) : VW k z n n' ws pc lo (.ref t :: st) := by
  obtain ⟨d, rfl⟩ := d
  exact fun H L la hP hD hS hl => va_tlen X.1 X.2.1 hT hS rfl d (kk H L la hP hD hS hl)
theorem r_tb (X : XX k strs z own cc nL ret R0) {t N : Nat} {f : Nat → Value} {i : Int32} {v : Value} (hT : va_T .byte t N f (kA k) (zS z) (zS z).heap) (hi : inb i N = true) (hv : f (ix i) = v) (d : DEC cc pc 1 pc' .baload) (kk : VW k z n n' ws pc' lo (v :: st)) : VW k z n n' ws pc lo (.int i :: .ref t :: st) := by
  obtain ⟨d, rfl⟩ := d
  exact fun H L la hP hD hS hl => va_tb X.1 X.2.1 hT hS (inb_vp hi) hv d (kk H L la hP hD hS hl)
theorem r_alen (X : XX k strs z own cc nL ret R0) {a t0 : Nat} {cA : ClassId} {x : vp_A} {ty : FieldType} (q : Nat) (he : ws[q]? = some (a, .inl (cA, x))) (ht : (tysOf k)[t0]? = some (cA, ty)) (d : DEC cc pc 1 pc' .arraylength) (kk : VW k z n n' ws pc' lo (.int (Int32.ofNat x.1) :: st)) : VW k z n n' ws pc lo (.ref a :: st) := by
  obtain ⟨d, rfl⟩ := d
  exact fun H L la hP hD hS hl => va_alen X.1 X.2.1 X.K hP q t0 he ht rfl d (kk H L la hP hD hS hl)
theorem r_i2c (X : XX k strs z own cc nL ret R0) {x v : Int32} (d : DEC cc pc 1 pc' .i2c) (hv : (x.toUInt32 % 65536).toInt32 = v) (kk : VW k z n n' ws pc' lo (.int v :: st)) : VW k z n n' ws pc lo (.int x :: st) := by
  obtain ⟨d, rfl⟩ := d
  exact fun H L la hP hD hS hl => lv_i2c X.1 X.2.1 d hv (kk H L la hP hD hS hl)
theorem r_nreturn {ty : FieldType} (X : XX k strs z own cc nL (some ty) R0) {mc ms : Nat} {o : Option Value} {ws' : va_W} {v : Int32} (hQ : zQ z = MQ (zB z) (Qof k o ws') (zA z) (zS z) mc ms (kA k)) (ho : o = some (.int v)) (hw : ws = ws') (hc : n ≤ mc) (hs : n' ≤ ms) (hv : narrow ty (.int v) = .int v) (d : DEC cc pc 1 pc' .ireturn) : VW k z n n' ws pc lo [.int v] := by
  intro H L la hP hD hS hl
  subst ho; subst hw
  obtain ⟨d, rfl⟩ := d
  unfold ZW
  rw [hQ]
  exact W.widen hc hs (W.zret X.1 X.2.1 X.ret1 hv (fun t ht _ => ⟨rfl, by rw [ht]; exact hP, hD, hS.F ht⟩) hS.2.2 d X.locks)
/-- a call of a text constant's method -/
theorem r_callStr (X : XX k strs z own cc nL ret (rmD d2 mc2 ms2)) {ix maxL na d1 i : Nat} {y : MethodName} {bytes : ByteArray} {rt : Option FieldType} {o : Option Value} {ws' : va_W} {st0 st1 : List Value} {q : ST}
    (As : List Value) (st : List Value) (hq : strs[i]? = some q) (hM : CT k strs y bytes maxL rt (rmD d1 0 0) 0 0 (.ref (k.sK i) :: As) ws o ws') (w : LKV own ix y bytes maxL rt na) (hC : y.cls = "java/lang/String") (hd : d1 < d2) (hL : maxL ≤ 15)
    (hst : st0 = As.reverse ++ .ref (k.sK i) :: st) (hna : As.length = na) (hcat : (st.map fun v => v.category).sum ≤ 8) (hlo : lo.length = nL) (hst1 : o.toList ++ st = st1) (hc : n ≤ mc2) (hs : n' ≤ ms2) (d : DEC cc pc 3 pc' (.invokevirtual ix)) (kk : VW k z n n' ws' pc' lo st1) : VW k z n n' ws pc lo st0 := by
  subst hst; subst hst1
  obtain ⟨d, rfl⟩ := d
  intro H L la hP hD hS hl
  have hrecv : ∃ cell : Cell, H[k.sK i]? = some cell ∧ cell.vm.isStatics = false ∧ (zS z).vm.findClass y.cls = some cell.cls := by
    obtain ⟨cell, h1, h2, h3, h4⟩ := (X.F.2.1 i q hq).2.1
    exact ⟨cell, by rw [hS.2.1 _ (Array.getElem?_eq_some_iff.mp h1).1 h4]; exact h1, h2, by rw [hC]; exact h3⟩
  exact run_on X hS hl (va_runV (n := na) (nL := nL) (As := As) (rest := st) ⟨X.1, X.2.1, X.ml, X.own1, X.ts⟩ hM ⟨cb_of X w.1 (rle hd hL) rfl rfl, X.ts _ w.2.1, X.ts _ w.2.2⟩ ⟨PW.blind, hrecv, (pre_of X hP hD hS).2⟩ rfl hna (hl.1.trans hlo) rfl (lv_room hcat) d ⟨by rw [X.R]; exact hc, by rw [X.R]; exact hs⟩) kk
end MORE
/-! over the world with one state by itself: another state's cells -/

section WORLD2
variable {k : KT} {T : TT} {R : RR} {ly : Fin 2 → LL} {rc : RC} {hn : HN} {rp : RP} {tp : TP} {ee : EE} {st : Fin 12 → SS}
theorem o_st2 {i j : Fin 12} (hij : i ≠ j) (S : SS) : (wAll k T R ly rc hn rp tp ee (updF st j S))[45 + 12 * i.val]? = some (k.b + (45 + 12 * i.val), .inr (5, fSt k i (st i))) := by
  have h := o_st (k := k) (st := updF st j S) i (T := T) (R := R) (ly := ly) (rc := rc) (hn := hn) (rp := rp) (tp := tp) (ee := ee)
  rw [updF_ne st S hij] at h
  exact h
theorem o_tl2 {i j : Fin 12} (hij : i ≠ j) (S : SS) : (wAll k T R ly rc hn rp tp ee (updF st j S))[45 + 12 * i.val + 9]? = some (k.b + (45 + 12 * i.val + 9), .inr (7, fTl k i (st i))) := by
  have h := o_tl (k := k) (st := updF st j S) i (T := T) (R := R) (ly := ly) (rc := rc) (hn := hn) (rp := rp) (tp := tp) (ee := ee)
  rw [updF_ne st S hij] at h
  exact h
theorem a_st2_gas {i j : Fin 12} (hij : i ≠ j) (S : SS) : (wAll k T R ly rc hn rp tp ee (updF st j S))[45 + 12 * i.val + 1]? = some (k.b + (45 + 12 * i.val + 1), .inl (k.c 1, (8, .inr (.inl (SS_gas (st i)))))) := by
  have h := a_st_gas (k := k) (st := updF st j S) i (T := T) (R := R) (ly := ly) (rc := rc) (hn := hn) (rp := rp) (tp := tp) (ee := ee)
  rw [updF_ne st S hij] at h
  exact h
theorem a_st2_pressure {i j : Fin 12} (hij : i ≠ j) (S : SS) : (wAll k T R ly rc hn rp tp ee (updF st j S))[45 + 12 * i.val + 2]? = some (k.b + (45 + 12 * i.val + 2), .inl (k.c 0, (9, .inl (SS_pressure (st i))))) := by
  have h := a_st_pressure (k := k) (st := updF st j S) i (T := T) (R := R) (ly := ly) (rc := rc) (hn := hn) (rp := rp) (tp := tp) (ee := ee)
  rw [updF_ne st S hij] at h
  exact h
theorem a_st2_outgassing {i j : Fin 12} (hij : i ≠ j) (S : SS) : (wAll k T R ly rc hn rp tp ee (updF st j S))[45 + 12 * i.val + 3]? = some (k.b + (45 + 12 * i.val + 3), .inl (k.c 0, (8, .inl (SS_outgassing (st i))))) := by
  have h := a_st_outgassing (k := k) (st := updF st j S) i (T := T) (R := R) (ly := ly) (rc := rc) (hn := hn) (rp := rp) (tp := tp) (ee := ee)
  rw [updF_ne st S hij] at h
  exact h
theorem a_st2_leakSum {i j : Fin 12} (hij : i ≠ j) (S : SS) : (wAll k T R ly rc hn rp tp ee (updF st j S))[45 + 12 * i.val + 4]? = some (k.b + (45 + 12 * i.val + 4), .inl (k.c 0, (8, .inl (SS_leakSum (st i))))) := by
  have h := a_st_leakSum (k := k) (st := updF st j S) i (T := T) (R := R) (ly := ly) (rc := rc) (hn := hn) (rp := rp) (tp := tp) (ee := ee)
  rw [updF_ne st S hij] at h
  exact h
theorem a_st2_rule {i j : Fin 12} (hij : i ≠ j) (S : SS) : (wAll k T R ly rc hn rp tp ee (updF st j S))[45 + 12 * i.val + 5]? = some (k.b + (45 + 12 * i.val + 5), .inl (k.c 0, (10, .inl (SS_rule (st i))))) := by
  have h := a_st_rule (k := k) (st := updF st j S) i (T := T) (R := R) (ly := ly) (rc := rc) (hn := hn) (rp := rp) (tp := tp) (ee := ee)
  rw [updF_ne st S hij] at h
  exact h
theorem a_st2_valveTrips {i j : Fin 12} (hij : i ≠ j) (S : SS) : (wAll k T R ly rc hn rp tp ee (updF st j S))[45 + 12 * i.val + 6]? = some (k.b + (45 + 12 * i.val + 6), .inl (k.c 0, (10, .inl (SS_valveTrips (st i))))) := by
  have h := a_st_valveTrips (k := k) (st := updF st j S) i (T := T) (R := R) (ly := ly) (rc := rc) (hn := hn) (rp := rp) (tp := tp) (ee := ee)
  rw [updF_ne st S hij] at h
  exact h
theorem a_st2_pumpTrips {i j : Fin 12} (hij : i ≠ j) (S : SS) : (wAll k T R ly rc hn rp tp ee (updF st j S))[45 + 12 * i.val + 7]? = some (k.b + (45 + 12 * i.val + 7), .inl (k.c 0, (6, .inl (SS_pumpTrips (st i))))) := by
  have h := a_st_pumpTrips (k := k) (st := updF st j S) i (T := T) (R := R) (ly := ly) (rc := rc) (hn := hn) (rp := rp) (tp := tp) (ee := ee)
  rw [updF_ne st S hij] at h
  exact h
theorem a_st2_leak {i j : Fin 12} (hij : i ≠ j) (S : SS) : (wAll k T R ly rc hn rp tp ee (updF st j S))[45 + 12 * i.val + 8]? = some (k.b + (45 + 12 * i.val + 8), .inl (k.c 0, (24, .inl (SS_leak (st i))))) := by
  have h := a_st_leak (k := k) (st := updF st j S) i (T := T) (R := R) (ly := ly) (rc := rc) (hn := hn) (rp := rp) (tp := tp) (ee := ee)
  rw [updF_ne st S hij] at h
  exact h
theorem a_st2_facts {i j : Fin 12} (hij : i ≠ j) (S : SS) : (wAll k T R ly rc hn rp tp ee (updF st j S))[45 + 12 * i.val + 10]? = some (k.b + (45 + 12 * i.val + 10), .inl (k.c 0, (40, .inl (SS_facts (st i))))) := by
  have h := a_st_facts (k := k) (st := updF st j S) i (T := T) (R := R) (ly := ly) (rc := rc) (hn := hn) (rp := rp) (tp := tp) (ee := ee)
  rw [updF_ne st S hij] at h
  exact h
theorem a_st2_rises {i j : Fin 12} (hij : i ≠ j) (S : SS) : (wAll k T R ly rc hn rp tp ee (updF st j S))[45 + 12 * i.val + 11]? = some (k.b + (45 + 12 * i.val + 11), .inl (k.c 1, (20, .inr (.inl (SS_rises (st i)))))) := by
  have h := a_st_rises (k := k) (st := updF st j S) i (T := T) (R := R) (ly := ly) (rc := rc) (hn := hn) (rp := rp) (tp := tp) (ee := ee)
  rw [updF_ne st S hij] at h
  exact h
theorem s_pastU (m : Nat) (e : Fin 12) : (wAll k T R ly rc hn rp tp ee st).set (44) (k.b + (44), .inl (k.c 4, (10, .inr (.inr (.inr (.inr (va_up (fun i => some (k.b + (45 + 12 * (TP_past tp i).val))) m (some (k.b + (45 + 12 * e.val)))))))))) = wAll k T R ly rc hn rp (TP_set_past tp (updN (TP_past tp) m e)) ee st := by
  have h : va_up (fun i => some (k.b + (45 + 12 * (TP_past tp i).val))) m (some (k.b + (45 + 12 * e.val))) = fun i => some (k.b + (45 + 12 * (updN (TP_past tp) m e i).val)) := by
    funext i
    unfold va_up updN
    split <;> rfl
  rw [h]
  exact s_past _
end WORLD2

theorem fs_38 : .fieldLink "java/lang/String" 38 "java/lang/String" "COMPACT_STRINGS" "Z" ∈ bigw := (gb2 198 (by decide +kernel) (by decide +kernel))
theorem fs_9 : .fieldLink "java/lang/String" 9 "java/lang/String" "value" "[B" ∈ bigw := (gb5 151 (by decide +kernel) (by decide +kernel))
theorem fs_15 : .fieldLink "java/lang/String" 15 "java/lang/String" "coder" "B" ∈ bigw := (gb5 152 (by decide +kernel) (by decide +kernel))
theorem fs_1053 : .fieldLink "java/lang/String" 1053 "jdk/internal/util/Preconditions" "SIOOBE_FORMATTER" "Ljava/util/function/BiFunction;" ∈ bigw := (gb2 214 (by decide +kernel) (by decide +kernel))
def yS_coder : MethodName := ⟨"java/lang/String", "coder", "()B"⟩
set_option maxRecDepth 100000 in
theorem mc_S_coder : .code yS_coder prog_23_method_152_code 1 (some .byte) ∈ bigw := (gb2 197 rfl (by decide +kernel))
theorem mi_S_coder : .initialized yS_coder.cls ∈ bigw := (gb1 11 (by decide +kernel) (by decide +kernel))
theorem ms_S_coder : .instanceMethod yS_coder ∈ bigw ∧ .selects yS_coder.cls yS_coder yS_coder ∈ bigw := ⟨(gb2 195 (by decide +kernel) (by decide +kernel)), (gb2 196 (by decide +kernel) (by decide +kernel))⟩
def yS_length : MethodName := ⟨"java/lang/String", "length", "()I"⟩
set_option maxRecDepth 100000 in
theorem mc_S_length : .code yS_length prog_23_method_54_code 1 (some .int) ∈ bigw := (gb2 193 rfl (by decide +kernel))
theorem mi_S_length : .initialized yS_length.cls ∈ bigw := (gb1 11 (by decide +kernel) (by decide +kernel))
theorem ms_S_length : .instanceMethod yS_length ∈ bigw ∧ .selects yS_length.cls yS_length yS_length ∈ bigw := ⟨(gb2 191 (by decide +kernel) (by decide +kernel)), (gb2 192 (by decide +kernel) (by decide +kernel))⟩
def yS_charAt : MethodName := ⟨"java/lang/String", "charAt", "(I)C"⟩
set_option maxRecDepth 100000 in
theorem mc_S_charAt : .code yS_charAt prog_23_method_56_code 2 (some .char) ∈ bigw := (gb2 203 rfl (by decide +kernel))
theorem mi_S_charAt : .initialized yS_charAt.cls ∈ bigw := (gb1 11 (by decide +kernel) (by decide +kernel))
theorem ms_S_charAt : .instanceMethod yS_charAt ∈ bigw ∧ .selects yS_charAt.cls yS_charAt yS_charAt ∈ bigw := ⟨(gb2 201 (by decide +kernel) (by decide +kernel)), (gb2 202 (by decide +kernel) (by decide +kernel))⟩
def yS_isLatin1 : MethodName := ⟨"java/lang/String", "isLatin1", "()Z"⟩
set_option maxRecDepth 100000 in
theorem mc_S_isLatin1 : .code yS_isLatin1 prog_23_method_154_code 1 (some .boolean) ∈ bigw := (gb2 207 rfl (by decide +kernel))
theorem mi_S_isLatin1 : .initialized yS_isLatin1.cls ∈ bigw := (gb1 11 (by decide +kernel) (by decide +kernel))
theorem ms_S_isLatin1 : .instanceMethod yS_isLatin1 ∈ bigw ∧ .selects yS_isLatin1.cls yS_isLatin1 yS_isLatin1 ∈ bigw := ⟨(gb2 205 (by decide +kernel) (by decide +kernel)), (gb2 206 (by decide +kernel) (by decide +kernel))⟩
def yL_charAt : MethodName := ⟨"java/lang/StringLatin1", "charAt", "([BI)C"⟩
set_option maxRecDepth 100000 in
theorem mc_L_charAt : .code yL_charAt prog_24_method_2_code 2 (some .char) ∈ bigw := (gb2 210 rfl (by decide +kernel))
theorem mi_L_charAt : .initialized yL_charAt.cls ∈ bigw := (gb1 12 (by decide +kernel) (by decide +kernel))
theorem ms_L_charAt : .static yL_charAt ∈ bigw := (gb2 209 (by decide +kernel) (by decide +kernel))
def yS_checkIndex : MethodName := ⟨"java/lang/String", "checkIndex", "(II)V"⟩
set_option maxRecDepth 100000 in
theorem mc_S_checkIndex : .code yS_checkIndex prog_23_method_155_code 2 none ∈ bigw := (gb2 213 rfl (by decide +kernel))
theorem mi_S_checkIndex : .initialized yS_checkIndex.cls ∈ bigw := (gb1 11 (by decide +kernel) (by decide +kernel))
theorem ms_S_checkIndex : .static yS_checkIndex ∈ bigw := (gb2 212 (by decide +kernel) (by decide +kernel))
def yP_checkIndex : MethodName := ⟨"jdk/internal/util/Preconditions", "checkIndex", "(IILjava/util/function/BiFunction;)I"⟩
set_option maxRecDepth 100000 in
theorem mc_P_checkIndex : .code yP_checkIndex prog_31_method_11_code 3 (some .int) ∈ bigw := (gb2 218 rfl (by decide +kernel))
theorem mi_P_checkIndex : .initialized yP_checkIndex.cls ∈ bigw := (gb1 13 (by decide +kernel) (by decide +kernel))
theorem ms_P_checkIndex : .static yP_checkIndex ∈ bigw := (gb2 217 (by decide +kernel) (by decide +kernel))
theorem lkS_335 : LKV "java/lang/String" 335 yS_coder prog_23_method_152_code 1 (some .byte) 0 := ⟨⟨(gb2 194 (by decide +kernel) (by decide +kernel)), mc_S_coder, mi_S_coder, by decide, by decide +kernel⟩, ms_S_coder.1, ms_S_coder.2⟩
theorem lkS_492 : LKV "java/lang/String" 492 yS_isLatin1 prog_23_method_154_code 1 (some .boolean) 0 := ⟨⟨(gb2 204 (by decide +kernel) (by decide +kernel)), mc_S_isLatin1, mi_S_isLatin1, by decide, by decide +kernel⟩, ms_S_isLatin1.1, ms_S_isLatin1.2⟩
theorem lkS_495 : LKS "java/lang/String" 495 yL_charAt prog_24_method_2_code 2 (some .char) 2 := ⟨⟨(gb2 208 (by decide +kernel) (by decide +kernel)), mc_L_charAt, mi_L_charAt, by decide, by decide +kernel⟩, ms_L_charAt⟩
theorem lkS_9 : LKS "java/lang/StringLatin1" 9 yS_checkIndex prog_23_method_155_code 2 none 2 := ⟨⟨(gb2 211 (by decide +kernel) (by decide +kernel)), mc_S_checkIndex, mi_S_checkIndex, by decide, by decide +kernel⟩, ms_S_checkIndex⟩
theorem lkS_1059 : LKS "java/lang/String" 1059 yP_checkIndex prog_31_method_11_code 3 (some .int) 3 := ⟨⟨(gb2 216 (by decide +kernel) (by decide +kernel)), mc_P_checkIndex, mi_P_checkIndex, by decide, by decide +kernel⟩, ms_P_checkIndex⟩
theorem dSS_coder_0 : decode prog_23_method_152_code 0 = .ok (.getstatic 38, 3) ∧ 3 = 0 + 3 := ⟨by decide +kernel, rfl⟩
theorem dSS_coder_3 : decode prog_23_method_152_code 3 = .ok (.ifCond .eq 10, 3) ∧ 6 = 3 + 3 := ⟨by decide +kernel, rfl⟩
theorem dSS_coder_6 : decode prog_23_method_152_code 6 = .ok (.aload_n 0, 1) ∧ 7 = 6 + 1 := ⟨by decide +kernel, rfl⟩
theorem dSS_coder_7 : decode prog_23_method_152_code 7 = .ok (.getfield 15, 3) ∧ 10 = 7 + 3 := ⟨by decide +kernel, rfl⟩
theorem dSS_coder_10 : decode prog_23_method_152_code 10 = .ok (.goto 4, 3) ∧ 13 = 10 + 3 := ⟨by decide +kernel, rfl⟩
theorem dSS_coder_14 : decode prog_23_method_152_code 14 = .ok (.ireturn, 1) ∧ 15 = 14 + 1 := ⟨by decide +kernel, rfl⟩
theorem dSS_length_0 : decode prog_23_method_54_code 0 = .ok (.aload_n 0, 1) ∧ 1 = 0 + 1 := ⟨by decide +kernel, rfl⟩
theorem dSS_length_1 : decode prog_23_method_54_code 1 = .ok (.getfield 9, 3) ∧ 4 = 1 + 3 := ⟨by decide +kernel, rfl⟩
theorem dSS_length_4 : decode prog_23_method_54_code 4 = .ok (.arraylength, 1) ∧ 5 = 4 + 1 := ⟨by decide +kernel, rfl⟩
theorem dSS_length_5 : decode prog_23_method_54_code 5 = .ok (.aload_n 0, 1) ∧ 6 = 5 + 1 := ⟨by decide +kernel, rfl⟩
theorem dSS_length_6 : decode prog_23_method_54_code 6 = .ok (.invokevirtual 335, 3) ∧ 9 = 6 + 3 := ⟨by decide +kernel, rfl⟩
theorem dSS_length_9 : decode prog_23_method_54_code 9 = .ok (.ishr, 1) ∧ 10 = 9 + 1 := ⟨by decide +kernel, rfl⟩
theorem dSS_length_10 : decode prog_23_method_54_code 10 = .ok (.ireturn, 1) ∧ 11 = 10 + 1 := ⟨by decide +kernel, rfl⟩
theorem dSS_isLatin1_0 : decode prog_23_method_154_code 0 = .ok (.getstatic 38, 3) ∧ 3 = 0 + 3 := ⟨by decide +kernel, rfl⟩
theorem dSS_isLatin1_3 : decode prog_23_method_154_code 3 = .ok (.ifCond .eq 14, 3) ∧ 6 = 3 + 3 := ⟨by decide +kernel, rfl⟩
theorem dSS_isLatin1_6 : decode prog_23_method_154_code 6 = .ok (.aload_n 0, 1) ∧ 7 = 6 + 1 := ⟨by decide +kernel, rfl⟩
theorem dSS_isLatin1_7 : decode prog_23_method_154_code 7 = .ok (.getfield 15, 3) ∧ 10 = 7 + 3 := ⟨by decide +kernel, rfl⟩
theorem dSS_isLatin1_10 : decode prog_23_method_154_code 10 = .ok (.ifCond .ne 7, 3) ∧ 13 = 10 + 3 := ⟨by decide +kernel, rfl⟩
theorem dSS_isLatin1_13 : decode prog_23_method_154_code 13 = .ok (.iconst 1, 1) ∧ 14 = 13 + 1 := ⟨by decide +kernel, rfl⟩
theorem dSS_isLatin1_14 : decode prog_23_method_154_code 14 = .ok (.goto 4, 3) ∧ 17 = 14 + 3 := ⟨by decide +kernel, rfl⟩
theorem dSS_isLatin1_18 : decode prog_23_method_154_code 18 = .ok (.ireturn, 1) ∧ 19 = 18 + 1 := ⟨by decide +kernel, rfl⟩
theorem dSP_checkIndex_0 : decode prog_31_method_11_code 0 = .ok (.iload_n 0, 1) ∧ 1 = 0 + 1 := ⟨by decide +kernel, rfl⟩
theorem dSP_checkIndex_1 : decode prog_31_method_11_code 1 = .ok (.ifCond .lt 8, 3) ∧ 4 = 1 + 3 := ⟨by decide +kernel, rfl⟩
theorem dSP_checkIndex_4 : decode prog_31_method_11_code 4 = .ok (.iload_n 0, 1) ∧ 5 = 4 + 1 := ⟨by decide +kernel, rfl⟩
theorem dSP_checkIndex_5 : decode prog_31_method_11_code 5 = .ok (.iload_n 1, 1) ∧ 6 = 5 + 1 := ⟨by decide +kernel, rfl⟩
theorem dSP_checkIndex_6 : decode prog_31_method_11_code 6 = .ok (.if_icmp .lt 10, 3) ∧ 9 = 6 + 3 := ⟨by decide +kernel, rfl⟩
theorem dSP_checkIndex_16 : decode prog_31_method_11_code 16 = .ok (.iload_n 0, 1) ∧ 17 = 16 + 1 := ⟨by decide +kernel, rfl⟩
theorem dSP_checkIndex_17 : decode prog_31_method_11_code 17 = .ok (.ireturn, 1) ∧ 18 = 17 + 1 := ⟨by decide +kernel, rfl⟩
theorem dSS_checkIndex_0 : decode prog_23_method_155_code 0 = .ok (.iload_n 0, 1) ∧ 1 = 0 + 1 := ⟨by decide +kernel, rfl⟩
theorem dSS_checkIndex_1 : decode prog_23_method_155_code 1 = .ok (.iload_n 1, 1) ∧ 2 = 1 + 1 := ⟨by decide +kernel, rfl⟩
theorem dSS_checkIndex_2 : decode prog_23_method_155_code 2 = .ok (.getstatic 1053, 3) ∧ 5 = 2 + 3 := ⟨by decide +kernel, rfl⟩
theorem dSS_checkIndex_5 : decode prog_23_method_155_code 5 = .ok (.invokestatic 1059, 3) ∧ 8 = 5 + 3 := ⟨by decide +kernel, rfl⟩
theorem dSS_checkIndex_8 : decode prog_23_method_155_code 8 = .ok (.pop, 1) ∧ 9 = 8 + 1 := ⟨by decide +kernel, rfl⟩
theorem dSS_checkIndex_9 : decode prog_23_method_155_code 9 = .ok (.return_, 1) ∧ 10 = 9 + 1 := ⟨by decide +kernel, rfl⟩
theorem dSL_charAt_0 : decode prog_24_method_2_code 0 = .ok (.iload_n 1, 1) ∧ 1 = 0 + 1 := ⟨by decide +kernel, rfl⟩
theorem dSL_charAt_1 : decode prog_24_method_2_code 1 = .ok (.aload_n 0, 1) ∧ 2 = 1 + 1 := ⟨by decide +kernel, rfl⟩
theorem dSL_charAt_2 : decode prog_24_method_2_code 2 = .ok (.arraylength, 1) ∧ 3 = 2 + 1 := ⟨by decide +kernel, rfl⟩
theorem dSL_charAt_3 : decode prog_24_method_2_code 3 = .ok (.invokestatic 9, 3) ∧ 6 = 3 + 3 := ⟨by decide +kernel, rfl⟩
theorem dSL_charAt_6 : decode prog_24_method_2_code 6 = .ok (.aload_n 0, 1) ∧ 7 = 6 + 1 := ⟨by decide +kernel, rfl⟩
theorem dSL_charAt_7 : decode prog_24_method_2_code 7 = .ok (.iload_n 1, 1) ∧ 8 = 7 + 1 := ⟨by decide +kernel, rfl⟩
theorem dSL_charAt_8 : decode prog_24_method_2_code 8 = .ok (.baload, 1) ∧ 9 = 8 + 1 := ⟨by decide +kernel, rfl⟩
theorem dSL_charAt_9 : decode prog_24_method_2_code 9 = .ok (.sipush 255, 3) ∧ 12 = 9 + 3 := ⟨by decide +kernel, rfl⟩
theorem dSL_charAt_12 : decode prog_24_method_2_code 12 = .ok (.iand, 1) ∧ 13 = 12 + 1 := ⟨by decide +kernel, rfl⟩
theorem dSL_charAt_13 : decode prog_24_method_2_code 13 = .ok (.i2c, 1) ∧ 14 = 13 + 1 := ⟨by decide +kernel, rfl⟩
theorem dSL_charAt_14 : decode prog_24_method_2_code 14 = .ok (.ireturn, 1) ∧ 15 = 14 + 1 := ⟨by decide +kernel, rfl⟩
theorem dSS_charAt_0 : decode prog_23_method_56_code 0 = .ok (.aload_n 0, 1) ∧ 1 = 0 + 1 := ⟨by decide +kernel, rfl⟩
theorem dSS_charAt_1 : decode prog_23_method_56_code 1 = .ok (.invokevirtual 492, 3) ∧ 4 = 1 + 3 := ⟨by decide +kernel, rfl⟩
theorem dSS_charAt_4 : decode prog_23_method_56_code 4 = .ok (.ifCond .eq 12, 3) ∧ 7 = 4 + 3 := ⟨by decide +kernel, rfl⟩
theorem dSS_charAt_7 : decode prog_23_method_56_code 7 = .ok (.aload_n 0, 1) ∧ 8 = 7 + 1 := ⟨by decide +kernel, rfl⟩
theorem dSS_charAt_8 : decode prog_23_method_56_code 8 = .ok (.getfield 9, 3) ∧ 11 = 8 + 3 := ⟨by decide +kernel, rfl⟩
theorem dSS_charAt_11 : decode prog_23_method_56_code 11 = .ok (.iload_n 1, 1) ∧ 12 = 11 + 1 := ⟨by decide +kernel, rfl⟩
theorem dSS_charAt_12 : decode prog_23_method_56_code 12 = .ok (.invokestatic 495, 3) ∧ 15 = 12 + 3 := ⟨by decide +kernel, rfl⟩
theorem dSS_charAt_15 : decode prog_23_method_56_code 15 = .ok (.ireturn, 1) ∧ 16 = 15 + 1 := ⟨by decide +kernel, rfl⟩
section STRS
variable {k : KT} {ws : va_W} {i : Nat} {q : ST}
theorem kS_coder (hq : strs[i]? = some q) : CT k strs yS_coder prog_23_method_152_code 1 (some .byte) (rmD 0 0 0) 0 0 [.ref (k.sK i)] ws (some (.int 0)) ws := by
  refine CT.of (by decide) (Nat.le_of_ble_eq_true rfl) ?_
  intro z X hQ
  show VW k z 0 0 ws 0 [some (.ref (k.sK i))] []
  refine r_gets X X.F.2.2.2.2.2.2.2.2.2.1 fs_38 dSS_coder_0 ?_
  refine r_if_eq X 13 dSS_coder_3 rfl (fun h => absurd h (by decide)) (fun _ => ?_)
  refine r_aload_n X (x := k.sK i) dSS_coder_6 rfl ?_
  refine r_getOF X (X.F.2.1 i q hq).2.2.1 fs_15 dSS_coder_7 ?_
  refine r_goto X 14 dSS_coder_10 rfl ?_
  exact r_nreturn X hQ rfl rfl (Nat.le_of_ble_eq_true rfl) (Nat.le_of_ble_eq_true rfl) rfl dSS_coder_14
theorem kS_isLatin1 (hq : strs[i]? = some q) : CT k strs yS_isLatin1 prog_23_method_154_code 1 (some .boolean) (rmD 0 0 0) 0 0 [.ref (k.sK i)] ws (some (.int 1)) ws := by
  refine CT.of (by decide) (Nat.le_of_ble_eq_true rfl) ?_
  intro z X hQ
  show VW k z 0 0 ws 0 [some (.ref (k.sK i))] []
  refine r_gets X X.F.2.2.2.2.2.2.2.2.2.1 fs_38 dSS_isLatin1_0 ?_
  refine r_if_eq X 17 dSS_isLatin1_3 rfl (fun h => absurd h (by decide)) (fun _ => ?_)
  refine r_aload_n X (x := k.sK i) dSS_isLatin1_6 rfl ?_
  refine r_getOF X (X.F.2.1 i q hq).2.2.1 fs_15 dSS_isLatin1_7 ?_
  refine r_if_ne X 17 dSS_isLatin1_10 rfl (fun h => absurd rfl h) (fun _ => ?_)
  refine r_iconst X (v := 1) dSS_isLatin1_13 rfl ?_
  refine r_goto X 18 dSS_isLatin1_14 rfl ?_
  exact r_zreturn X hQ rfl rfl (Nat.le_of_ble_eq_true rfl) (Nat.le_of_ble_eq_true rfl) rfl dSS_isLatin1_18
theorem kS_length (hq : strs[i]? = some q) : CT k strs yS_length prog_23_method_54_code 1 (some .int) (rmD 1 0 0) 0 0 [.ref (k.sK i)] ws (some (.int (Int32.ofNat q.2.2.2.length >>> (0 &&& 31)))) ws := by
  refine CT.of (by decide) (Nat.le_of_ble_eq_true rfl) ?_
  intro z X hQ
  show VW k z 0 0 ws 0 [some (.ref (k.sK i))] []
  refine r_aload_n X (x := k.sK i) dSS_length_0 rfl ?_
  refine r_getOF X (X.F.2.1 i q hq).2.2.2.1 fs_9 dSS_length_1 ?_
  refine r_tlen X (X.F.2.1 i q hq).2.2.2.2 dSS_length_4 ?_
  refine r_aload_n X (x := k.sK i) dSS_length_5 rfl ?_
  refine r_callStr X [] [.int (Int32.ofNat q.2.2.2.length)] hq (kS_coder hq) lkS_335 rfl (by decide) (Nat.le_of_ble_eq_true rfl) rfl rfl (Nat.le_of_ble_eq_true rfl) rfl rfl (Nat.le_of_ble_eq_true rfl) (Nat.le_of_ble_eq_true rfl) dSS_length_6 ?_
  refine r_ishr X dSS_length_9 ?_
  exact r_ireturn X hQ rfl rfl (Nat.le_of_ble_eq_true rfl) (Nat.le_of_ble_eq_true rfl) dSS_length_10
theorem kP_checkIndex {x m : Int32} {v : Value} (hv : v = .null ∨ ∃ a, v = .ref a) (h0 : ¬ x < 0) (h1 : x < m) : CT k strs yP_checkIndex prog_31_method_11_code 3 (some .int) (rmD 0 0 0) 0 0 [.int x, .int m, v] ws (some (.int x)) ws := by
  rcases hv with rfl | ⟨a, rfl⟩
  all_goals
    refine CT.of (by decide) (Nat.le_of_ble_eq_true rfl) ?_
    intro z X hQ
    refine r_iload_n X (x := x) dSP_checkIndex_0 rfl ?_
    refine r_if_lt X 9 dSP_checkIndex_1 rfl (fun h => absurd h h0) (fun _ => ?_)
    refine r_iload_n X (x := x) dSP_checkIndex_4 rfl ?_
    refine r_iload_n X (x := m) dSP_checkIndex_5 rfl ?_
    refine r_icmp_lt X 16 dSP_checkIndex_6 rfl (fun _ => ?_) (fun h => absurd h1 h)
    refine r_iload_n X (x := x) dSP_checkIndex_16 rfl ?_
    exact r_ireturn X hQ rfl rfl (Nat.le_of_ble_eq_true rfl) (Nat.le_of_ble_eq_true rfl) dSP_checkIndex_17
theorem kS_checkIndex {x m : Int32} (h0 : ¬ x < 0) (h1 : x < m) : CT k strs yS_checkIndex prog_23_method_155_code 2 none (rmD 1 0 0) 0 0 [.int x, .int m] ws none ws := by
  refine CT.of (by decide) (Nat.le_of_ble_eq_true rfl) ?_
  intro z X hQ
  show VW k z 0 0 ws 0 [some (.int x), some (.int m)] []
  refine r_iload_n X (x := x) dSS_checkIndex_0 rfl ?_
  refine r_iload_n X (x := m) dSS_checkIndex_1 rfl ?_
  rcases X.F.2.2.2.2.2.2.2.2.2.2 with hz | ⟨a, hz⟩
  · refine r_gets X hz fs_1053 dSS_checkIndex_2 ?_
    refine r_callS0 X [.int x, .int m, .null] [] (kP_checkIndex (Or.inl rfl) h0 h1) lkS_1059 (by decide) (Nat.le_of_ble_eq_true rfl) rfl rfl (Nat.le_of_ble_eq_true rfl) rfl rfl (Nat.le_of_ble_eq_true rfl) (Nat.le_of_ble_eq_true rfl) dSS_checkIndex_5 ?_
    refine r_pop X dSS_checkIndex_8 rfl ?_
    exact r_return X hQ rfl rfl (Nat.le_of_ble_eq_true rfl) (Nat.le_of_ble_eq_true rfl) dSS_checkIndex_9
  · refine r_gets X hz fs_1053 dSS_checkIndex_2 ?_
    refine r_callS0 X [.int x, .int m, .ref a] [] (kP_checkIndex (Or.inr ⟨a, rfl⟩) h0 h1) lkS_1059 (by decide) (Nat.le_of_ble_eq_true rfl) rfl rfl (Nat.le_of_ble_eq_true rfl) rfl rfl (Nat.le_of_ble_eq_true rfl) (Nat.le_of_ble_eq_true rfl) dSS_checkIndex_5 ?_
    refine r_pop X dSS_checkIndex_8 rfl ?_
    exact r_return X hQ rfl rfl (Nat.le_of_ble_eq_true rfl) (Nat.le_of_ble_eq_true rfl) dSS_checkIndex_9
theorem kL_charAt (hq : strs[i]? = some q) {x v : Int32} (hx : inb x q.2.2.2.length = true) (h0 : ¬ x < 0) (h1 : x < Int32.ofNat q.2.2.2.length) (hv : ((q.2.2.2.getD (ix x) 0 &&& 255).toUInt32 % 65536).toInt32 = v) (hn : narrow .char (.int v) = .int v) : CT k strs yL_charAt prog_24_method_2_code 2 (some .char) (rmD 2 0 0) 0 0 [.ref (k.sV i), .int x] ws (some (.int v)) ws := by
  refine CT.of (by decide) (Nat.le_of_ble_eq_true rfl) ?_
  intro z X hQ
  show VW k z 0 0 ws 0 [some (.ref (k.sV i)), some (.int x)] []
  refine r_iload_n X (x := x) dSL_charAt_0 rfl ?_
  refine r_aload_n X (x := k.sV i) dSL_charAt_1 rfl ?_
  refine r_tlen X (X.F.2.1 i q hq).2.2.2.2 dSL_charAt_2 ?_
  refine r_callS0 X [.int x, .int (Int32.ofNat q.2.2.2.length)] [] (kS_checkIndex h0 h1) lkS_9 (by decide) (Nat.le_of_ble_eq_true rfl) rfl rfl (Nat.le_of_ble_eq_true rfl) rfl rfl (Nat.le_of_ble_eq_true rfl) (Nat.le_of_ble_eq_true rfl) dSL_charAt_3 ?_
  refine r_aload_n X (x := k.sV i) dSL_charAt_6 rfl ?_
  refine r_iload_n X (x := x) dSL_charAt_7 rfl ?_
  refine r_tb X (X.F.2.1 i q hq).2.2.2.2 hx rfl dSL_charAt_8 ?_
  refine r_sipush X (v := 255) dSL_charAt_9 rfl ?_
  refine r_iand X dSL_charAt_12 ?_
  refine r_i2c X dSL_charAt_13 hv ?_
  exact r_nreturn X hQ rfl rfl (Nat.le_of_ble_eq_true rfl) (Nat.le_of_ble_eq_true rfl) hn dSL_charAt_14
theorem kS_charAt (hq : strs[i]? = some q) {x v : Int32} (hx : inb x q.2.2.2.length = true) (h0 : ¬ x < 0) (h1 : x < Int32.ofNat q.2.2.2.length) (hv : ((q.2.2.2.getD (ix x) 0 &&& 255).toUInt32 % 65536).toInt32 = v) (hn : narrow .char (.int v) = .int v) : CT k strs yS_charAt prog_23_method_56_code 2 (some .char) (rmD 3 0 0) 0 0 [.ref (k.sK i), .int x] ws (some (.int v)) ws := by
  refine CT.of (by decide) (Nat.le_of_ble_eq_true rfl) ?_
  intro z X hQ
  show VW k z 0 0 ws 0 [some (.ref (k.sK i)), some (.int x)] []
  refine r_aload_n X (x := k.sK i) dSS_charAt_0 rfl ?_
  refine r_callStr X [] [] hq (kS_isLatin1 hq) lkS_492 rfl (by decide) (Nat.le_of_ble_eq_true rfl) rfl rfl (Nat.le_of_ble_eq_true rfl) rfl rfl (Nat.le_of_ble_eq_true rfl) (Nat.le_of_ble_eq_true rfl) dSS_charAt_1 ?_
  refine r_if_eq X 16 dSS_charAt_4 rfl (fun h => absurd h (by decide)) (fun _ => ?_)
  refine r_aload_n X (x := k.sK i) dSS_charAt_7 rfl ?_
  refine r_getOF X (X.F.2.1 i q hq).2.2.2.1 fs_9 dSS_charAt_8 ?_
  refine r_iload_n X (x := x) dSS_charAt_11 rfl ?_
  refine r_callS0 X [.ref (k.sV i), .int x] [] (kL_charAt hq hx h0 h1 hv hn) lkS_495 (by decide) (Nat.le_of_ble_eq_true rfl) rfl rfl (Nat.le_of_ble_eq_true rfl) rfl rfl (Nat.le_of_ble_eq_true rfl) (Nat.le_of_ble_eq_true rfl) dSS_charAt_12 ?_
  exact r_nreturn X hQ rfl rfl (Nat.le_of_ble_eq_true rfl) (Nat.le_of_ble_eq_true rfl) hn dSS_charAt_15
end STRS
def sB (i : Nat) : List Int32 := (strs[i]?.map (fun q => q.2.2.2)).getD []
def sN (i : Nat) : Nat := (sB i).length
def sLen (i : Nat) : Int32 := Int32.ofNat (sN i)
def sCh (i j : Nat) : Int32 := (sB i).getD j 0
theorem strs_at {i : Nat} (h : i < 11) : ∃ q, strs[i]? = some q ∧ sB i = q.2.2.2 := by
  have hl : i < strs.length := h
  exact ⟨strs[i], List.getElem?_eq_getElem hl, by unfold sB; rw [List.getElem?_eq_getElem hl]; rfl⟩
theorem sB_ok {i : Nat} (h : i < 11) : (sN i < 2 ^ 31 ∧ Int32.ofNat (sN i) >>> (0 &&& 31) = Int32.ofNat (sN i)) ∧ ∀ j, j < sN i → ((sCh i j &&& 255).toUInt32 % 65536).toInt32 = sCh i j ∧ narrow .char (.int (sCh i j)) = .int (sCh i j) := by
  revert i
  decide +kernel
section STRS2
variable {k : KT} {z : ZT} {own : String} {cc : ByteArray} {nL : Nat} {ret : Option FieldType} {d2 mc2 ms2 : Nat} {n n' pc pc' : Nat} {ws : va_W} {lo : List (Option Value)} {st : List Value}
theorem r_strlen (X : XX k strs z own cc nL ret (rmD d2 mc2 ms2)) {ix i : Nat} (hi : i < 11) (w : LKV own ix ⟨"java/lang/String", "length", "()I"⟩ prog_23_method_54_code 1 (some .int) 0) (hd : 1 < d2) (hcat : (st.map fun v => v.category).sum ≤ 8) (hlo : lo.length = nL) (hc : n ≤ mc2) (hs : n' ≤ ms2) (d : DEC cc pc 3 pc' (.invokevirtual ix)) (kk : VW k z n n' ws pc' lo (.int (sLen i) :: st)) : VW k z n n' ws pc lo (.ref (k.sK i) :: st) := by
  obtain ⟨q, hq, hb⟩ := strs_at hi
  have h1 := kS_length (k := k) (ws := ws) hq
  have h2 : Int32.ofNat q.2.2.2.length >>> (0 &&& 31) = sLen i := by rw [← hb]; exact (sB_ok hi).1.2
  rw [h2] at h1
  exact r_callStr X [] st hq h1 w rfl hd (Nat.le_of_ble_eq_true rfl) rfl rfl hcat hlo rfl hc hs d kk
theorem r_strch (X : XX k strs z own cc nL ret (rmD d2 mc2 ms2)) {jx i : Nat} {x : Int32} (hi : i < 11) (w : LKV own jx ⟨"java/lang/String", "charAt", "(I)C"⟩ prog_23_method_56_code 2 (some .char) 1) (hx : inb x (sN i) = true) (hd : 3 < d2) (hcat : (st.map fun v => v.category).sum ≤ 8) (hlo : lo.length = nL) (hc : n ≤ mc2) (hs : n' ≤ ms2) (d : DEC cc pc 3 pc' (.invokevirtual jx)) (kk : VW k z n n' ws pc' lo (.int (sCh i (ix x)) :: st)) : VW k z n n' ws pc lo (.int x :: .ref (k.sK i) :: st) := by
  obtain ⟨q, hq, hb⟩ := strs_at hi
  obtain ⟨hx1, hx2⟩ := of_decide_eq_true hx
  have hok := sB_ok hi
  have h0 : ¬ x < 0 := by rw [Int32.lt_iff_toInt_lt]; exact Int.not_lt.mpr hx1
  have h1 : x < Int32.ofNat q.2.2.2.length := by
    rw [← hb, Int32.lt_iff_toInt_lt]
    show x.toInt < (Int32.ofNat (sN i)).toInt
    rw [Int32.toInt_ofNat_of_lt hok.1.1]
    exact hx2
  have hj : ix x < sN i := by show x.toInt.toNat < sN i; omega
  have h3 : sCh i (ix x) = q.2.2.2.getD (ix x) 0 := by rw [← hb]; rfl
  have h4 := hok.2 _ hj
  exact r_callStr X [.int x] st hq (kS_charAt (v := sCh i (ix x)) hq (by rw [← hb]; exact hx) h0 h1 (by rw [← h3]; exact h4.1) h4.2) w rfl hd (Nat.le_of_ble_eq_true rfl) rfl rfl hcat hlo rfl hc hs d kk
end STRS2
