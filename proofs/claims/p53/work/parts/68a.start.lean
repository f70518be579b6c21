/-! the law, from its entry to its loop -/
section STARTROWS
variable {k : KT} {strs : List ST} {z : ZT} {own : String} {cc : ByteArray} {nL : Nat} {rt : Option FieldType} {R0 : Room} {n n' pc pc' : Nat} {ws : va_W} {lo : List (Option Value)} {st : List Value}
theorem s_iconst (X : XX k strs z own cc nL rt R0) {i : Int} {v : Int32} (d : DEC cc pc 1 pc' (.iconst i)) (hv : Int32.ofInt i = v) (kk : VN k z n n' ws pc' lo (.int v :: st)) : VN k z n n' ws pc lo st := by
  obtain ⟨d, rfl⟩ := d
  exact fun H L la hP hD hS hz hl => lv_iconst X.1 X.2.1 d hv (kk H L la hP hD hS hz hl)
theorem s_dup (X : XX k strs z own cc nL rt R0) {v : Value} (d : DEC cc pc 1 pc' .dup) (h : v.category = 1) (kk : VN k z n n' ws pc' lo (v :: v :: st)) : VN k z n n' ws pc lo (v :: st) := by
  obtain ⟨d, rfl⟩ := d
  exact fun H L la hP hD hS hz hl => lv_dup X.1 X.2.1 d h (kk H L la hP hD hS hz hl)
theorem s_new (X : XX k strs z own cc nL rt R0) {ci N ix q : Nat} {C : String} {T : u_T} {ty : Nat → FieldType} {fs : List Value} {ws1 : va_W} (c : CLS ci C T N ty) (w : NWC own ix C N) (hfs : ∀ j, j < N → defaultValue (ty j) = vp_V fs j) (hq : ws.length = q) (hws : ws ++ [(k.b + q, .inr (ci, fs))] = ws1) (hc : n + 1 ≤ R0.cells) (hs : n' + N ≤ R0.slots) (d : DEC cc pc 3 pc' (.new ix)) (kk : VN k z (n + 1) (n' + N) ws1 pc' lo (.ref (k.b + q) :: st)) : VN k z n n' ws pc lo st := by
  obtain ⟨d, rfl⟩ := d
  subst hq; subst hws
  intro H L la hP hD hS hz hl
  have hKn := X.K.1 ci _ c.1
  refine W.newcK X.1 X.2.1 X.own1 (X.ts _ w.1) (X.ts _ w.2.1) (X.ts _ w.2.2) rfl d (by rw [X.R]; exact hc) (by rw [X.R]; exact hs) hKn.2.1 hz fun H1 kC hkC e1 z1 o1 => ?_
  have hk : ∀ (k : Nat) (x : Nat × va_E), ws[k]? = some x → H1[x.1]? = H[x.1]? := fun k x hx => o1 x.1 (by rw [← hz]; exact (hP k x hx).lt)
  have hA : kA k (k.b + ws.length) := Nat.le_add_right _ _
  refine kk H1 L la ((hP.kept hk).app (fun kq x hx => ?_)) (hD.push hP hz.symm hA) ⟨Nat.le_trans hS.1 (by omega), fun x h1 h2 => (o1 x (by rw [← hz]; exact Nat.lt_of_lt_of_le h1 hS.1)).trans (hS.2.1 x h1 h2), hS.2.2⟩ (by rw [z1, List.length_append]; rfl) hl
  have hz : kq < 1 := (List.getElem?_eq_some_iff.mp hx).1
  rw [show kq = 0 by omega] at hx
  cases hx
  exact ⟨_, c.1, (u_born ty X.ts c.2.1 hKn hkC e1 c.2.2.1).to hfs⟩
theorem s_newa (X : XX k strs z own cc nL rt R0) {atype : ArrayType} {ty : FieldType} {t0 : Nat} {v : Int32} {N' q : Nat} {a0 : vp_A} {ws1 : va_W} (hty : newarray.typeOf atype = ty) (hw : .arrayClass ty ∈ bigw) (ht : (tysOf k)[t0]? = some (k.c t0, ty)) (ha : ∀ cA : ClassId, vp_cell cA a0 = arrV cA N' (fun _ => defaultValue ty)) (hn : ¬ v < 0) (hN : v.toNatClampNeg = N') (hbytes : N' * componentBytes ty ≤ 536870912) (hq : ws.length = q) (hws : ws ++ [(k.b + q, .inl (k.c t0, a0))] = ws1) (hc : n + 1 ≤ R0.cells) (hs : n' + N' ≤ R0.slots) (d : DEC cc pc 2 pc' (.newarray atype)) (kk : VN k z (n + 1) (n' + N') ws1 pc' lo (.ref (k.b + q) :: st)) : VN k z n n' ws pc lo (.int v :: st) := by
  obtain ⟨d, rfl⟩ := d
  subst hq; subst hws; subst hty
  intro H L la hP hD hS hz hl
  refine va_newaK X.1 X.2.1 (X.ts _ hw) rfl d rfl hn hN hbytes (by rw [X.R]; exact hc) (by rw [X.R]; exact hs) hz fun H1 cA e1 z1 o1 hAr hNm => ?_
  have hcA : cA = k.c t0 := by
    have h2 := (X.K.2 t0 _ ht).2
    cases atype <;> exact Option.some.inj (hNm.symm.trans h2)
  subst hcA
  have hk : ∀ (k : Nat) (x : Nat × va_E), ws[k]? = some x → H1[x.1]? = H[x.1]? := fun k x hx => o1 x.1 (by rw [← hz]; exact (hP k x hx).lt)
  have hA : kA k (k.b + ws.length) := Nat.le_add_right _ _
  refine kk H1 L la ((hP.kept hk).app (fun kq x hx => ?_)) (hD.push hP hz.symm hA) ⟨Nat.le_trans hS.1 (by omega), fun x h1 h2 => (o1 x (by rw [← hz]; exact Nat.lt_of_lt_of_le h1 hS.1)).trans (hS.2.1 x h1 h2), hS.2.2⟩ (by rw [z1, List.length_append]; rfl) hl
  have hz : kq < 1 := (List.getElem?_eq_some_iff.mp hx).1
  rw [show kq = 0 by omega] at hx
  cases hx
  show H1[k.b + ws.length]? = some (vp_cell _ _)
  rw [ha]
  exact e1
theorem s_astore_n (X : XX k strs z own cc nL rt R0) {i : Fin 4} {x : Nat} (lo' : List (Option Value)) (d : DEC cc pc 1 pc' (.astore_n i)) (hi : (i : Nat) < lo.length) (hlo : setL lo (i : Nat) (.ref x) = lo') (kk : VN k z n n' ws pc' lo' st) : VN k z n n' ws pc lo (.ref x :: st) := by
  obtain ⟨d, rfl⟩ := d
  subst hlo
  exact fun H L la hP hD hS hz hl => lv_astore_n X.1 X.2.1 d rfl hl.has hi rfl fun la' h => kk H L la' hP hD hS hz (setL_sub hi h)
theorem s_astore (X : XX k strs z own cc nL rt R0) {i : Nat} {x : Nat} (lo' : List (Option Value)) (d : DEC cc pc 2 pc' (.astore i)) (hi : i < lo.length) (hlo : setL lo i (.ref x) = lo') (kk : VN k z n n' ws pc' lo' st) : VN k z n n' ws pc lo (.ref x :: st) := by
  obtain ⟨d, rfl⟩ := d
  subst hlo
  exact fun H L la hP hD hS hz hl => lv_astore X.1 X.2.1 d hl.has hi rfl fun la' h => kk H L la' hP hD hS hz (setL_sub hi h)
theorem s_istore (X : XX k strs z own cc nL rt R0) {i : Nat} {x : Int32} (lo' : List (Option Value)) (d : DEC cc pc 2 pc' (.istore i)) (hi : i < lo.length) (hlo : setL lo i (.int x) = lo') (kk : VN k z n n' ws pc' lo' st) : VN k z n n' ws pc lo (.int x :: st) := by
  obtain ⟨d, rfl⟩ := d
  subst hlo
  exact fun H L la hP hD hS hz hl => lv_istore X.1 X.2.1 d hl.has hi rfl fun la' h => kk H L la' hP hD hS hz (setL_sub hi h)
theorem s_callI (X : XX k strs z own cc nL rt R0) (hAO : va_AO RX5 (zS z)) {ix maxL na mc ms a : Nat} {y : MethodName} {bytes : ByteArray} {R1 : Room} {ws' : va_W} {st0 : List Value}
    (As : List Value) (st : List Value) (hM : CN k strs y bytes maxL R1 mc ms (.ref a :: As) ws ws') (w : LKI own ix y bytes maxL na) (hR : RLE maxL R1 R0) (hmc : R1.cells = mc) (hms : R1.slots = ms) (hc : n + mc ≤ R0.cells) (hs : n' + ms ≤ R0.slots)
    (hst : st0 = As.reverse ++ .ref a :: st) (hna : As.length = na) (hcat : (st.map fun v => v.category).sum ≤ 8) (hlo : lo.length = nL) (d : DEC cc pc 3 pc' (.invokespecial ix)) (kk : VN k z (n + mc) (n' + ms) ws' pc' lo st) : VN k z n n' ws pc lo st0 := by
  subst hst
  obtain ⟨d, rfl⟩ := d
  intro H L la hP hD hS hz hl
  exact run_onN (R1 := R1) (ret := none) hS hl (va_runI (n := na) (nL := nL) (As := As) (rest := st) ⟨X.1, X.2.1, X.ml, X.own1, X.ts⟩ hM ⟨cb_of X w.1 hR hmc hms, w.2.1, X.ts _ w.2.2⟩ ⟨PN.blind, fun U hU hW => ⟨rfl, ⟨by rw [hU]; exact hP, hD, by rw [hU]; exact X.F.call hW hS.2.1, by rw [hU]; exact Nat.le_trans X.2.2.2.2.2.2.2.2.2 hS.1⟩, by rw [hU]; exact hz, va_AO.moved hW.alike hAO⟩⟩ rfl hna (hl.1.trans hlo) rfl (lv_room hcat) d ⟨by rw [X.R]; exact hc, by rw [X.R]; exact hs⟩) kk
end STARTROWS
abbrev gvC : Cond := Jvm.Cond.and given_1 narrow_1
abbrev strT (q : ST) : Term := .string q.1 q.2.1
abbrev strV (q : ST) : Term := .field (strT q) "java/lang/String" "value" "[B"
def strW (q : ST) : List Cond := [.exactly (strT q) "java/lang/String", .eq (.field (strT q) "java/lang/String" "coder" "B") (.int 0), .arrayOf (strV q) .byte, .eq (.length (strV q)) (.int (Int32.ofNat q.2.2.2.length))] ++ (List.range q.2.2.2.length).map (fun j => .eq (.elem (strV q) (.int (Int32.ofNat j))) (.int (q.2.2.2.getD j 0)))
theorem va_OFof {args : Array Value} {s : State} {tm : Term} {a : Nat} {A : Nat → Prop} {C n d : String} {v : Value} (ht : tm.eval args s none [] s = some (.ref a)) (hv : (Term.field tm C n d).eval args s none [] s = some v) (hA : ∀ a : Nat, a < s.heap.size → ¬ A a) : va_OF C n d v a A s s.heap := by
  cases hfo : s.fieldFound? C n d with
  | none =>
    rw [va_fe ht] at hv
    simp [State.fieldOf?, State.fieldNamed?, hfo] at hv
  | some x =>
    obtain ⟨cf, k, fi, f⟩ := x
    obtain ⟨g1, cell, g2, g3, -, -, g6⟩ := Term.field_spec hfo ht hv
    exact ⟨cf, k, fi, f, cell, hfo, g1, g2, g3, g6, hA _ (Array.getElem?_eq_some_iff.mp g2).1⟩
theorem str_of {args : Array Value} {s : State} {A : Nat → Prop} {q : ST} (hN : q.2.2.2.length < 2 ^ 31) (h : ∀ w ∈ strW q, w.before args s = true) (hr : (Cond.stringRef q.1 q.2.1 q.2.2.1).before args s = true) (hA : ∀ a : Nat, a < s.heap.size → ¬ A a) : ∃ sk sv : Nat, vk_R q.1 q.2.1 q.2.2.1 sk s ∧ va_O "java/lang/String" sk A s s.heap ∧ va_OF "java/lang/String" "coder" "B" (.int 0) sk A s s.heap ∧ va_OF "java/lang/String" "value" "[B" (.ref sv) sk A s s.heap ∧ va_T .byte sv q.2.2.2.length (fun j => .int (q.2.2.2.getD j 0)) A s s.heap := by
  have h0 : (Cond.exactly (strT q) "java/lang/String").before args s = true := h _ (by simp [strW])
  have h1 : (Cond.eq (.field (strT q) "java/lang/String" "coder" "B") (.int 0)).before args s = true := h _ (by simp [strW])
  have h2 : (Cond.arrayOf (strV q) .byte).before args s = true := h _ (by simp [strW])
  have h3 : (Cond.eq (.length (strV q)) (.int (Int32.ofNat q.2.2.2.length))).before args s = true := h _ (by simp [strW])
  obtain ⟨a, c, cA, kA, q1, q2, q3, q4, q5, q6, -⟩ := Cond.exactly_spec (args := args) (first := s) (o := none) (s := s) (idx := []) h0
  obtain ⟨sv, hsv, hT⟩ := va_Tof (tm := strV q) (f := fun j => .int (q.2.2.2.getD j 0)) (A := A) hN h2 (va_eqt h3) (fun j hj => va_eqt (h _ (by
    unfold strW
    exact List.mem_append_right _ (List.mem_map.mpr ⟨j, List.mem_range.mpr hj, rfl⟩)))) hA
  exact ⟨a, sv, vk_R.of hr q1, va_Oof h0 q1 hA, va_OFof q1 (va_eqt h1) hA, va_OFof q1 hsv hA, hT⟩
def strP : List Nat := [11, 22, 31, 42, 55, 66, 83, 94, 107, 121, 135]
set_option maxRecDepth 100000 in
theorem strP_ok : (List.range 11).all (fun i => match strs[i]? with
  | some q => decide (strW q = ((flatC gvC).drop (strP.getD i 0)).take (4 + q.2.2.2.length)) && decide (q.2.2.2.length < 2 ^ 31)
  | none => false) = true := by decide +kernel
theorem strs_in {i : Nat} {q : ST} (h : strs[i]? = some q) : (∀ w ∈ strW q, w ∈ flatC gvC) ∧ q.2.2.2.length < 2 ^ 31 := by
  have hi : i < 11 := (List.getElem?_eq_some_iff.mp h).1
  have h1 := List.all_eq_true.mp strP_ok i (List.mem_range.mpr hi)
  simp only [h, Bool.and_eq_true, decide_eq_true_eq] at h1
  refine ⟨fun w hw => ?_, h1.2⟩
  rw [h1.1] at hw
  exact List.mem_of_mem_drop (List.mem_of_mem_take hw)
theorem strs_ref : ∀ q ∈ strs, Cond.stringRef q.1 q.2.1 q.2.2.1 ∈ lw_tbl := List.forall_mem_cons.mpr ⟨(gt2 185 (by decide +kernel)), List.forall_mem_cons.mpr ⟨(gt2 238 (by decide +kernel)), List.forall_mem_cons.mpr ⟨(gt2 239 (by decide +kernel)), List.forall_mem_cons.mpr ⟨(gt3 0 (by decide +kernel)), List.forall_mem_cons.mpr ⟨(gt3 35 (by decide +kernel)), List.forall_mem_cons.mpr ⟨(gt5 3 (by decide +kernel)), List.forall_mem_cons.mpr ⟨(gt5 19 (by decide +kernel)), List.forall_mem_cons.mpr ⟨(gt5 20 (by decide +kernel)), List.forall_mem_cons.mpr ⟨(gt5 28 (by decide +kernel)), List.forall_mem_cons.mpr ⟨(gt5 29 (by decide +kernel)), List.forall_mem_cons.mpr ⟨(gt5 132 (by decide +kernel)), fun _ h => absurd h List.not_mem_nil⟩⟩⟩⟩⟩⟩⟩⟩⟩⟩⟩
theorem nf {w : Cond} (i : Nat) (h : (flatC gvC)[i]? = some w) : w ∈ flatC gvC := List.mem_of_getElem? h
theorem inX0 : .instantiable RX0 6 ∈ bigw := (gb1 224 (by decide +kernel) (by decide +kernel))
theorem inX1 : .instantiable RX1 19 ∈ bigw := (gb1 83 (by decide +kernel) (by decide +kernel))
theorem inX2 : .instantiable RX2 7 ∈ bigw := (gb1 50 (by decide +kernel) (by decide +kernel))
theorem inX3 : .instantiable RX3 4 ∈ bigw := (gb1 205 (by decide +kernel) (by decide +kernel))
theorem inX4 : .instantiable RX4 2 ∈ bigw := (gb2 11 (by decide +kernel) (by decide +kernel))
theorem inX5 : .instantiable RX5 13 ∈ bigw := (gb2 26 (by decide +kernel) (by decide +kernel))
theorem inX6 : .instantiable RX6 2 ∈ bigw := (gb1 189 (by decide +kernel) (by decide +kernel))
theorem inX7 : .instantiable RX7 4 ∈ bigw := (gb2 32 (by decide +kernel) (by decide +kernel))
theorem inX8 : .instantiable RX8 2 ∈ bigw := (gb1 34 (by decide +kernel) (by decide +kernel))
theorem inX9 : .instantiable RX9 14 ∈ bigw := (gb1 26 (by decide +kernel) (by decide +kernel))
theorem aoX5 : .arrayOver (.object RX5) ∈ lw_tbl := (gt2 25 (by decide +kernel))
theorem lS_0 : .laysStatic "java/lang/Throwable" "UNASSIGNED_STACK" "[Ljava/lang/StackTraceElement;" ∈ lw_tbl := (gt3 112 (by decide +kernel))
theorem iS_0 : .initialized "java/lang/Throwable" ∈ lw_tbl := (gt1 15 (by decide +kernel))
theorem gS_0 : Cond.isRef (.static "java/lang/Throwable" "UNASSIGNED_STACK" "[Ljava/lang/StackTraceElement;") ∈ flatC gvC := nf 9 (by decide +kernel)
theorem lS_1 : .laysStatic "java/lang/Throwable" "SUPPRESSED_SENTINEL" "Ljava/util/List;" ∈ lw_tbl := (gt3 114 (by decide +kernel))
theorem iS_1 : .initialized "java/lang/Throwable" ∈ lw_tbl := (gt1 15 (by decide +kernel))
theorem gS_1 : Cond.isRef (.static "java/lang/Throwable" "SUPPRESSED_SENTINEL" "Ljava/util/List;") ∈ flatC gvC := nf 10 (by decide +kernel)
theorem lS_2 : .laysStatic "java/lang/String" "COMPACT_STRINGS" "Z" ∈ lw_tbl := (gt2 199 (by decide +kernel))
theorem iS_2 : .initialized "java/lang/String" ∈ lw_tbl := (gt1 11 (by decide +kernel))
theorem gS_2 : Cond.eq (.static "java/lang/String" "COMPACT_STRINGS" "Z") (.int 1) ∈ flatC gvC := nf 4 (by decide +kernel)
theorem lS_3 : .laysStatic "jdk/internal/util/Preconditions" "SIOOBE_FORMATTER" "Ljava/util/function/BiFunction;" ∈ lw_tbl := (gt2 215 (by decide +kernel))
theorem iS_3 : .initialized "jdk/internal/util/Preconditions" ∈ lw_tbl := (gt1 13 (by decide +kernel))
theorem gS_3 : Cond.isRef (.static "jdk/internal/util/Preconditions" "SIOOBE_FORMATTER" "Ljava/util/function/BiFunction;") ∈ flatC gvC := nf 5 (by decide +kernel)
theorem arr_of {s : State} {args : Array Value} {ty : FieldType} (h : (Cond.arrayClass ty).before args s = true) : ∃ cA, ArrOfT s cA ty ∧ s.vm.findClass ("[" ++ ty.toString) = some cA := by
  obtain ⟨c, kA, comp, h1, h2, h3⟩ := Cond.arrayClass_spec h
  exact ⟨c, fun n z => ⟨(fun k h => by cases h), kA, h2, comp, h3⟩, h1⟩
set_option maxHeartbeats 4000000 in
set_option maxRecDepth 100000 in
theorem sf_start (l : Launch) {s : State} {args : Array Value} (hfl : l.stackTraces = false) (hts : ∀ w ∈ lw_tbl, w.before args s = true) (hgv : gvC.before args s = true) : ∃ k : KT, k.l = l ∧ k.b = s.heap.size ∧ SF k strs s s.heap ∧ va_AO RX5 s := by
  have hb : ∀ w ∈ bigw, w.before args s = true := fun w hw => hts w (List.mem_filter.mp hw).1
  have hg : ∀ w ∈ flatC gvC, w.before args s = true := flat_of_before _ hgv
  obtain ⟨c0, i0, hK0⟩ := u_known (C := RX0) (T := TX0) (N := 6) (n := 6) hb clsX0.2.1 (hb _ inX0)
  obtain ⟨c1, i1, hK1⟩ := u_known (C := RX1) (T := TX1) (N := 19) (n := 19) hb clsX1.2.1 (hb _ inX1)
  obtain ⟨c2, i2, hK2⟩ := u_known (C := RX2) (T := TX2) (N := 7) (n := 7) hb clsX2.2.1 (hb _ inX2)
  obtain ⟨c3, i3, hK3⟩ := u_known (C := RX3) (T := TX3) (N := 4) (n := 4) hb clsX3.2.1 (hb _ inX3)
  obtain ⟨c4, i4, hK4⟩ := u_known (C := RX4) (T := TX4) (N := 2) (n := 2) hb clsX4.2.1 (hb _ inX4)
  obtain ⟨c5, i5, hK5⟩ := u_known (C := RX5) (T := TX5) (N := 13) (n := 13) hb clsX5.2.1 (hb _ inX5)
  obtain ⟨c6, i6, hK6⟩ := u_known (C := RX6) (T := TX6) (N := 2) (n := 2) hb clsX6.2.1 (hb _ inX6)
  obtain ⟨c7, i7, hK7⟩ := u_known (C := RX7) (T := TX7) (N := 4) (n := 4) hb clsX7.2.1 (hb _ inX7)
  obtain ⟨c8, i8, hK8⟩ := u_known (C := RX8) (T := TX8) (N := 2) (n := 2) hb clsX8.2.1 (hb _ inX8)
  obtain ⟨c9, i9, hK9⟩ := u_known (C := RX9) (T := TX9) (N := 14) (n := 14) hb clsX9.2.1 (hb _ inX9)
  obtain ⟨a0, hA0, hN0⟩ := arr_of (hb _ ac_int)
  obtain ⟨a1, hA1, hN1⟩ := arr_of (hb _ ac_long)
  obtain ⟨a2, hA2, hN2⟩ := arr_of (hb _ ac_byte)
  obtain ⟨a3, hA3, hN3⟩ := arr_of (hb _ ac_int)
  obtain ⟨comp, a4, kA, g1, -, g3, g4, g5⟩ := Cond.arrayOver_spec (hts _ aoX5)
  have hA : ∀ a : Nat, a < s.heap.size → ¬ (fun q => s.heap.size ≤ q) a := fun a h1 h2 => Nat.lt_irrefl _ (Nat.lt_of_lt_of_le h1 h2)
  have hstr : ∀ i : Nat, ∃ x : Nat × Nat, ∀ q, strs[i]? = some q → vk_R q.1 q.2.1 q.2.2.1 x.1 s ∧ va_O "java/lang/String" x.1 (fun q => s.heap.size ≤ q) s s.heap ∧ va_OF "java/lang/String" "coder" "B" (.int 0) x.1 (fun q => s.heap.size ≤ q) s s.heap ∧ va_OF "java/lang/String" "value" "[B" (.ref x.2) x.1 (fun q => s.heap.size ≤ q) s s.heap ∧ va_T .byte x.2 q.2.2.2.length (fun j => .int (q.2.2.2.getD j 0)) (fun q => s.heap.size ≤ q) s s.heap := by
    intro i
    cases hi : strs[i]? with
    | none => exact ⟨(0, 0), fun q h => by cases h⟩
    | some q =>
      obtain ⟨h1, h2⟩ := strs_in hi
      obtain ⟨sk, sv, h3⟩ := str_of (q := q) h2 (fun w hw => hg w (h1 w hw)) (hts _ (strs_ref q (List.mem_of_getElem? hi))) hA
      exact ⟨(sk, sv), fun q' h => by cases h; exact h3⟩
  obtain ⟨sf, hsf⟩ := Classical.axiomOfChoice hstr
  refine ⟨(l, s.heap.size, (fun k => if k = 0 then c0 else if k = 1 then c1 else if k = 2 then c2 else if k = 3 then c3 else if k = 4 then c4 else if k = 5 then c5 else if k = 6 then c6 else if k = 7 then c7 else if k = 8 then c8 else c9, fun k => if k = 0 then i0 else if k = 1 then i1 else if k = 2 then i2 else if k = 3 then i3 else if k = 4 then i4 else if k = 5 then i5 else if k = 6 then i6 else if k = 7 then i7 else if k = 8 then i8 else i9), (fun k => if k = 0 then a0 else if k = 1 then a1 else if k = 2 then a2 else if k = 3 then a3 else a4), (fun i => (sf i).1), (fun i => (sf i).2)), rfl, rfl, ⟨⟨?_, ?_⟩, fun i q hq => hsf i q hq, ?_, ?_, fun o i y h m => va_Nw.of rfl (hts _ m), fun C T m => va_Nw.of rfl (hts _ m), fun y m => va_Nw.of rfl (hts _ m), fun _ _ _ _ _ => trivial, hfl, ?_, ?_⟩, va_AO.of (hts _ aoX5)⟩
  · intro k q hq
    match k, hq with
    | 0, hq => cases hq; exact hK0
    | 1, hq => cases hq; exact hK1
    | 2, hq => cases hq; exact hK2
    | 3, hq => cases hq; exact hK3
    | 4, hq => cases hq; exact hK4
    | 5, hq => cases hq; exact hK5
    | 6, hq => cases hq; exact hK6
    | 7, hq => cases hq; exact hK7
    | 8, hq => cases hq; exact hK8
    | 9, hq => cases hq; exact hK9
    | k + 10, hq => simp [clS] at hq
  · intro k q hq
    match k, hq with
    | 0, hq => cases hq; exact ⟨hA0, hN0⟩
    | 1, hq => cases hq; exact ⟨hA1, hN1⟩
    | 2, hq => cases hq; exact ⟨hA2, hN2⟩
    | 3, hq => cases hq; exact ⟨hA3, hN3⟩
    | 4, hq => cases hq; exact ⟨fun n z => ⟨(fun k h => by cases h), kA, g3, comp, g4⟩, kA, comp, g3, g4, g1, g5⟩
    | k + 5, hq => simp [tysOf] at hq
  · exact vx_Zqof (hts _ lS_0) (hts _ iS_0) (hg _ gS_0) hA
  · exact vx_Zqof (hts _ lS_1) (hts _ iS_1) (hg _ gS_1) hA
  · exact va_Zof (hts _ lS_2) (hts _ iS_2) (va_eqt (hg _ gS_2)) hA
  · exact va_Zqof (hts _ lS_3) (hts _ iS_3) (hg _ gS_3) hA
theorem no_traces {l : Launch} (h : l.flags = flags0) : l.stackTraces = false := by
  unfold Launch.stackTraces
  rw [h]
  decide +kernel
def past0 : Nat → Fin 12 := fun i => if i = 0 then 2 else if i = 1 then 3 else if i = 2 then 4 else if i = 3 then 5 else if i = 4 then 6 else if i = 5 then 7 else if i = 6 then 8 else if i = 7 then 9 else if i = 8 then 10 else 11
def TP00 : TP := (0, 1, past0, 0, 0)
def EE00 : EE := (0, -1)
theorem lMain {k : KT} : (wMain k).length = 189 := by
  unfold wMain
  exact (lxx (p := 45) (i := 144) (lxx (p := 44) (i := 1) lA9 rfl rfl) (lxx (p := 132) (i := 12) (lxx (p := 120) (i := 12) (lxx (p := 108) (i := 12) (lxx (p := 96) (i := 12) (lxx (p := 84) (i := 12) (lxx (p := 72) (i := 12) (lxx (p := 60) (i := 12) (lxx (p := 48) (i := 12) (lxx (p := 36) (i := 12) (lxx (p := 24) (i := 12) (lxx (p := 12) (i := 12) ls_St ls_St rfl) ls_St rfl) ls_St rfl) ls_St rfl) ls_St rfl) ls_St rfl) ls_St rfl) ls_St rfl) ls_St rfl) ls_St rfl) ls_St rfl) rfl)
theorem VN.fin {k : KT} {z : ZT} {n n' : Nat} {ws ws' : va_W} {pc : Nat} {lo : List (Option Value)} {st : List Value} (h : ∀ H, va_P k.D clS ws H → va_P k.D clS ws' H) (hd : va_D (kA k) ws') (kk : VW k z n n' ws' pc lo st) : VN k z n n' ws pc lo st := fun H L la hP _ hS _ hl => kk H L la (h H hP) hd hS hl
theorem va_P_swp {D : va_G} {cl : List vw_C} {ws : va_W} {H : Heap} {i : Nat} {q q' : Nat × va_E} (h : va_P D cl ws H) (hi : ws[i]? = some q) (hq : va_at D cl q H → va_at D cl q' H) : va_P D cl (ws.set i q') H := by
  intro k p hp
  by_cases hk : k = i
  · subst hk
    rw [List.getElem?_set_self (List.getElem?_eq_some_iff.mp hi).1] at hp
    cases hp
    exact hq (h k q hi)
  · rw [List.getElem?_set_ne (Ne.symm hk)] at hp
    exact h k p hp
theorem past_eq {k : KT} : ∀ i : Nat, i < 10 → (va_up (va_up (va_up (va_up (va_up (va_up (va_up (va_up (va_up (va_up (fun _ => none) 0 (some (k.b + (45 + 12 * (2 : Fin 12).val)))) 1 (some (k.b + (45 + 12 * (3 : Fin 12).val)))) 2 (some (k.b + (45 + 12 * (4 : Fin 12).val)))) 3 (some (k.b + (45 + 12 * (5 : Fin 12).val)))) 4 (some (k.b + (45 + 12 * (6 : Fin 12).val)))) 5 (some (k.b + (45 + 12 * (7 : Fin 12).val)))) 6 (some (k.b + (45 + 12 * (8 : Fin 12).val)))) 7 (some (k.b + (45 + 12 * (9 : Fin 12).val)))) 8 (some (k.b + (45 + 12 * (10 : Fin 12).val)))) 9 (some (k.b + (45 + 12 * (11 : Fin 12).val)))) i = (fun i => some (k.b + (45 + 12 * (TP_past TP00 i).val))) i := by
  intro i hi
  rcases (show i = 0 ∨ i = 1 ∨ i = 2 ∨ i = 3 ∨ i = 4 ∨ i = 5 ∨ i = 6 ∨ i = 7 ∨ i = 8 ∨ i = 9 by omega) with rfl | rfl | rfl | rfl | rfl | rfl | rfl | rfl | rfl | rfl <;> rfl
theorem cell_eq {c : ClassId} {f g : Nat → Option Nat} (h : ∀ i : Nat, i < 10 → f i = g i) : vp_cell c (10, .inr (.inr (.inr (.inr f)))) = vp_cell c (10, .inr (.inr (.inr (.inr g)))) := by
  show arrV c 10 (fun j => va_rf (f j)) = arrV c 10 (fun j => va_rf (g j))
  unfold arrV
  congr 2
  funext j
  show va_rf (f j.val) = va_rf (g j.val)
  rw [h j.val j.isLt]
set_option maxRecDepth 100000 in
set_option maxHeartbeats 4000000 in
theorem wInit {k : KT} : ((wA9 k ++ wcQ k (fun i => some (k.b + (45 + 12 * (TP_past TP00 i).val)))) ++ (((((((((((cSt k 0 S00 ++ cSt k 1 S00) ++ cSt k 2 S00) ++ cSt k 3 S00) ++ cSt k 4 S00) ++ cSt k 5 S00) ++ cSt k 6 S00) ++ cSt k 7 S00) ++ cSt k 8 S00) ++ cSt k 9 S00) ++ cSt k 10 S00) ++ cSt k 11 S00) : va_W) = wAll k T00 R00 (fun _ => L00) RC00 HN00 RP00 TP00 EE00 (fun _ => S00) := rfl
theorem wFin {k : KT} {H : Heap} (h : va_P k.D clS (wMain k) H) : va_P k.D clS (wAll k T00 R00 (fun _ => L00) RC00 HN00 RP00 TP00 EE00 (fun _ => S00)) H := by
  rw [← wInit]
  unfold wMain at h
  have h1 := va_P_swp (i := 44) (q := (k.b + (44), .inl (k.c 4, (10, .inr (.inr (.inr (.inr ((va_up (va_up (va_up (va_up (va_up (va_up (va_up (va_up (va_up (va_up (fun _ => none) 0 (some (k.b + (45 + 12 * (2 : Fin 12).val)))) 1 (some (k.b + (45 + 12 * (3 : Fin 12).val)))) 2 (some (k.b + (45 + 12 * (4 : Fin 12).val)))) 3 (some (k.b + (45 + 12 * (5 : Fin 12).val)))) 4 (some (k.b + (45 + 12 * (6 : Fin 12).val)))) 5 (some (k.b + (45 + 12 * (7 : Fin 12).val)))) 6 (some (k.b + (45 + 12 * (8 : Fin 12).val)))) 7 (some (k.b + (45 + 12 * (9 : Fin 12).val)))) 8 (some (k.b + (45 + 12 * (10 : Fin 12).val)))) 9 (some (k.b + (45 + 12 * (11 : Fin 12).val)))))))))))) (q' := (k.b + (44), .inl (k.c 4, (10, .inr (.inr (.inr (.inr ((fun i => some (k.b + (45 + 12 * (TP_past TP00 i).val))))))))))) h (gl (gx (p := 44) (i := 0) lA9 rfl)) (fun hc => by
    show H[k.b + 44]? = some (vp_cell _ _)
    have hc : H[k.b + 44]? = some (vp_cell _ _) := hc
    rw [hc, cell_eq past_eq])
  have e : ((wA9 k ++ wcQ k (va_up (va_up (va_up (va_up (va_up (va_up (va_up (va_up (va_up (va_up (fun _ => none) 0 (some (k.b + (45 + 12 * (2 : Fin 12).val)))) 1 (some (k.b + (45 + 12 * (3 : Fin 12).val)))) 2 (some (k.b + (45 + 12 * (4 : Fin 12).val)))) 3 (some (k.b + (45 + 12 * (5 : Fin 12).val)))) 4 (some (k.b + (45 + 12 * (6 : Fin 12).val)))) 5 (some (k.b + (45 + 12 * (7 : Fin 12).val)))) 6 (some (k.b + (45 + 12 * (8 : Fin 12).val)))) 7 (some (k.b + (45 + 12 * (9 : Fin 12).val)))) 8 (some (k.b + (45 + 12 * (10 : Fin 12).val)))) 9 (some (k.b + (45 + 12 * (11 : Fin 12).val))))) ++ (((((((((((cSt k 0 S00 ++ cSt k 1 S00) ++ cSt k 2 S00) ++ cSt k 3 S00) ++ cSt k 4 S00) ++ cSt k 5 S00) ++ cSt k 6 S00) ++ cSt k 7 S00) ++ cSt k 8 S00) ++ cSt k 9 S00) ++ cSt k 10 S00) ++ cSt k 11 S00) : va_W).set 44 (k.b + (44), .inl (k.c 4, (10, .inr (.inr (.inr (.inr ((fun i => some (k.b + (45 + 12 * (TP_past TP00 i).val)))))))))) = ((wA9 k ++ wcQ k (fun i => some (k.b + (45 + 12 * (TP_past TP00 i).val)))) ++ (((((((((((cSt k 0 S00 ++ cSt k 1 S00) ++ cSt k 2 S00) ++ cSt k 3 S00) ++ cSt k 4 S00) ++ cSt k 5 S00) ++ cSt k 6 S00) ++ cSt k 7 S00) ++ cSt k 8 S00) ++ cSt k 9 S00) ++ cSt k 10 S00) ++ cSt k 11 S00) : va_W) :=
    sl (n := 45) (lxx (p := 44) (i := 1) lA9 rfl rfl) (by decide) (sx (p := 44) (i := 0) lA9 rfl)
  rw [e] at h1
  exact h1
set_option maxRecDepth 100000 in
set_option maxHeartbeats 4000000 in
theorem start_walk {k : KT} {z : ZT} (X : XX k strs z RL cL_law 22 ret room_1) (hAO : va_AO RX5 (zS z)) {b0 : Nat} (kk : VW k z 189 3565 (wAll k T00 R00 (fun _ => L00) RC00 HN00 RP00 TP00 EE00 (fun _ => S00)) 8 [some (.ref b0), some (.ref (k.b + (0))), none, none, none, none, none, none, none, none, none, none, none, none, none, none, none, none, none, none, none, none] []) : VN k z 0 0 ([] : va_W) 0 [some (.ref b0), none, none, none, none, none, none, none, none, none, none, none, none, none, none, none, none, none, none, none, none, none] [] := by
  refine s_new X (q := 0) (fs := dfX9) (ws1 := ([(k.b + (0), .inr (9, dfX9))] : va_W)) clsX9 nwL_18 dfX9_ok rfl rfl (by decide) (by decide) dL_law_0 ?_
  refine s_dup X dL_law_3 rfl ?_
  refine s_callI X hAO [] [.ref (k.b + (0))] (kC_X9 (k := k)) liL_102 ⟨(Nat.le_of_ble_eq_true rfl), (Nat.le_of_ble_eq_true rfl)⟩ rfl rfl (by decide) (by decide) rfl rfl (Nat.le_of_ble_eq_true rfl) rfl dL_law_4 ?_
  refine s_astore_n X [some (.ref b0), some (.ref (k.b + (0))), none, none, none, none, none, none, none, none, none, none, none, none, none, none, none, none, none, none, none, none] dL_law_7 (Nat.le_of_ble_eq_true rfl) rfl ?_
  exact VN.fin (fun H hP => wFin hP) wAll_D kk
set_option maxRecDepth 100000 in
set_option maxHeartbeats 4000000 in
theorem first_walk {k : KT} {z : ZT} (X : XX k strs z RL cL_law 22 ret room_1) {b0 : Nat} {T T1 : TT} {R : RR} {ly : Fin 2 → LL} {rc : RC} {hn : HN} {rp : RP} {tp : TP} {ee : EE} {st : Fin 12 → SS} {r : Int32 × (TT) × (RR) × (Fin 2 → LL) × (TP) × (EE) × (Fin 12 → SS)} (hT : tyO 10 20 T 0 = some T1) (hP : f9_parseSystem T1 R ly tp ee st = some r) (h1 : r.1 = 3) (hq25 : f9_chamber (r.2.2.2.1 (0 : Fin 2)) r.2.2.2.2.1 r.2.2.2.2.2.2 0 3 = some 1000000) (hq36 : f9_chamber (r.2.2.2.1 (0 : Fin 2)) r.2.2.2.2.1 r.2.2.2.2.2.2 0 4 = some 62) (hq47 : f9_chamber (r.2.2.2.1 (0 : Fin 2)) r.2.2.2.2.1 r.2.2.2.2.2.2 1 5 = some 11) (hq57 : f9_mayOpen (r.2.2.2.1 (0 : Fin 2)) r.2.2.2.2.1 r.2.2.2.2.2.2 0 = some 0) (hq66 : f9_fewestValves (r.2.2.2.1 (0 : Fin 2)) 0 2 = some 2) (hq76 : f9_fewestValves (r.2.2.2.1 (0 : Fin 2)) 2 (-1) = some 2) (kk : VW k z NC NS (wAll k r.2.1 r.2.2.1 r.2.2.2.1 rc hn rp r.2.2.2.2.1 r.2.2.2.2.2.1 r.2.2.2.2.2.2) 89 [some (.ref b0), some (.ref (k.b + (0))), some (.int 0), some (.int 0), none, none, none, none, none, none, none, none, none, none, none, none, none, none, none, none, none, none] []) : VW k z 189 3565 (wAll k T R ly rc hn rp tp ee st) 8 [some (.ref b0), some (.ref (k.b + (0))), none, none, none, none, none, none, none, none, none, none, none, none, none, none, none, none, none, none, none, none] [] := by
  refine r_aload_n X (x := k.b + (0)) dL_law_8 rfl ?_
  refine r_ldcS X 10 rfl dL_law_9 ?_
  refine r_callS X [.ref (k.b + (0)), .ref (k.sK 10)] [] (K_type (i := 10) (by decide) hT) lkL_105 (rle1 (by decide) (Nat.le_of_ble_eq_true rfl)) rfl rfl (Nat.le_of_ble_eq_true rfl) (Nat.le_of_ble_eq_true rfl) rfl rfl (Nat.le_of_ble_eq_true rfl) rfl rfl dL_law_11 ?_
  refine VW.widen (c := NC) (s := NS) (by decide) (by decide) ?_
  refine r_aload_n X (x := k.b + (0)) dL_law_14 rfl ?_
  refine r_callV1 X [] [] (K9_parseSystem hP) lkL_111 clsX9 rfl _ o_main (by decide) (Nat.le_of_ble_eq_true rfl) rfl rfl (Nat.le_of_ble_eq_true rfl) rfl rfl NC_le NS_le dL_law_15 ?_
  refine r_iconst X (v := 3) dL_law_18 rfl ?_
  refine r_icmp_ne X 83 dL_law_19 rfl (fun c => absurd h1 c) (fun _ => ?_)
  refine r_aload_n X (x := k.b + (0)) dL_law_22 rfl ?_
  refine r_iconst X (v := 0) dL_law_23 rfl ?_
  refine r_iconst X (v := 3) dL_law_24 rfl ?_
  refine r_callV1 X [.int 0, .int 3] [] (K9_chamber (ly := r.2.2.2.1) hq25) lkL_27 clsX9 rfl _ o_main (by decide) (Nat.le_of_ble_eq_true rfl) rfl rfl (Nat.le_of_ble_eq_true rfl) rfl rfl NC_le NS_le dL_law_25 ?_
  refine r_ldc X (v := 1000000) coL_114 dL_law_28 ?_
  refine r_icmp_ne X 83 dL_law_30 rfl (fun c => absurd rfl c) (fun _ => ?_)
  refine r_aload_n X (x := k.b + (0)) dL_law_33 rfl ?_
  refine r_iconst X (v := 0) dL_law_34 rfl ?_
  refine r_iconst X (v := 4) dL_law_35 rfl ?_
  refine r_callV1 X [.int 0, .int 4] [] (K9_chamber (ly := r.2.2.2.1) hq36) lkL_27 clsX9 rfl _ o_main (by decide) (Nat.le_of_ble_eq_true rfl) rfl rfl (Nat.le_of_ble_eq_true rfl) rfl rfl NC_le NS_le dL_law_36 ?_
  refine r_bipush X (v := 62) dL_law_39 rfl ?_
  refine r_icmp_ne X 83 dL_law_41 rfl (fun c => absurd rfl c) (fun _ => ?_)
  refine r_aload_n X (x := k.b + (0)) dL_law_44 rfl ?_
  refine r_iconst X (v := 1) dL_law_45 rfl ?_
  refine r_iconst X (v := 5) dL_law_46 rfl ?_
  refine r_callV1 X [.int 1, .int 5] [] (K9_chamber (ly := r.2.2.2.1) hq47) lkL_27 clsX9 rfl _ o_main (by decide) (Nat.le_of_ble_eq_true rfl) rfl rfl (Nat.le_of_ble_eq_true rfl) rfl rfl NC_le NS_le dL_law_47 ?_
  refine r_bipush X (v := 11) dL_law_50 rfl ?_
  refine r_icmp_ne X 83 dL_law_52 rfl (fun c => absurd rfl c) (fun _ => ?_)
  refine r_aload_n X (x := k.b + (0)) dL_law_55 rfl ?_
  refine r_iconst X (v := 0) dL_law_56 rfl ?_
  refine r_callV1 X [.int 0] [] (K9_mayOpen (ly := r.2.2.2.1) hq57) lkL_84 clsX9 rfl _ o_main (by decide) (Nat.le_of_ble_eq_true rfl) rfl rfl (Nat.le_of_ble_eq_true rfl) rfl rfl NC_le NS_le dL_law_57 ?_
  refine r_if_ne X 83 dL_law_60 rfl (fun c => absurd rfl c) (fun _ => ?_)
  refine r_aload_n X (x := k.b + (0)) dL_law_63 rfl ?_
  refine r_iconst X (v := 0) dL_law_64 rfl ?_
  refine r_iconst X (v := 2) dL_law_65 rfl ?_
  refine r_callV1 X [.int 0, .int 2] [] (K9_fewestValves (ly := r.2.2.2.1) hq66) lkL_58 clsX9 rfl _ o_main (by decide) (Nat.le_of_ble_eq_true rfl) rfl rfl (Nat.le_of_ble_eq_true rfl) rfl rfl NC_le NS_le dL_law_66 ?_
  refine r_iconst X (v := 2) dL_law_69 rfl ?_
  refine r_icmp_ne X 83 dL_law_70 rfl (fun c => absurd rfl c) (fun _ => ?_)
  refine r_aload_n X (x := k.b + (0)) dL_law_73 rfl ?_
  refine r_iconst X (v := 2) dL_law_74 rfl ?_
  refine r_iconst X (v := (-1)) dL_law_75 rfl ?_
  refine r_callV1 X [.int 2, .int (-1)] [] (K9_fewestValves (ly := r.2.2.2.1) hq76) lkL_58 clsX9 rfl _ o_main (by decide) (Nat.le_of_ble_eq_true rfl) rfl rfl (Nat.le_of_ble_eq_true rfl) rfl rfl NC_le NS_le dL_law_76 ?_
  refine r_iconst X (v := 2) dL_law_79 rfl ?_
  refine r_icmp_eq X 85 dL_law_80 rfl (fun _ => ?_) (fun c => absurd rfl c)
  refine r_iconst X (v := 0) dL_law_85 rfl ?_
  refine r_istore_n X [some (.ref b0), some (.ref (k.b + (0))), some (.int 0), none, none, none, none, none, none, none, none, none, none, none, none, none, none, none, none, none, none, none] dL_law_86 (Nat.le_of_ble_eq_true rfl) rfl ?_
  refine r_iconst X (v := 0) dL_law_87 rfl ?_
  refine r_istore_n X [some (.ref b0), some (.ref (k.b + (0))), some (.int 0), some (.int 0), none, none, none, none, none, none, none, none, none, none, none, none, none, none, none, none, none, none] dL_law_88 (Nat.le_of_ble_eq_true rfl) rfl ?_
  exact kk
