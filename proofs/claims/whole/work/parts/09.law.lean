/-! the law: rows for calls that may throw, methods with a table of catches -/
theorem MetH.ofW {l : Launch} {y : MethodName} {ws ws' : List Cond} {rm : Room} {Pc : Array Value → State → Prop} {Qc : Array Value → State → Outcome → State → Prop} {mc ms : Nat} {free : Addr → Prop} {cc : ByteArray} {maxL : Nat} {ret : Option FieldType} {hh : List (Nat × Nat × Nat × Nat)}
    (hy : plainName y.cls = true) (hw : ws = Cond.codeWith y cc maxL ret hh :: ws')
    (body : ∀ p e s m args below meth c s₁, BodyLoose p l y (headSpec ws rm) cc maxL ret e s m args below meth c s₁ → c.maxLocals = maxL → Pc args s →
      W p l e (headSpec ws rm).room s m args below meth c s.heap [] 0 0 (MQ below Qc args s mc ms free) (entryFrame m args maxL)) : Met l y ws rm Pc Qc mc ms free := by
  refine MetFree.of_bodyS (code := cc) (maxLocals := maxL) (ret := ret) hy ?_ ?_
  · intro args s m h hn
    obtain ⟨m9, meth, c, hn9, h1, h2, h3, h4, -, h5, h6, -⟩ := Cond.codeWith_spec (atoms_spec (ws := ws) h _ (by rw [hw]; exact List.mem_cons_self))
    cases hn.symm.trans hn9
    exact ⟨meth, c, h1, h2, h3, h4, h5, h6⟩
  · intro p e s m args below meth c s₁ B hml hP _
    have hh0 : s₁.heap = s.heap := by rw [B.state]; rfl
    obtain ⟨t, a1, o, b1, b2, b3⟩ := body p e s m args below meth c s₁ B hml hP s₁ hh0 (Stand.of_body B)
    exact ⟨t, o, a1, b1, b2, ⟨b3.1, b3.2⟩⟩
/-- the contract of a method with a table of catches -/
def CTW (k : KT) (strs : List ST) (y : MethodName) (cc : ByteArray) (nL : Nat) (ret : Option FieldType) (hh : List (Nat × Nat × Nat × Nat)) (R0 : Room) (mc ms : Nat) (args : List Value) (ws : va_W) (o : Option Value) (ws' : va_W) : Prop :=
  Met k.l y (.codeWith y cc nL ret hh :: bigw) R0 (va_Pc args (PW k strs ws)) (Qof k o ws') mc ms (kA k)
theorem CTW.of {k : KT} {strs : List ST} {y : MethodName} {cc : ByteArray} {nL : Nat} {ret : Option FieldType} {hh : List (Nat × Nat × Nat × Nat)} {R0 : Room} {mc ms : Nat} {args : List Value} {ws ws' : va_W} {o : Option Value} (hy : plainName y.cls = true) (hn : (lg_sl args).length ≤ nL)
    (body : ∀ z : ZT, XX k strs z y.cls cc nL ret R0 → (zC z).exceptionTable.toList = tableOf hh → zQ z = MQ (zB z) (Qof k o ws') (zA z) (zS z) mc ms (kA k) → VW k z 0 0 ws 0 (loOf (lg_sl args ++ List.replicate (nL - (lg_sl args).length) Slot.unset)) []) : CTW k strs y cc nL ret hh R0 mc ms args ws o ws' := by
  refine MetH.ofW (cc := cc) (maxL := nL) (ret := ret) (hh := hh) hy rfl ?_
  intro p e s m as below meth c s₁ B hml hv
  obtain ⟨rfl, hP, hD, hF, hb0⟩ := hv
  have ht0 := atoms_spec (ws := .codeWith y cc nL ret hh :: bigw) B.pre
  have hts : ∀ w ∈ bigw, w.before args.toArray s = true := fun w hw => ht0 w (List.mem_cons_of_mem _ hw)
  have K := body (p, e, R0, s, m, args.toArray, below, meth, c, MQ below (Qof k o ws') args.toArray s mc ms (kA k)) ⟨B.exec, B.bytes, hml, B.returns, rfl, B.notSynchronized, findClass_of_methodNamed B.named, hts, hF, hb0⟩ (vx_table (x := y) B (ht0 _ List.mem_cons_self)) rfl
  rw [lg_entry_eq]
  exact K s.heap [] _ hP hD va_S.rf (lvH.of_args (lv_entry args hn))
def xc {α R : Type} (x : α ⊕ Nat) (g : α → Option R) (h : Nat → Option R) : Option R := match x with
  | .inl v => g v
  | .inr e => h e
def covq (x : Nat × Nat × Nat × Nat) (pc : Nat) : Bool := decide (x.1 ≤ pc) && decide (pc < x.2.1)
/-- the table's row that takes exception e thrown at pc -/
def HX (own : String) (hh : List (Nat × Nat × Nat × Nat)) (pc e hpc : Nat) : Prop := ∃ pre x suf, hh = pre ++ x :: suf ∧ (∀ z ∈ pre, covq z pc = false ∨ (z.2.2.2 ≠ 0 ∧ ∃ b, b < 4 ∧ b ≠ e ∧ .classLink own z.2.2.2 (exN b) ∈ bigw)) ∧ covq x pc = true ∧ x.2.2.2 ≠ 0 ∧ .classLink own x.2.2.2 (exN e) ∈ bigw ∧ .castable (exN e) (exN e) ∈ lw_tbl ∧ x.2.2.1 = hpc
section LAWROWS
variable {k : KT} {strs : List ST} {z : ZT} {own : String} {cc : ByteArray} {nL : Nat} {ret : Option FieldType} {R0 : Room} {n n' pc pc' : Nat} {ws : va_W} {lo : List (Option Value)} {st : List Value}
theorem r_callX (X : XX k strs z own cc nL ret R0) {hh : List (Nat × Nat × Nat × Nat)} (hT : (zC z).exceptionTable.toList = tableOf hh) {ix ci maxL na : Nat} {y : MethodName} {bytes : ByteArray} {rt : Option FieldType} {R1 : Room} {C : String} {T : u_T} {N : Nat} {ty : Nat → FieldType} {a : Nat} {fs : List Value} {out : Option Value ⊕ Nat} {ws' : va_W} {st0 : List Value}
    (As st : List Value) (hM : CX k strs y bytes maxL rt R1 (.ref a :: As) ws out ws') (w : LKV own ix y bytes maxL rt na) (c : CLS ci C T N ty) (hC : C = y.cls) (q : Nat) (he : ws[q]? = some (a, .inr (ci, fs))) (hR : RLE maxL R1 R0) (hmc : R1.cells = 1) (hms : R1.slots = 6) (hc : n + 1 ≤ R0.cells) (hs : n' + 6 ≤ R0.slots)
    (hst : st0 = As.reverse ++ .ref a :: st) (hna : As.length = na) (hcat : (st.map fun v => v.category).sum ≤ 8) (hlo : lo.length = nL) (d : DEC cc pc 3 pc' (.invokevirtual ix))
    (kx : ∀ (e qx : Nat), out = .inr e → e < 4 → ∃ hpc, HX own hh pc e hpc ∧ VW k z (n + 1) (n' + 6) ws' hpc lo [.ref qx])
    (kk : ∀ o, out = .inl o → VW k z (n + 1) (n' + 6) ws' pc' lo (o.toList ++ st)) : VW k z n n' ws pc lo st0 := by
  subst hst; subst hC
  obtain ⟨d, rfl⟩ := d
  intro H L la hP hD hS hl
  have hr : vx_Run (zP z) k.l (zE z) (zR z) (zS z) (zM z) (zA z) (zB z) (zH z) (zC z) H L n n' 1 6 (F0 (zM z) pc la (As.reverse ++ .ref a :: st)) st (QXof k out ws' (Value.ref a :: As).toArray) (XCof k out ws') (kA k) := vx_runV (n := na) (nL := nL) (As := As) (rest := st) ⟨X.1, X.2.1, X.ml, X.own1, X.ts⟩ hM ⟨cb_of X w.1 hR hmc hms, X.ts _ w.2.1, X.ts _ w.2.2⟩ ⟨PW.blind, va_recv X.K hP c.1 he, (pre_of X hP hD hS).2⟩ rfl hna (hl.1.trans hlo) rfl (lv_room hcat) d ⟨by rw [X.R]; exact hc, by rw [X.R]; exact hs⟩
  intro T0 hT0 Y
  have hS1 : ∀ (st₀ t T' : State) (L1 : List Loc), st₀.heap = H → T'.heap = t.heap → (∀ q ∈ L1, kA k q.base) → va_F (kA k) st₀ t → va_S (kA k) (zS z).heap T'.heap (L ++ L1) := by
    intro st₀ t T' L1 h0 e1 hL hF
    obtain ⟨hz, hk⟩ := hF
    rw [h0] at hz hk
    refine ⟨Nat.le_trans hS.1 (by rw [e1]; exact hz), fun q h1 h2 => ?_, fun q hq => ?_⟩
    · rw [e1, hk q (Nat.lt_of_lt_of_le h1 hS.1) h2]; exact hS.2.1 q h1 h2
    · rcases List.mem_append.mp hq with h | h
      · exact hS.2.2 q h
      · exact hL q h
  rcases hr T0 hT0 Y with ⟨v, st₀, t, T', L1, h0, Y', hL, e1, e2, ⟨o, ho, hv, hP1, hD1, hF1⟩, sg⟩ | ⟨qx, st₀, t, T', L1, E, ce, h0, Y', hL, e1, e2, ⟨⟨e, he1, he2, rfl⟩, hP1, hD1, hF1⟩, hce, hcv, hcl, sg⟩
  · cases hv
    obtain ⟨t2, a1, b1⟩ := kk _ ho T'.heap (L ++ L1) la (by rw [e1]; exact hP1) hD1 (hS1 st₀ t T' L1 h0 e1 hL hF1) hl T' rfl Y'
    exact ⟨t2, sg t2 a1, b1⟩
  · obtain ⟨hpc, ⟨pre, x, suf, hsp, hpass, hx, hx0, hlk, hcs, rfl⟩, kv⟩ := kx e qx he1 he2
    have K := kv T'.heap (L ++ L1) la (by rw [e1]; exact hP1) hD1 (hS1 st₀ t T' L1 h0 e1 hL hF1) hl
    have Kx : vx_W (zP z) k.l (zE z) (zR z) (zS z) (zM z) (zA z) (zB z) (zH z) (zC z) T'.heap (L ++ L1) (n + 1) (n' + 6) (zQ z) (F0 (zM z) pc la st) qx :=
      vx_catch (E := exN e) X.own1 (tableOf pre) ⟨x.1, x.2.1, x.2.2.1, x.2.2.2⟩ (tableOf suf) (by rw [hT, hsp]; simp [tableOf]) (fun zz hz => by
        obtain ⟨y0, hy0, rfl⟩ := List.mem_map.mp hz
        rcases hpass y0 hy0 with h | ⟨h0', b, hb, hbe, hlb⟩
        · exact Or.inl h
        · exact Or.inr ⟨h0', exN b, X.ts _ hlb, X.F.2.2.2.2.2.2.2.1 e b he2 hb (Ne.symm hbe)⟩) hx hx0 (X.ts _ hlk) (va_Nw.use rfl (X.F.2.2.2.2.2.1 _ _ hcs)) (by rw [e1]; exact hce) hcv hcl K
    obtain ⟨t2, a1, b1⟩ := Kx T' rfl Y'
    exact ⟨t2, sg.trans a1, b1⟩
/-- a static method with a table: its words -/
def LKW (own : String) (ix : Nat) (y : MethodName) (bytes : ByteArray) (maxL : Nat) (rt : Option FieldType) (hh : List (Nat × Nat × Nat × Nat)) (na : Nat) : Prop :=
  .methodLink own ix y ∈ bigw ∧ .codeWith y bytes maxL rt hh ∈ bigw ∧ .initialized y.cls ∈ bigw ∧ (y.cls ≠ "java/lang/invoke/MethodHandle" ∧ y.cls ≠ "java/lang/invoke/VarHandle") ∧ (parseMethodDescriptor y.desc).map (fun d => d.parameters.length) = some na ∧ .static y ∈ bigw
theorem big_allW (X : XX k strs z own cc nL ret R0) {w0 : Cond} (h : w0 ∈ bigw) : ∀ w ∈ (w0 :: bigw), ∀ (a' : Array Value) (U : State), (zS z).WarmedH U.vm → w.before a' U = true :=
  pay_in X.ts (fun w hw => big_good w ((List.mem_cons.mp hw).elim (fun e => e ▸ h) id))
theorem r_callSW (X : XX k strs z own cc nL ret R0) {ix maxL na mc ms : Nat} {y : MethodName} {bytes : ByteArray} {rt : Option FieldType} {hh : List (Nat × Nat × Nat × Nat)} {R1 : Room} {o : Option Value} {ws' : va_W} {st0 st1 : List Value}
    (As : List Value) (st : List Value) (hM : CTW k strs y bytes maxL rt hh R1 mc ms As ws o ws') (w : LKW own ix y bytes maxL rt hh na) (hR : RLE maxL R1 R0) (hmc : R1.cells = mc) (hms : R1.slots = ms) (hc : n + mc ≤ R0.cells) (hs : n' + ms ≤ R0.slots)
    (hst : st0 = As.reverse ++ st) (hna : As.length = na) (hcat : (st.map fun v => v.category).sum ≤ 8) (hlo : lo.length = nL) (hst1 : o.toList ++ st = st1) (d : DEC cc pc 3 pc' (.invokestatic ix)) (kk : VW k z (n + mc) (n' + ms) ws' pc' lo st1) : VW k z n n' ws pc lo st0 := by
  subst hst; subst hst1
  obtain ⟨d, rfl⟩ := d
  intro H L la hP hD hS hl
  exact run_on X hS hl (vx_runSW (n := na) (nL := nL) (As := As) (rest := st) ⟨X.1, X.2.1, X.ml, X.own1, X.ts⟩ hM ⟨⟨hmc, hms, by rw [X.R]; exact hR.1, by rw [X.R]; exact hR.2, big_allW X w.2.1, List.mem_cons_self⟩, X.ts _ w.2.1, X.ts _ w.2.2.1, w.2.2.2.1, lkn w.2.2.2.2.1, X.ts _ w.1, X.ts _ w.2.2.2.2.2⟩ (pre_of X hP hD hS) rfl hna (hl.1.trans hlo) rfl (lv_room hcat) d ⟨by rw [X.R]; exact hc, by rw [X.R]; exact hs⟩) kk
end LAWROWS

def fL_appendText (T : TT) (ou : Nat → Int64) (x1 : Int32) (x2 : Int32) (x3 : Int32) (x4 : Int32) (x5 : Int32) : Option (Int32 × (TT) × (Nat → Int64)) := (f9_appendText T x1 x2 x3 x4 x5).bind fun u => xc u.1 (fun v => some (0, u.2, vp_updL ou (ix 0) v.toInt64)) (fun e => if e = 0 then some (1, u.2, ou) else none)
def fL_truncateText (T : TT) (ou : Nat → Int64) (x1 : Int32) : Option (Int32 × (TT) × (Nat → Int64)) := (f9_truncateText T x1).bind fun u => xc u.1 (fun v => some (0, u.2, vp_updL ou (ix 0) v.toInt64)) (fun e => if e = 1 then some (1, u.2, ou) else none)
def fL_open (lY0 : LL) (tp : TP) (st : Fin 12 → SS) (ou : Nat → Int64) (x1 : Int32) : Option (Int32 × (TP) × (Fin 12 → SS) × (Nat → Int64)) := (f9_open lY0 tp st x1).bind fun u => xc u.1 (fun v => some (0, u.2.1, u.2.2, vp_updL ou (ix 0) v.toInt64)) (fun e => if e = 2 then some (1, u.2.1, u.2.2, ou) else if e = 0 then some (2, u.2.1, u.2.2, ou) else none)
def fL_close (lY0 : LL) (tp : TP) (st : Fin 12 → SS) (ou : Nat → Int64) (x1 : Int32) : Option (Int32 × (TP) × (Fin 12 → SS) × (Nat → Int64)) := (f9_close lY0 tp st x1).bind fun u => xc u.1 (fun v => some (0, u.2.1, u.2.2, vp_updL ou (ix 0) v.toInt64)) (fun e => if e = 2 then some (1, u.2.1, u.2.2, ou) else if e = 0 then some (2, u.2.1, u.2.2, ou) else none)
def fL_start (lY0 : LL) (tp : TP) (st : Fin 12 → SS) (ou : Nat → Int64) (x1 : Int32) : Option (Int32 × (TP) × (Fin 12 → SS) × (Nat → Int64)) := (f9_start lY0 tp st x1).bind fun u => xc u.1 (fun v => some (0, u.2.1, u.2.2, vp_updL ou (ix 0) v.toInt64)) (fun e => if e = 2 then some (1, u.2.1, u.2.2, ou) else if e = 0 then some (2, u.2.1, u.2.2, ou) else none)
def fL_stop (lY0 : LL) (tp : TP) (st : Fin 12 → SS) (ou : Nat → Int64) (x1 : Int32) : Option (Int32 × (TP) × (Fin 12 → SS) × (Nat → Int64)) := (f9_stop lY0 tp st x1).bind fun u => xc u.1 (fun v => some (0, u.2.1, u.2.2, vp_updL ou (ix 0) v.toInt64)) (fun e => if e = 2 then some (1, u.2.1, u.2.2, ou) else if e = 0 then some (2, u.2.1, u.2.2, ou) else none)
def fL_pass (lY0 : LL) (tp : TP) (st : Fin 12 → SS) (ou : Nat → Int64) (x1 : Int32) : Option (Int32 × (TP) × (Fin 12 → SS) × (Nat → Int64)) := (f9_pass lY0 tp st x1).bind fun u => xc u.1 (fun v => some (0, u.2.1, u.2.2, vp_updL ou (ix 0) v.toInt64)) (fun e => if e = 1 then some (1, u.2.1, u.2.2, ou) else none)
def fL_passUntil (lY0 : LL) (tp : TP) (st : Fin 12 → SS) (ou : Nat → Int64) (x1 : Int32) (x2 : Int32) : Option (Int32 × (TP) × (Fin 12 → SS) × (Nat → Int64)) := (f9_passUntil lY0 tp st x1 x2).bind fun u => xc u.1 (fun v => some (0, u.2.1, u.2.2, vp_updL ou (ix 0) v.toInt64)) (fun e => if e = 2 then some (1, u.2.1, u.2.2, ou) else if e = 1 then some (2, u.2.1, u.2.2, ou) else if e = 0 then some (3, u.2.1, u.2.2, ou) else none)
def fL_seal (lY0 : LL) (tp : TP) (st : Fin 12 → SS) (ou : Nat → Int64) (x1 : Int32) : Option (Int32 × (TP) × (Fin 12 → SS) × (Nat → Int64)) := (f9_seal lY0 tp st x1).bind fun u => xc u.1 (fun v => some (0, u.2.1, u.2.2, vp_updL ou (ix 0) v.toInt64)) (fun e => if e = 2 then some (1, u.2.1, u.2.2, ou) else none)
def fL_setLeak (lY0 : LL) (tp : TP) (st : Fin 12 → SS) (ou : Nat → Int64) (x1 : Int32) (x2 : Int32) : Option (Int32 × (TP) × (Fin 12 → SS) × (Nat → Int64)) := (f9_setLeak lY0 tp st x1 x2).bind fun u => xc u.1 (fun v => some (0, u.2.1, u.2.2, vp_updL ou (ix 0) v.toInt64)) (fun e => if e = 2 then some (1, u.2.1, u.2.2, ou) else if e = 1 then some (2, u.2.1, u.2.2, ou) else none)
def fL_setOutgassing (lY0 : LL) (tp : TP) (st : Fin 12 → SS) (ou : Nat → Int64) (x1 : Int32) (x2 : Int32) : Option (Int32 × (TP) × (Fin 12 → SS) × (Nat → Int64)) := (f9_setOutgassing lY0 tp st x1 x2).bind fun u => xc u.1 (fun v => some (0, u.2.1, u.2.2, vp_updL ou (ix 0) v.toInt64)) (fun e => if e = 2 then some (1, u.2.1, u.2.2, ou) else if e = 1 then some (2, u.2.1, u.2.2, ou) else none)
def fL_setRule (lY0 : LL) (tp : TP) (st : Fin 12 → SS) (ou : Nat → Int64) (x1 : Int32) (x2 : Int32) : Option (Int32 × (TP) × (Fin 12 → SS) × (Nat → Int64)) := (f9_setRule lY0 tp st x1 x2).bind fun u => xc u.1 (fun v => some (0, u.2.1, u.2.2, vp_updL ou (ix 0) v.toInt64)) (fun e => if e = 2 then some (1, u.2.1, u.2.2, ou) else if e = 1 then some (2, u.2.1, u.2.2, ou) else none)
def fL_test (lY0 : LL) (tp : TP) (st : Fin 12 → SS) (ou : Nat → Int64) (x1 : Int32) (x2 : Int32) : Option (Int32 × (TP) × (Fin 12 → SS) × (Nat → Int64)) := (f9_test lY0 tp st x1 x2).bind fun u => xc u.1 (fun v => some (0, u.2.1, u.2.2, vp_updL ou (ix 0) v.toInt64)) (fun e => if e = 2 then some (1, u.2.1, u.2.2, ou) else if e = 1 then some (2, u.2.1, u.2.2, ou) else if e = 0 then some (3, u.2.1, u.2.2, ou) else none)
def fL_count (lY0 : LL) (tp : TP) (st : Fin 12 → SS) (ou : Nat → Int64) (x1 : Int32) : Option (Int32 × (Nat → Int64)) := (f9_count lY0 tp st x1).bind fun u => xc u (fun v => some (0, vp_updL ou (ix 0) v.toInt64)) (fun e => if e = 1 then some (1, ou) else none)
def fL_chamber (lY0 : LL) (tp : TP) (st : Fin 12 → SS) (ou : Nat → Int64) (x1 : Int32) (x2 : Int32) : Option (Int32 × (Nat → Int64)) := (f9_chamber lY0 tp st x1 x2).bind fun u => xc u (fun v => some (0, vp_updL ou (ix 0) v.toInt64)) (fun e => if e = 2 then some (1, ou) else if e = 1 then some (2, ou) else none)
def fL_gas (lY0 : LL) (tp : TP) (st : Fin 12 → SS) (ou : Nat → Int64) (x1 : Int32) : Option (Int32 × (Nat → Int64)) := (f9_gas lY0 tp st x1).bind fun u => xc u (fun v => some (0, vp_updL ou (ix 0) v)) (fun e => if e = 2 then some (1, ou) else none)
def fL_pump (lY0 : LL) (tp : TP) (st : Fin 12 → SS) (ou : Nat → Int64) (x1 : Int32) (x2 : Int32) : Option (Int32 × (Nat → Int64)) := (f9_pump lY0 tp st x1 x2).bind fun u => xc u (fun v => some (0, vp_updL ou (ix 0) v.toInt64)) (fun e => if e = 2 then some (1, ou) else if e = 1 then some (2, ou) else none)
def fL_valve (lY0 : LL) (tp : TP) (st : Fin 12 → SS) (ou : Nat → Int64) (x1 : Int32) (x2 : Int32) : Option (Int32 × (Nat → Int64)) := (f9_valve lY0 tp st x1 x2).bind fun u => xc u (fun v => some (0, vp_updL ou (ix 0) v.toInt64)) (fun e => if e = 2 then some (1, ou) else if e = 1 then some (2, ou) else none)
def fL_flange (lY0 : LL) (tp : TP) (st : Fin 12 → SS) (ou : Nat → Int64) (x1 : Int32) (x2 : Int32) : Option (Int32 × (Nat → Int64)) := (f9_flange lY0 tp st x1 x2).bind fun u => xc u (fun v => some (0, vp_updL ou (ix 0) v.toInt64)) (fun e => if e = 2 then some (1, ou) else if e = 1 then some (2, ou) else none)
def fL_rise (tp : TP) (st : Fin 12 → SS) (ou : Nat → Int64) (x1 : Int32) (x2 : Int32) : Option (Int32 × (Nat → Int64)) := (f9_rise tp st x1 x2).bind fun u => xc u (fun v => some (0, vp_updL ou (ix 0) v.toInt64)) (fun e => if e = 2 then some (1, ou) else if e = 1 then some (2, ou) else none)
def fL_riseGas (tp : TP) (st : Fin 12 → SS) (ou : Nat → Int64) (x1 : Int32) (x2 : Int32) : Option (Int32 × (Nat → Int64)) := (f9_riseGas tp st x1 x2).bind fun u => xc u (fun v => some (0, vp_updL ou (ix 0) v)) (fun e => if e = 2 then some (1, ou) else none)
def fL_mayOpen (lY0 : LL) (tp : TP) (st : Fin 12 → SS) (ou : Nat → Int64) (x1 : Int32) : Option (Int32 × (Nat → Int64)) := (f9_mayOpen lY0 tp st x1).bind fun u => xc u (fun v => some (0, vp_updL ou (ix 0) v.toInt64)) (fun e => if e = 2 then some (1, ou) else none)
def fL_mayStart (lY0 : LL) (tp : TP) (st : Fin 12 → SS) (ou : Nat → Int64) (x1 : Int32) : Option (Int32 × (Nat → Int64)) := (f9_mayStart lY0 tp st x1).bind fun u => xc u (fun v => some (0, vp_updL ou (ix 0) v.toInt64)) (fun e => if e = 2 then some (1, ou) else none)
def fL_joined (lY0 : LL) (tp : TP) (st : Fin 12 → SS) (ou : Nat → Int64) (x1 : Int32) : Option (Int32 × (Nat → Int64)) := (f9_joined lY0 tp st x1).bind fun u => xc u (fun v => some (0, vp_updL ou (ix 0) v.toInt64)) (fun e => if e = 2 then some (1, ou) else none)
def fL_isVented (lY0 : LL) (tp : TP) (st : Fin 12 → SS) (ou : Nat → Int64) (x1 : Int32) : Option (Int32 × (Nat → Int64)) := (f9_isVented lY0 tp st x1).bind fun u => xc u (fun v => if v = 0 then some (0, vp_updL ou (ix 0) 0) else some (0, vp_updL ou (ix 0) 1)) (fun e => if e = 2 then some (1, ou) else none)
def fL_spread (lY0 : LL) (tp : TP) (st : Fin 12 → SS) (ou : Nat → Int64) (x1 : Int32) : Option (Int32 × (Nat → Int64)) := (f9_spread lY0 tp st x1).bind fun u => xc u (fun v => some (0, vp_updL ou (ix 0) v.toInt64)) (fun e => if e = 2 then some (1, ou) else none)
def fL_isIsolated (lY0 : LL) (tp : TP) (st : Fin 12 → SS) (ou : Nat → Int64) (x1 : Int32) : Option (Int32 × (Nat → Int64)) := (f9_isIsolated lY0 tp st x1).bind fun u => xc u (fun v => if v = 0 then some (0, vp_updL ou (ix 0) 0) else some (0, vp_updL ou (ix 0) 1)) (fun e => if e = 2 then some (1, ou) else none)
def fL_fewestValves (lY0 : LL) (ou : Nat → Int64) (x1 : Int32) (x2 : Int32) : Option (Int32 × (Nat → Int64)) := (f9_fewestValves lY0 x1 x2).bind fun u => xc u (fun v => some (0, vp_updL ou (ix 0) v.toInt64)) (fun e => if e = 2 then some (1, ou) else if e = 1 then some (2, ou) else none)
def fL_settled (lY0 : LL) (tp : TP) (st : Fin 12 → SS) (ou : Nat → Int64) (x1 : Int32) : Option (Int32 × (Nat → Int64)) := (f9_settled lY0 tp st x1).bind fun u => xc u (fun v => some (0, vp_updL ou (ix 0) v.toInt64)) (fun e => if e = 2 then some (1, ou) else none)
def fL_widest (lY0 : LL) (tp : TP) (st : Fin 12 → SS) (ou : Nat → Int64) : Option (Int32 × (Nat → Int64)) := (f9_widest lY0 tp st).bind fun u => xc u (fun v => some (0, vp_updL ou (ix 0) v.toInt64)) (fun e => if e = 3 then some (1, ou) else none)
def fL_pressureAfter (lY0 : LL) (tp : TP) (st : Fin 12 → SS) (ou : Nat → Int64) (x1 : Int32) (x2 : Int32) : Option (Int32 × (Fin 12 → SS) × (Nat → Int64)) := (f9_pressureAfter lY0 tp st x1 x2).bind fun u => xc u.1 (fun v => some (0, u.2, vp_updL ou (ix 0) v.toInt64)) (fun e => if e = 2 then some (1, u.2, ou) else if e = 1 then some (2, u.2, ou) else none)
def fL_lowest (lY0 : LL) (tp : TP) (st : Fin 12 → SS) (ou : Nat → Int64) (x1 : Int32) (x2 : Int32) : Option (Int32 × (Fin 12 → SS) × (Nat → Int64)) := (f9_lowest lY0 tp st x1 x2).bind fun u => xc u.1 (fun v => some (0, u.2, vp_updL ou (ix 0) v.toInt64)) (fun e => if e = 2 then some (1, u.2, ou) else if e = 1 then some (2, u.2, ou) else none)
def fL_ticksTo (lY0 : LL) (tp : TP) (st : Fin 12 → SS) (ou : Nat → Int64) (x1 : Int32) (x2 : Int32) : Option (Int32 × (Fin 12 → SS) × (Nat → Int64)) := (f9_ticksTo lY0 tp st x1 x2).bind fun u => xc u.1 (fun v => some (0, u.2, vp_updL ou (ix 0) v.toInt64)) (fun e => if e = 2 then some (1, u.2, ou) else if e = 1 then some (2, u.2, ou) else if e = 3 then some (3, u.2, ou) else none)
def fL_tripsIn (lY0 : LL) (tp : TP) (st : Fin 12 → SS) (ou : Nat → Int64) (x1 : Int32) : Option (Int32 × (Fin 12 → SS) × (Nat → Int64)) := (f9_tripsIn lY0 tp st x1).bind fun u => xc u.1 (fun v => some (0, u.2, vp_updL ou (ix 0) v.toInt64)) (fun e => if e = 1 then some (1, u.2, ou) else none)
def fL_meanPressure (lY0 : LL) (tp : TP) (st : Fin 12 → SS) (od : Nat → UInt64) (x1 : Int32) (x2 : Int32) : Option (Int32 × (Fin 12 → SS) × (Nat → UInt64)) := (f9_meanPressure lY0 tp st x1 x2).bind fun u => xc u.1 (fun v => some (0, u.2, vf_upd od (ix 0) v)) (fun e => if e = 2 then some (1, u.2, od) else if e = 1 then some (2, u.2, od) else none)
def fL_bestPump (lY0 : LL) (tp : TP) (st : Fin 12 → SS) (ou : Nat → Int64) (x1 : Int32) (x2 : Int32) : Option (Int32 × (Fin 12 → SS) × (Nat → Int64)) := (f9_bestPump lY0 tp st x1 x2).bind fun u => xc u.1 (fun v => some (0, u.2, vp_updL ou (ix 0) v.toInt64)) (fun e => if e = 2 then some (1, u.2, ou) else if e = 1 then some (2, u.2, ou) else if e = 3 then some (3, u.2, ou) else none)
def fL_bestValve (lY0 : LL) (tp : TP) (st : Fin 12 → SS) (ou : Nat → Int64) (x1 : Int32) (x2 : Int32) : Option (Int32 × (Fin 12 → SS) × (Nat → Int64)) := (f9_bestValve lY0 tp st x1 x2).bind fun u => xc u.1 (fun v => some (0, u.2, vp_updL ou (ix 0) v.toInt64)) (fun e => if e = 2 then some (1, u.2, ou) else if e = 1 then some (2, u.2, ou) else if e = 3 then some (3, u.2, ou) else none)
def fL_spray (lY0 : LL) (tp : TP) (st : Fin 12 → SS) (ou : Nat → Int64) (x1 : Int32) : Option (Int32 × (Nat → Int64)) := (f9_spray lY0 tp st x1).bind fun u => xc u (fun v => some (0, vp_updL ou (ix 0) v.toInt64)) (fun e => if e = 1 then some (1, ou) else none)
def fL_sprays (lY0 : LL) (tp : TP) (st : Fin 12 → SS) (hn : HN) (ou : Nat → Int64) (x1 : Int32) (x2 : Int32) : Option (Int32 × (HN) × (Nat → Int64)) := (f9_sprays lY0 tp st hn x1 x2).bind fun u => xc u.1 (fun v => some (0, u.2, vp_updL ou (ix 0) v.toInt64)) (fun e => if e = 2 then some (1, u.2, ou) else if e = 1 then some (2, u.2, ou) else none)
def fL_found (lY0 : LL) (tp : TP) (st : Fin 12 → SS) (hn : HN) (ou : Nat → Int64) (x1 : Int32) (x2 : Int32) : Option (Int32 × (HN) × (Nat → Int64)) := (f9_found lY0 tp st hn x1 x2).bind fun u => xc u.1 (fun v => some (0, u.2, vp_updL ou (ix 0) v.toInt64)) (fun e => if e = 2 then some (1, u.2, ou) else if e = 1 then some (2, u.2, ou) else none)
def fL_worstFlange (lY0 : LL) (tp : TP) (st : Fin 12 → SS) (ou : Nat → Int64) : Option (Int32 × (Nat → Int64)) := (f9_worstFlange lY0 tp st).bind fun u => xc u (fun v => some (0, vp_updL ou (ix 0) v.toInt64)) (fun e => if e = 3 then some (1, ou) else none)
def fL_reportByte (rp : RP) (ou : Nat → Int64) (x1 : Int32) : Option (Int32 × (Nat → Int64)) := (f9_reportByte rp x1).bind fun u => xc u (fun v => some (0, vp_updL ou (ix 0) v.toInt64)) (fun e => if e = 2 then some (1, ou) else none)
def fL_undo (tp : TP) (ou : Nat → Int64) : Option (Int32 × (TP) × (Nat → Int64)) := (f9_undo tp).bind fun u => xc u.1 (fun v => some (0, u.2, vp_updL ou (ix 0) v.toInt64)) (fun e => if e = 0 then some (1, u.2, ou) else none)
theorem clL_13 : .classLink RL 13 (exN 0) ∈ bigw := (gb4 90 (by decide +kernel) (by decide +kernel))
theorem clL_19 : .classLink RL 19 (exN 1) ∈ bigw := (gb4 166 (by decide +kernel) (by decide +kernel))
theorem clL_24 : .classLink RL 24 (exN 2) ∈ bigw := (gb4 189 (by decide +kernel) (by decide +kernel))
theorem clL_112 : .classLink RL 112 (exN 3) ∈ bigw := (gb5 213 (by decide +kernel) (by decide +kernel))
theorem csT_0 : .castable (exN 0) (exN 0) ∈ lw_tbl := (gt4 97 (by decide +kernel))
theorem csT_1 : .castable (exN 1) (exN 1) ∈ lw_tbl := (gt4 173 (by decide +kernel))
theorem csT_2 : .castable (exN 2) (exN 2) ∈ lw_tbl := (gt4 197 (by decide +kernel))
theorem csT_3 : .castable (exN 3) (exN 3) ∈ lw_tbl := (gt5 220 (by decide +kernel))
def hhL_appendText : List (Nat × Nat × Nat × Nat) := [(0, 16, 19, 13)]
theorem hxL_appendText_0 : HX RL hhL_appendText 11 0 19 := ⟨[], (0, 16, 19, 13), [], rfl, (fun z hz => by cases hz), by decide, by decide, clL_13, csT_0, rfl⟩
set_option maxRecDepth 100000 in
theorem lkL_appendText : LKW RL 158 yL_appendText cL_appendText 8 (some .int) hhL_appendText 7 := ⟨(gb4 87 (by decide +kernel) (by decide +kernel)), (gb4 89 rfl (by decide +kernel)), (gb1 0 (by decide +kernel) (by decide +kernel)), by decide, by decide +kernel, (gb4 88 (by decide +kernel) (by decide +kernel))⟩
set_option maxRecDepth 100000 in
set_option maxHeartbeats 4000000 in
theorem KL_appendText {k : KT} {T : TT} {R : RR} {ly : Fin 2 → LL} {rc : RC} {hn : HN} {rp : RP} {tp : TP} {ee : EE} {st : Fin 12 → SS} {w : Nat → Int64} {aside : Nat → Int64} {thought : Nat → Int64} {fresh : Nat → Int64} {mu : MU} {th : Int32} {mp : MP} {mf : MF} {mh : MH} {mg : MG} {ou : Nat → Int64} {od : Nat → UInt64} {x1 : Int32} {x2 : Int32} {x3 : Int32} {x4 : Int32} {x5 : Int32} {r : Int32 × (TT) × (Nat → Int64)} (hf : fL_appendText T ou x1 x2 x3 x4 x5 = some r) : CTW k strs yL_appendText cL_appendText 8 (some .int) hhL_appendText (rmD 7 1 6) 1 6 [.ref (k.b + (0)), .int x1, .int x2, .int x3, .int x4, .int x5, .ref (k.b + (197))] (wAll k T R ly rc hn rp tp ee st w aside thought fresh mu th mp mf mh mg ou od) (some (.int r.1)) (wAll k r.2.1 R ly rc hn rp tp ee st w aside thought fresh mu th mp mf mh mg r.2.2 od) := by
  refine CTW.of (by decide) (Nat.le_of_ble_eq_true rfl) ?_
  intro z X hT hQ
  show VW k z 0 0 (wAll k T R ly rc hn rp tp ee st w aside thought fresh mu th mp mf mh mg ou od) 0 [some (.ref (k.b + (0))), some (.int x1), some (.int x2), some (.int x3), some (.int x4), some (.int x5), some (.ref (k.b + (197))), none] []
  unfold fL_appendText at hf
  obtain ⟨u, hu, hf⟩ := bdS hf
  refine r_aload X (x := k.b + (197)) dL_appendText_0 rfl ?_
  refine r_iconst X (v := 0) dL_appendText_2 rfl ?_
  refine r_aload_n X (x := k.b + (0)) dL_appendText_3 rfl ?_
  refine r_iload_n X (x := x1) dL_appendText_4 rfl ?_
  refine r_iload_n X (x := x2) dL_appendText_5 rfl ?_
  refine r_iload_n X (x := x3) dL_appendText_6 rfl ?_
  refine r_iload X (x := x4) dL_appendText_7 rfl ?_
  refine r_iload X (x := x5) dL_appendText_9 rfl ?_
  refine r_callX X hT [.int x1, .int x2, .int x3, .int x4, .int x5] [.int 0, .ref (k.b + (197))] (K9_appendText hu) lkL_7 clsX9 rfl _ o_main (rle (by decide) (Nat.le_of_ble_eq_true rfl)) rfl rfl (Nat.le_of_ble_eq_true rfl) (Nat.le_of_ble_eq_true rfl) rfl rfl (Nat.le_of_ble_eq_true rfl) rfl dL_appendText_11 ?_ ?_
  · intro e qx he he4
    rcases hu1 : u.1 with v | e1
    · rw [hu1] at he
      cases he
    · rw [hu1] at he hf
      cases he
      replace hf : (if e = 0 then some (1, u.2, ou) else none) = some r := hf
      by_cases c0 : e = 0
      · replace hf := ifT hf c0
        subst c0
        refine ⟨19, hxL_appendText_0, ?_⟩
        refine r_astore X [some (.ref (k.b + (0))), some (.int x1), some (.int x2), some (.int x3), some (.int x4), some (.int x5), some (.ref (k.b + (197))), some (.ref qx)] dL_appendText_19 (Nat.le_of_ble_eq_true rfl) rfl ?_
        refine r_iconst X (v := 1) dL_appendText_21 rfl ?_
        obtain rfl := Option.some.inj hf
        exact r_ireturn X hQ rfl rfl (Nat.le_of_ble_eq_true rfl) (Nat.le_of_ble_eq_true rfl) dL_appendText_22
      replace hf := ifF hf c0
      cases hf
  · intro o ho
    rcases hu1 : u.1 with v | e1
    · rw [hu1] at ho hf
      cases ho
      replace hf : (some (0, u.2, vp_updL ou (ix 0) v.toInt64)) = some r := hf
      show VW k z 1 6 (wAll k u.2 R ly rc hn rp tp ee st w aside thought fresh mu th mp mf mh mg ou od) 14 [some (.ref (k.b + (0))), some (.int x1), some (.int x2), some (.int x3), some (.int x4), some (.int x5), some (.ref (k.b + (197))), none] (.int v :: [.int 0, .ref (k.b + (197))])
      refine r_i2l X dL_appendText_14 ?_
      refine r_lastore X (f := ou) (ws1 := wAll k u.2 R ly rc hn rp tp ee st w aside thought fresh mu th mp mf mh mg (vp_updL ou (ix 0) v.toInt64) od) _ a_m_ou (by decide) (s_ou (vp_updL ou (ix 0) v.toInt64)) dL_appendText_15 ?_
      refine r_goto X 23 dL_appendText_16 rfl ?_
      refine r_iconst X (v := 0) dL_appendText_23 rfl ?_
      obtain rfl := Option.some.inj hf
      exact r_ireturn X hQ rfl rfl (Nat.le_of_ble_eq_true rfl) (Nat.le_of_ble_eq_true rfl) dL_appendText_24
    · rw [hu1] at ho
      cases ho
def hhL_truncateText : List (Nat × Nat × Nat × Nat) := [(0, 9, 12, 19)]
theorem hxL_truncateText_1 : HX RL hhL_truncateText 4 1 12 := ⟨[], (0, 9, 12, 19), [], rfl, (fun z hz => by cases hz), by decide, by decide, clL_19, csT_1, rfl⟩
set_option maxRecDepth 100000 in
theorem lkL_truncateText : LKW RL 167 yL_truncateText cL_truncateText 4 (some .int) hhL_truncateText 3 := ⟨(gb4 163 (by decide +kernel) (by decide +kernel)), (gb4 165 rfl (by decide +kernel)), (gb1 0 (by decide +kernel) (by decide +kernel)), by decide, by decide +kernel, (gb4 164 (by decide +kernel) (by decide +kernel))⟩
set_option maxRecDepth 100000 in
set_option maxHeartbeats 4000000 in
theorem KL_truncateText {k : KT} {T : TT} {R : RR} {ly : Fin 2 → LL} {rc : RC} {hn : HN} {rp : RP} {tp : TP} {ee : EE} {st : Fin 12 → SS} {w : Nat → Int64} {aside : Nat → Int64} {thought : Nat → Int64} {fresh : Nat → Int64} {mu : MU} {th : Int32} {mp : MP} {mf : MF} {mh : MH} {mg : MG} {ou : Nat → Int64} {od : Nat → UInt64} {x1 : Int32} {r : Int32 × (TT) × (Nat → Int64)} (hf : fL_truncateText T ou x1 = some r) : CTW k strs yL_truncateText cL_truncateText 4 (some .int) hhL_truncateText (rmD 7 1 6) 1 6 [.ref (k.b + (0)), .int x1, .ref (k.b + (197))] (wAll k T R ly rc hn rp tp ee st w aside thought fresh mu th mp mf mh mg ou od) (some (.int r.1)) (wAll k r.2.1 R ly rc hn rp tp ee st w aside thought fresh mu th mp mf mh mg r.2.2 od) := by
  refine CTW.of (by decide) (Nat.le_of_ble_eq_true rfl) ?_
  intro z X hT hQ
  show VW k z 0 0 (wAll k T R ly rc hn rp tp ee st w aside thought fresh mu th mp mf mh mg ou od) 0 [some (.ref (k.b + (0))), some (.int x1), some (.ref (k.b + (197))), none] []
  unfold fL_truncateText at hf
  obtain ⟨u, hu, hf⟩ := bdS hf
  refine r_aload_n X (x := k.b + (197)) dL_truncateText_0 rfl ?_
  refine r_iconst X (v := 0) dL_truncateText_1 rfl ?_
  refine r_aload_n X (x := k.b + (0)) dL_truncateText_2 rfl ?_
  refine r_iload_n X (x := x1) dL_truncateText_3 rfl ?_
  refine r_callX X hT [.int x1] [.int 0, .ref (k.b + (197))] (K9_truncateText hu) lkL_15 clsX9 rfl _ o_main (rle (by decide) (Nat.le_of_ble_eq_true rfl)) rfl rfl (Nat.le_of_ble_eq_true rfl) (Nat.le_of_ble_eq_true rfl) rfl rfl (Nat.le_of_ble_eq_true rfl) rfl dL_truncateText_4 ?_ ?_
  · intro e qx he he4
    rcases hu1 : u.1 with v | e1
    · rw [hu1] at he
      cases he
    · rw [hu1] at he hf
      cases he
      replace hf : (if e = 1 then some (1, u.2, ou) else none) = some r := hf
      by_cases c1 : e = 1
      · replace hf := ifT hf c1
        subst c1
        refine ⟨12, hxL_truncateText_1, ?_⟩
        refine r_astore_n X [some (.ref (k.b + (0))), some (.int x1), some (.ref (k.b + (197))), some (.ref qx)] dL_truncateText_12 (Nat.le_of_ble_eq_true rfl) rfl ?_
        refine r_iconst X (v := 1) dL_truncateText_13 rfl ?_
        obtain rfl := Option.some.inj hf
        exact r_ireturn X hQ rfl rfl (Nat.le_of_ble_eq_true rfl) (Nat.le_of_ble_eq_true rfl) dL_truncateText_14
      replace hf := ifF hf c1
      cases hf
  · intro o ho
    rcases hu1 : u.1 with v | e1
    · rw [hu1] at ho hf
      cases ho
      replace hf : (some (0, u.2, vp_updL ou (ix 0) v.toInt64)) = some r := hf
      show VW k z 1 6 (wAll k u.2 R ly rc hn rp tp ee st w aside thought fresh mu th mp mf mh mg ou od) 7 [some (.ref (k.b + (0))), some (.int x1), some (.ref (k.b + (197))), none] (.int v :: [.int 0, .ref (k.b + (197))])
      refine r_i2l X dL_truncateText_7 ?_
      refine r_lastore X (f := ou) (ws1 := wAll k u.2 R ly rc hn rp tp ee st w aside thought fresh mu th mp mf mh mg (vp_updL ou (ix 0) v.toInt64) od) _ a_m_ou (by decide) (s_ou (vp_updL ou (ix 0) v.toInt64)) dL_truncateText_8 ?_
      refine r_goto X 15 dL_truncateText_9 rfl ?_
      refine r_iconst X (v := 0) dL_truncateText_15 rfl ?_
      obtain rfl := Option.some.inj hf
      exact r_ireturn X hQ rfl rfl (Nat.le_of_ble_eq_true rfl) (Nat.le_of_ble_eq_true rfl) dL_truncateText_16
    · rw [hu1] at ho
      cases ho
def hhL_open : List (Nat × Nat × Nat × Nat) := [(0, 9, 12, 24), (0, 9, 15, 13)]
theorem hxL_open_2 : HX RL hhL_open 4 2 12 := ⟨[], (0, 9, 12, 24), [(0, 9, 15, 13)], rfl, (fun z hz => by cases hz), by decide, by decide, clL_24, csT_2, rfl⟩
theorem hxL_open_0 : HX RL hhL_open 4 0 15 := ⟨[(0, 9, 12, 24)], (0, 9, 15, 13), [], rfl, (fun z hz => by
    rcases List.mem_singleton.mp hz with rfl
    exact Or.inr ⟨by decide, 2, by decide, by decide, clL_24⟩), by decide, by decide, clL_13, csT_0, rfl⟩
set_option maxRecDepth 100000 in
theorem lkL_open : LKW RL 183 yL_open cL_open 4 (some .int) hhL_open 3 := ⟨(gb4 186 (by decide +kernel) (by decide +kernel)), (gb4 188 rfl (by decide +kernel)), (gb1 0 (by decide +kernel) (by decide +kernel)), by decide, by decide +kernel, (gb4 187 (by decide +kernel) (by decide +kernel))⟩
set_option maxRecDepth 100000 in
set_option maxHeartbeats 4000000 in
theorem KL_open {k : KT} {T : TT} {R : RR} {ly : Fin 2 → LL} {rc : RC} {hn : HN} {rp : RP} {tp : TP} {ee : EE} {st : Fin 12 → SS} {w : Nat → Int64} {aside : Nat → Int64} {thought : Nat → Int64} {fresh : Nat → Int64} {mu : MU} {th : Int32} {mp : MP} {mf : MF} {mh : MH} {mg : MG} {ou : Nat → Int64} {od : Nat → UInt64} {x1 : Int32} {r : Int32 × (TP) × (Fin 12 → SS) × (Nat → Int64)} (hf : fL_open (ly (0 : Fin 2)) tp st ou x1 = some r) : CTW k strs yL_open cL_open 4 (some .int) hhL_open (rmD 7 1 6) 1 6 [.ref (k.b + (0)), .int x1, .ref (k.b + (197))] (wAll k T R ly rc hn rp tp ee st w aside thought fresh mu th mp mf mh mg ou od) (some (.int r.1)) (wAll k T R ly rc hn rp r.2.1 ee r.2.2.1 w aside thought fresh mu th mp mf mh mg r.2.2.2 od) := by
  refine CTW.of (by decide) (Nat.le_of_ble_eq_true rfl) ?_
  intro z X hT hQ
  show VW k z 0 0 (wAll k T R ly rc hn rp tp ee st w aside thought fresh mu th mp mf mh mg ou od) 0 [some (.ref (k.b + (0))), some (.int x1), some (.ref (k.b + (197))), none] []
  unfold fL_open at hf
  obtain ⟨u, hu, hf⟩ := bdS hf
  refine r_aload_n X (x := k.b + (197)) dL_open_0 rfl ?_
  refine r_iconst X (v := 0) dL_open_1 rfl ?_
  refine r_aload_n X (x := k.b + (0)) dL_open_2 rfl ?_
  refine r_iload_n X (x := x1) dL_open_3 rfl ?_
  refine r_callX X hT [.int x1] [.int 0, .ref (k.b + (197))] (K9_open hu) lkL_21 clsX9 rfl _ o_main (rle (by decide) (Nat.le_of_ble_eq_true rfl)) rfl rfl (Nat.le_of_ble_eq_true rfl) (Nat.le_of_ble_eq_true rfl) rfl rfl (Nat.le_of_ble_eq_true rfl) rfl dL_open_4 ?_ ?_
  · intro e qx he he4
    rcases hu1 : u.1 with v | e1
    · rw [hu1] at he
      cases he
    · rw [hu1] at he hf
      cases he
      replace hf : (if e = 2 then some (1, u.2.1, u.2.2, ou) else if e = 0 then some (2, u.2.1, u.2.2, ou) else none) = some r := hf
      by_cases c2 : e = 2
      · replace hf := ifT hf c2
        subst c2
        refine ⟨12, hxL_open_2, ?_⟩
        refine r_astore_n X [some (.ref (k.b + (0))), some (.int x1), some (.ref (k.b + (197))), some (.ref qx)] dL_open_12 (Nat.le_of_ble_eq_true rfl) rfl ?_
        refine r_iconst X (v := 1) dL_open_13 rfl ?_
        obtain rfl := Option.some.inj hf
        exact r_ireturn X hQ rfl rfl (Nat.le_of_ble_eq_true rfl) (Nat.le_of_ble_eq_true rfl) dL_open_14
      replace hf := ifF hf c2
      by_cases c0 : e = 0
      · replace hf := ifT hf c0
        subst c0
        refine ⟨15, hxL_open_0, ?_⟩
        refine r_astore_n X [some (.ref (k.b + (0))), some (.int x1), some (.ref (k.b + (197))), some (.ref qx)] dL_open_15 (Nat.le_of_ble_eq_true rfl) rfl ?_
        refine r_iconst X (v := 2) dL_open_16 rfl ?_
        obtain rfl := Option.some.inj hf
        exact r_ireturn X hQ rfl rfl (Nat.le_of_ble_eq_true rfl) (Nat.le_of_ble_eq_true rfl) dL_open_17
      replace hf := ifF hf c0
      cases hf
  · intro o ho
    rcases hu1 : u.1 with v | e1
    · rw [hu1] at ho hf
      cases ho
      replace hf : (some (0, u.2.1, u.2.2, vp_updL ou (ix 0) v.toInt64)) = some r := hf
      show VW k z 1 6 (wAll k T R ly rc hn rp u.2.1 ee u.2.2 w aside thought fresh mu th mp mf mh mg ou od) 7 [some (.ref (k.b + (0))), some (.int x1), some (.ref (k.b + (197))), none] (.int v :: [.int 0, .ref (k.b + (197))])
      refine r_i2l X dL_open_7 ?_
      refine r_lastore X (f := ou) (ws1 := wAll k T R ly rc hn rp u.2.1 ee u.2.2 w aside thought fresh mu th mp mf mh mg (vp_updL ou (ix 0) v.toInt64) od) _ a_m_ou (by decide) (s_ou (vp_updL ou (ix 0) v.toInt64)) dL_open_8 ?_
      refine r_goto X 18 dL_open_9 rfl ?_
      refine r_iconst X (v := 0) dL_open_18 rfl ?_
      obtain rfl := Option.some.inj hf
      exact r_ireturn X hQ rfl rfl (Nat.le_of_ble_eq_true rfl) (Nat.le_of_ble_eq_true rfl) dL_open_19
    · rw [hu1] at ho
      cases ho
def hhL_close : List (Nat × Nat × Nat × Nat) := [(0, 9, 12, 24), (0, 9, 15, 13)]
theorem hxL_close_2 : HX RL hhL_close 4 2 12 := ⟨[], (0, 9, 12, 24), [(0, 9, 15, 13)], rfl, (fun z hz => by cases hz), by decide, by decide, clL_24, csT_2, rfl⟩
theorem hxL_close_0 : HX RL hhL_close 4 0 15 := ⟨[(0, 9, 12, 24)], (0, 9, 15, 13), [], rfl, (fun z hz => by
    rcases List.mem_singleton.mp hz with rfl
    exact Or.inr ⟨by decide, 2, by decide, by decide, clL_24⟩), by decide, by decide, clL_13, csT_0, rfl⟩
set_option maxRecDepth 100000 in
theorem lkL_close : LKW RL 186 yL_close cL_close 4 (some .int) hhL_close 3 := ⟨(gb4 212 (by decide +kernel) (by decide +kernel)), (gb4 214 rfl (by decide +kernel)), (gb1 0 (by decide +kernel) (by decide +kernel)), by decide, by decide +kernel, (gb4 213 (by decide +kernel) (by decide +kernel))⟩
set_option maxRecDepth 100000 in
set_option maxHeartbeats 4000000 in
theorem KL_close {k : KT} {T : TT} {R : RR} {ly : Fin 2 → LL} {rc : RC} {hn : HN} {rp : RP} {tp : TP} {ee : EE} {st : Fin 12 → SS} {w : Nat → Int64} {aside : Nat → Int64} {thought : Nat → Int64} {fresh : Nat → Int64} {mu : MU} {th : Int32} {mp : MP} {mf : MF} {mh : MH} {mg : MG} {ou : Nat → Int64} {od : Nat → UInt64} {x1 : Int32} {r : Int32 × (TP) × (Fin 12 → SS) × (Nat → Int64)} (hf : fL_close (ly (0 : Fin 2)) tp st ou x1 = some r) : CTW k strs yL_close cL_close 4 (some .int) hhL_close (rmD 7 1 6) 1 6 [.ref (k.b + (0)), .int x1, .ref (k.b + (197))] (wAll k T R ly rc hn rp tp ee st w aside thought fresh mu th mp mf mh mg ou od) (some (.int r.1)) (wAll k T R ly rc hn rp r.2.1 ee r.2.2.1 w aside thought fresh mu th mp mf mh mg r.2.2.2 od) := by
  refine CTW.of (by decide) (Nat.le_of_ble_eq_true rfl) ?_
  intro z X hT hQ
  show VW k z 0 0 (wAll k T R ly rc hn rp tp ee st w aside thought fresh mu th mp mf mh mg ou od) 0 [some (.ref (k.b + (0))), some (.int x1), some (.ref (k.b + (197))), none] []
  unfold fL_close at hf
  obtain ⟨u, hu, hf⟩ := bdS hf
  refine r_aload_n X (x := k.b + (197)) dL_close_0 rfl ?_
  refine r_iconst X (v := 0) dL_close_1 rfl ?_
  refine r_aload_n X (x := k.b + (0)) dL_close_2 rfl ?_
  refine r_iload_n X (x := x1) dL_close_3 rfl ?_
  refine r_callX X hT [.int x1] [.int 0, .ref (k.b + (197))] (K9_close hu) lkL_26 clsX9 rfl _ o_main (rle (by decide) (Nat.le_of_ble_eq_true rfl)) rfl rfl (Nat.le_of_ble_eq_true rfl) (Nat.le_of_ble_eq_true rfl) rfl rfl (Nat.le_of_ble_eq_true rfl) rfl dL_close_4 ?_ ?_
  · intro e qx he he4
    rcases hu1 : u.1 with v | e1
    · rw [hu1] at he
      cases he
    · rw [hu1] at he hf
      cases he
      replace hf : (if e = 2 then some (1, u.2.1, u.2.2, ou) else if e = 0 then some (2, u.2.1, u.2.2, ou) else none) = some r := hf
      by_cases c2 : e = 2
      · replace hf := ifT hf c2
        subst c2
        refine ⟨12, hxL_close_2, ?_⟩
        refine r_astore_n X [some (.ref (k.b + (0))), some (.int x1), some (.ref (k.b + (197))), some (.ref qx)] dL_close_12 (Nat.le_of_ble_eq_true rfl) rfl ?_
        refine r_iconst X (v := 1) dL_close_13 rfl ?_
        obtain rfl := Option.some.inj hf
        exact r_ireturn X hQ rfl rfl (Nat.le_of_ble_eq_true rfl) (Nat.le_of_ble_eq_true rfl) dL_close_14
      replace hf := ifF hf c2
      by_cases c0 : e = 0
      · replace hf := ifT hf c0
        subst c0
        refine ⟨15, hxL_close_0, ?_⟩
        refine r_astore_n X [some (.ref (k.b + (0))), some (.int x1), some (.ref (k.b + (197))), some (.ref qx)] dL_close_15 (Nat.le_of_ble_eq_true rfl) rfl ?_
        refine r_iconst X (v := 2) dL_close_16 rfl ?_
        obtain rfl := Option.some.inj hf
        exact r_ireturn X hQ rfl rfl (Nat.le_of_ble_eq_true rfl) (Nat.le_of_ble_eq_true rfl) dL_close_17
      replace hf := ifF hf c0
      cases hf
  · intro o ho
    rcases hu1 : u.1 with v | e1
    · rw [hu1] at ho hf
      cases ho
      replace hf : (some (0, u.2.1, u.2.2, vp_updL ou (ix 0) v.toInt64)) = some r := hf
      show VW k z 1 6 (wAll k T R ly rc hn rp u.2.1 ee u.2.2 w aside thought fresh mu th mp mf mh mg ou od) 7 [some (.ref (k.b + (0))), some (.int x1), some (.ref (k.b + (197))), none] (.int v :: [.int 0, .ref (k.b + (197))])
      refine r_i2l X dL_close_7 ?_
      refine r_lastore X (f := ou) (ws1 := wAll k T R ly rc hn rp u.2.1 ee u.2.2 w aside thought fresh mu th mp mf mh mg (vp_updL ou (ix 0) v.toInt64) od) _ a_m_ou (by decide) (s_ou (vp_updL ou (ix 0) v.toInt64)) dL_close_8 ?_
      refine r_goto X 18 dL_close_9 rfl ?_
      refine r_iconst X (v := 0) dL_close_18 rfl ?_
      obtain rfl := Option.some.inj hf
      exact r_ireturn X hQ rfl rfl (Nat.le_of_ble_eq_true rfl) (Nat.le_of_ble_eq_true rfl) dL_close_19
    · rw [hu1] at ho
      cases ho
def hhL_start : List (Nat × Nat × Nat × Nat) := [(0, 9, 12, 24), (0, 9, 15, 13)]
theorem hxL_start_2 : HX RL hhL_start 4 2 12 := ⟨[], (0, 9, 12, 24), [(0, 9, 15, 13)], rfl, (fun z hz => by cases hz), by decide, by decide, clL_24, csT_2, rfl⟩
theorem hxL_start_0 : HX RL hhL_start 4 0 15 := ⟨[(0, 9, 12, 24)], (0, 9, 15, 13), [], rfl, (fun z hz => by
    rcases List.mem_singleton.mp hz with rfl
    exact Or.inr ⟨by decide, 2, by decide, by decide, clL_24⟩), by decide, by decide, clL_13, csT_0, rfl⟩
set_option maxRecDepth 100000 in
theorem lkL_start : LKW RL 189 yL_start cL_start 4 (some .int) hhL_start 3 := ⟨(gb4 221 (by decide +kernel) (by decide +kernel)), (gb4 223 rfl (by decide +kernel)), (gb1 0 (by decide +kernel) (by decide +kernel)), by decide, by decide +kernel, (gb4 222 (by decide +kernel) (by decide +kernel))⟩
set_option maxRecDepth 100000 in
set_option maxHeartbeats 4000000 in
theorem KL_start {k : KT} {T : TT} {R : RR} {ly : Fin 2 → LL} {rc : RC} {hn : HN} {rp : RP} {tp : TP} {ee : EE} {st : Fin 12 → SS} {w : Nat → Int64} {aside : Nat → Int64} {thought : Nat → Int64} {fresh : Nat → Int64} {mu : MU} {th : Int32} {mp : MP} {mf : MF} {mh : MH} {mg : MG} {ou : Nat → Int64} {od : Nat → UInt64} {x1 : Int32} {r : Int32 × (TP) × (Fin 12 → SS) × (Nat → Int64)} (hf : fL_start (ly (0 : Fin 2)) tp st ou x1 = some r) : CTW k strs yL_start cL_start 4 (some .int) hhL_start (rmD 7 1 6) 1 6 [.ref (k.b + (0)), .int x1, .ref (k.b + (197))] (wAll k T R ly rc hn rp tp ee st w aside thought fresh mu th mp mf mh mg ou od) (some (.int r.1)) (wAll k T R ly rc hn rp r.2.1 ee r.2.2.1 w aside thought fresh mu th mp mf mh mg r.2.2.2 od) := by
  refine CTW.of (by decide) (Nat.le_of_ble_eq_true rfl) ?_
  intro z X hT hQ
  show VW k z 0 0 (wAll k T R ly rc hn rp tp ee st w aside thought fresh mu th mp mf mh mg ou od) 0 [some (.ref (k.b + (0))), some (.int x1), some (.ref (k.b + (197))), none] []
  unfold fL_start at hf
  obtain ⟨u, hu, hf⟩ := bdS hf
  refine r_aload_n X (x := k.b + (197)) dL_start_0 rfl ?_
  refine r_iconst X (v := 0) dL_start_1 rfl ?_
  refine r_aload_n X (x := k.b + (0)) dL_start_2 rfl ?_
  refine r_iload_n X (x := x1) dL_start_3 rfl ?_
  refine r_callX X hT [.int x1] [.int 0, .ref (k.b + (197))] (K9_start hu) lkL_29 clsX9 rfl _ o_main (rle (by decide) (Nat.le_of_ble_eq_true rfl)) rfl rfl (Nat.le_of_ble_eq_true rfl) (Nat.le_of_ble_eq_true rfl) rfl rfl (Nat.le_of_ble_eq_true rfl) rfl dL_start_4 ?_ ?_
  · intro e qx he he4
    rcases hu1 : u.1 with v | e1
    · rw [hu1] at he
      cases he
    · rw [hu1] at he hf
      cases he
      replace hf : (if e = 2 then some (1, u.2.1, u.2.2, ou) else if e = 0 then some (2, u.2.1, u.2.2, ou) else none) = some r := hf
      by_cases c2 : e = 2
      · replace hf := ifT hf c2
        subst c2
        refine ⟨12, hxL_start_2, ?_⟩
        refine r_astore_n X [some (.ref (k.b + (0))), some (.int x1), some (.ref (k.b + (197))), some (.ref qx)] dL_start_12 (Nat.le_of_ble_eq_true rfl) rfl ?_
        refine r_iconst X (v := 1) dL_start_13 rfl ?_
        obtain rfl := Option.some.inj hf
        exact r_ireturn X hQ rfl rfl (Nat.le_of_ble_eq_true rfl) (Nat.le_of_ble_eq_true rfl) dL_start_14
      replace hf := ifF hf c2
      by_cases c0 : e = 0
      · replace hf := ifT hf c0
        subst c0
        refine ⟨15, hxL_start_0, ?_⟩
        refine r_astore_n X [some (.ref (k.b + (0))), some (.int x1), some (.ref (k.b + (197))), some (.ref qx)] dL_start_15 (Nat.le_of_ble_eq_true rfl) rfl ?_
        refine r_iconst X (v := 2) dL_start_16 rfl ?_
        obtain rfl := Option.some.inj hf
        exact r_ireturn X hQ rfl rfl (Nat.le_of_ble_eq_true rfl) (Nat.le_of_ble_eq_true rfl) dL_start_17
      replace hf := ifF hf c0
      cases hf
  · intro o ho
    rcases hu1 : u.1 with v | e1
    · rw [hu1] at ho hf
      cases ho
      replace hf : (some (0, u.2.1, u.2.2, vp_updL ou (ix 0) v.toInt64)) = some r := hf
      show VW k z 1 6 (wAll k T R ly rc hn rp u.2.1 ee u.2.2 w aside thought fresh mu th mp mf mh mg ou od) 7 [some (.ref (k.b + (0))), some (.int x1), some (.ref (k.b + (197))), none] (.int v :: [.int 0, .ref (k.b + (197))])
      refine r_i2l X dL_start_7 ?_
      refine r_lastore X (f := ou) (ws1 := wAll k T R ly rc hn rp u.2.1 ee u.2.2 w aside thought fresh mu th mp mf mh mg (vp_updL ou (ix 0) v.toInt64) od) _ a_m_ou (by decide) (s_ou (vp_updL ou (ix 0) v.toInt64)) dL_start_8 ?_
      refine r_goto X 18 dL_start_9 rfl ?_
      refine r_iconst X (v := 0) dL_start_18 rfl ?_
      obtain rfl := Option.some.inj hf
      exact r_ireturn X hQ rfl rfl (Nat.le_of_ble_eq_true rfl) (Nat.le_of_ble_eq_true rfl) dL_start_19
    · rw [hu1] at ho
      cases ho
def hhL_stop : List (Nat × Nat × Nat × Nat) := [(0, 9, 12, 24), (0, 9, 15, 13)]
theorem hxL_stop_2 : HX RL hhL_stop 4 2 12 := ⟨[], (0, 9, 12, 24), [(0, 9, 15, 13)], rfl, (fun z hz => by cases hz), by decide, by decide, clL_24, csT_2, rfl⟩
theorem hxL_stop_0 : HX RL hhL_stop 4 0 15 := ⟨[(0, 9, 12, 24)], (0, 9, 15, 13), [], rfl, (fun z hz => by
    rcases List.mem_singleton.mp hz with rfl
    exact Or.inr ⟨by decide, 2, by decide, by decide, clL_24⟩), by decide, by decide, clL_13, csT_0, rfl⟩
set_option maxRecDepth 100000 in
theorem lkL_stop : LKW RL 192 yL_stop cL_stop 4 (some .int) hhL_stop 3 := ⟨(gb4 231 (by decide +kernel) (by decide +kernel)), (gb4 233 rfl (by decide +kernel)), (gb1 0 (by decide +kernel) (by decide +kernel)), by decide, by decide +kernel, (gb4 232 (by decide +kernel) (by decide +kernel))⟩
set_option maxRecDepth 100000 in
set_option maxHeartbeats 4000000 in
theorem KL_stop {k : KT} {T : TT} {R : RR} {ly : Fin 2 → LL} {rc : RC} {hn : HN} {rp : RP} {tp : TP} {ee : EE} {st : Fin 12 → SS} {w : Nat → Int64} {aside : Nat → Int64} {thought : Nat → Int64} {fresh : Nat → Int64} {mu : MU} {th : Int32} {mp : MP} {mf : MF} {mh : MH} {mg : MG} {ou : Nat → Int64} {od : Nat → UInt64} {x1 : Int32} {r : Int32 × (TP) × (Fin 12 → SS) × (Nat → Int64)} (hf : fL_stop (ly (0 : Fin 2)) tp st ou x1 = some r) : CTW k strs yL_stop cL_stop 4 (some .int) hhL_stop (rmD 7 1 6) 1 6 [.ref (k.b + (0)), .int x1, .ref (k.b + (197))] (wAll k T R ly rc hn rp tp ee st w aside thought fresh mu th mp mf mh mg ou od) (some (.int r.1)) (wAll k T R ly rc hn rp r.2.1 ee r.2.2.1 w aside thought fresh mu th mp mf mh mg r.2.2.2 od) := by
  refine CTW.of (by decide) (Nat.le_of_ble_eq_true rfl) ?_
  intro z X hT hQ
  show VW k z 0 0 (wAll k T R ly rc hn rp tp ee st w aside thought fresh mu th mp mf mh mg ou od) 0 [some (.ref (k.b + (0))), some (.int x1), some (.ref (k.b + (197))), none] []
  unfold fL_stop at hf
  obtain ⟨u, hu, hf⟩ := bdS hf
  refine r_aload_n X (x := k.b + (197)) dL_stop_0 rfl ?_
  refine r_iconst X (v := 0) dL_stop_1 rfl ?_
  refine r_aload_n X (x := k.b + (0)) dL_stop_2 rfl ?_
  refine r_iload_n X (x := x1) dL_stop_3 rfl ?_
  refine r_callX X hT [.int x1] [.int 0, .ref (k.b + (197))] (K9_stop hu) lkL_32 clsX9 rfl _ o_main (rle (by decide) (Nat.le_of_ble_eq_true rfl)) rfl rfl (Nat.le_of_ble_eq_true rfl) (Nat.le_of_ble_eq_true rfl) rfl rfl (Nat.le_of_ble_eq_true rfl) rfl dL_stop_4 ?_ ?_
  · intro e qx he he4
    rcases hu1 : u.1 with v | e1
    · rw [hu1] at he
      cases he
    · rw [hu1] at he hf
      cases he
      replace hf : (if e = 2 then some (1, u.2.1, u.2.2, ou) else if e = 0 then some (2, u.2.1, u.2.2, ou) else none) = some r := hf
      by_cases c2 : e = 2
      · replace hf := ifT hf c2
        subst c2
        refine ⟨12, hxL_stop_2, ?_⟩
        refine r_astore_n X [some (.ref (k.b + (0))), some (.int x1), some (.ref (k.b + (197))), some (.ref qx)] dL_stop_12 (Nat.le_of_ble_eq_true rfl) rfl ?_
        refine r_iconst X (v := 1) dL_stop_13 rfl ?_
        obtain rfl := Option.some.inj hf
        exact r_ireturn X hQ rfl rfl (Nat.le_of_ble_eq_true rfl) (Nat.le_of_ble_eq_true rfl) dL_stop_14
      replace hf := ifF hf c2
      by_cases c0 : e = 0
      · replace hf := ifT hf c0
        subst c0
        refine ⟨15, hxL_stop_0, ?_⟩
        refine r_astore_n X [some (.ref (k.b + (0))), some (.int x1), some (.ref (k.b + (197))), some (.ref qx)] dL_stop_15 (Nat.le_of_ble_eq_true rfl) rfl ?_
        refine r_iconst X (v := 2) dL_stop_16 rfl ?_
        obtain rfl := Option.some.inj hf
        exact r_ireturn X hQ rfl rfl (Nat.le_of_ble_eq_true rfl) (Nat.le_of_ble_eq_true rfl) dL_stop_17
      replace hf := ifF hf c0
      cases hf
  · intro o ho
    rcases hu1 : u.1 with v | e1
    · rw [hu1] at ho hf
      cases ho
      replace hf : (some (0, u.2.1, u.2.2, vp_updL ou (ix 0) v.toInt64)) = some r := hf
      show VW k z 1 6 (wAll k T R ly rc hn rp u.2.1 ee u.2.2 w aside thought fresh mu th mp mf mh mg ou od) 7 [some (.ref (k.b + (0))), some (.int x1), some (.ref (k.b + (197))), none] (.int v :: [.int 0, .ref (k.b + (197))])
      refine r_i2l X dL_stop_7 ?_
      refine r_lastore X (f := ou) (ws1 := wAll k T R ly rc hn rp u.2.1 ee u.2.2 w aside thought fresh mu th mp mf mh mg (vp_updL ou (ix 0) v.toInt64) od) _ a_m_ou (by decide) (s_ou (vp_updL ou (ix 0) v.toInt64)) dL_stop_8 ?_
      refine r_goto X 18 dL_stop_9 rfl ?_
      refine r_iconst X (v := 0) dL_stop_18 rfl ?_
      obtain rfl := Option.some.inj hf
      exact r_ireturn X hQ rfl rfl (Nat.le_of_ble_eq_true rfl) (Nat.le_of_ble_eq_true rfl) dL_stop_19
    · rw [hu1] at ho
      cases ho
def hhL_pass : List (Nat × Nat × Nat × Nat) := [(0, 9, 12, 19)]
theorem hxL_pass_1 : HX RL hhL_pass 4 1 12 := ⟨[], (0, 9, 12, 19), [], rfl, (fun z hz => by cases hz), by decide, by decide, clL_19, csT_1, rfl⟩
set_option maxRecDepth 100000 in
theorem lkL_pass : LKW RL 195 yL_pass cL_pass 4 (some .int) hhL_pass 3 := ⟨(gb5 0 (by decide +kernel) (by decide +kernel)), (gb5 2 rfl (by decide +kernel)), (gb1 0 (by decide +kernel) (by decide +kernel)), by decide, by decide +kernel, (gb5 1 (by decide +kernel) (by decide +kernel))⟩
set_option maxRecDepth 100000 in
set_option maxHeartbeats 4000000 in
theorem KL_pass {k : KT} {T : TT} {R : RR} {ly : Fin 2 → LL} {rc : RC} {hn : HN} {rp : RP} {tp : TP} {ee : EE} {st : Fin 12 → SS} {w : Nat → Int64} {aside : Nat → Int64} {thought : Nat → Int64} {fresh : Nat → Int64} {mu : MU} {th : Int32} {mp : MP} {mf : MF} {mh : MH} {mg : MG} {ou : Nat → Int64} {od : Nat → UInt64} {x1 : Int32} {r : Int32 × (TP) × (Fin 12 → SS) × (Nat → Int64)} (hf : fL_pass (ly (0 : Fin 2)) tp st ou x1 = some r) : CTW k strs yL_pass cL_pass 4 (some .int) hhL_pass (rmD 7 1 6) 1 6 [.ref (k.b + (0)), .int x1, .ref (k.b + (197))] (wAll k T R ly rc hn rp tp ee st w aside thought fresh mu th mp mf mh mg ou od) (some (.int r.1)) (wAll k T R ly rc hn rp r.2.1 ee r.2.2.1 w aside thought fresh mu th mp mf mh mg r.2.2.2 od) := by
  refine CTW.of (by decide) (Nat.le_of_ble_eq_true rfl) ?_
  intro z X hT hQ
  show VW k z 0 0 (wAll k T R ly rc hn rp tp ee st w aside thought fresh mu th mp mf mh mg ou od) 0 [some (.ref (k.b + (0))), some (.int x1), some (.ref (k.b + (197))), none] []
  unfold fL_pass at hf
  obtain ⟨u, hu, hf⟩ := bdS hf
  refine r_aload_n X (x := k.b + (197)) dL_pass_0 rfl ?_
  refine r_iconst X (v := 0) dL_pass_1 rfl ?_
  refine r_aload_n X (x := k.b + (0)) dL_pass_2 rfl ?_
  refine r_iload_n X (x := x1) dL_pass_3 rfl ?_
  refine r_callX X hT [.int x1] [.int 0, .ref (k.b + (197))] (K9_pass hu) lkL_35 clsX9 rfl _ o_main (rle (by decide) (Nat.le_of_ble_eq_true rfl)) rfl rfl (Nat.le_of_ble_eq_true rfl) (Nat.le_of_ble_eq_true rfl) rfl rfl (Nat.le_of_ble_eq_true rfl) rfl dL_pass_4 ?_ ?_
  · intro e qx he he4
    rcases hu1 : u.1 with v | e1
    · rw [hu1] at he
      cases he
    · rw [hu1] at he hf
      cases he
      replace hf : (if e = 1 then some (1, u.2.1, u.2.2, ou) else none) = some r := hf
      by_cases c1 : e = 1
      · replace hf := ifT hf c1
        subst c1
        refine ⟨12, hxL_pass_1, ?_⟩
        refine r_astore_n X [some (.ref (k.b + (0))), some (.int x1), some (.ref (k.b + (197))), some (.ref qx)] dL_pass_12 (Nat.le_of_ble_eq_true rfl) rfl ?_
        refine r_iconst X (v := 1) dL_pass_13 rfl ?_
        obtain rfl := Option.some.inj hf
        exact r_ireturn X hQ rfl rfl (Nat.le_of_ble_eq_true rfl) (Nat.le_of_ble_eq_true rfl) dL_pass_14
      replace hf := ifF hf c1
      cases hf
  · intro o ho
    rcases hu1 : u.1 with v | e1
    · rw [hu1] at ho hf
      cases ho
      replace hf : (some (0, u.2.1, u.2.2, vp_updL ou (ix 0) v.toInt64)) = some r := hf
      show VW k z 1 6 (wAll k T R ly rc hn rp u.2.1 ee u.2.2 w aside thought fresh mu th mp mf mh mg ou od) 7 [some (.ref (k.b + (0))), some (.int x1), some (.ref (k.b + (197))), none] (.int v :: [.int 0, .ref (k.b + (197))])
      refine r_i2l X dL_pass_7 ?_
      refine r_lastore X (f := ou) (ws1 := wAll k T R ly rc hn rp u.2.1 ee u.2.2 w aside thought fresh mu th mp mf mh mg (vp_updL ou (ix 0) v.toInt64) od) _ a_m_ou (by decide) (s_ou (vp_updL ou (ix 0) v.toInt64)) dL_pass_8 ?_
      refine r_goto X 15 dL_pass_9 rfl ?_
      refine r_iconst X (v := 0) dL_pass_15 rfl ?_
      obtain rfl := Option.some.inj hf
      exact r_ireturn X hQ rfl rfl (Nat.le_of_ble_eq_true rfl) (Nat.le_of_ble_eq_true rfl) dL_pass_16
    · rw [hu1] at ho
      cases ho
def hhL_passUntil : List (Nat × Nat × Nat × Nat) := [(0, 10, 13, 24), (0, 10, 17, 19), (0, 10, 21, 13)]
theorem hxL_passUntil_2 : HX RL hhL_passUntil 5 2 13 := ⟨[], (0, 10, 13, 24), [(0, 10, 17, 19), (0, 10, 21, 13)], rfl, (fun z hz => by cases hz), by decide, by decide, clL_24, csT_2, rfl⟩
theorem hxL_passUntil_1 : HX RL hhL_passUntil 5 1 17 := ⟨[(0, 10, 13, 24)], (0, 10, 17, 19), [(0, 10, 21, 13)], rfl, (fun z hz => by
    rcases List.mem_singleton.mp hz with rfl
    exact Or.inr ⟨by decide, 2, by decide, by decide, clL_24⟩), by decide, by decide, clL_19, csT_1, rfl⟩
theorem hxL_passUntil_0 : HX RL hhL_passUntil 5 0 21 := ⟨[(0, 10, 13, 24), (0, 10, 17, 19)], (0, 10, 21, 13), [], rfl, (fun z hz => by
    rcases List.mem_cons.mp hz with rfl | hz
    · exact Or.inr ⟨by decide, 2, by decide, by decide, clL_24⟩
    · rcases List.mem_singleton.mp hz with rfl
      exact Or.inr ⟨by decide, 1, by decide, by decide, clL_19⟩), by decide, by decide, clL_13, csT_0, rfl⟩
set_option maxRecDepth 100000 in
theorem lkL_passUntil : LKW RL 198 yL_passUntil cL_passUntil 5 (some .int) hhL_passUntil 4 := ⟨(gb5 8 (by decide +kernel) (by decide +kernel)), (gb5 10 rfl (by decide +kernel)), (gb1 0 (by decide +kernel) (by decide +kernel)), by decide, by decide +kernel, (gb5 9 (by decide +kernel) (by decide +kernel))⟩
set_option maxRecDepth 100000 in
set_option maxHeartbeats 4000000 in
theorem KL_passUntil {k : KT} {T : TT} {R : RR} {ly : Fin 2 → LL} {rc : RC} {hn : HN} {rp : RP} {tp : TP} {ee : EE} {st : Fin 12 → SS} {w : Nat → Int64} {aside : Nat → Int64} {thought : Nat → Int64} {fresh : Nat → Int64} {mu : MU} {th : Int32} {mp : MP} {mf : MF} {mh : MH} {mg : MG} {ou : Nat → Int64} {od : Nat → UInt64} {x1 : Int32} {x2 : Int32} {r : Int32 × (TP) × (Fin 12 → SS) × (Nat → Int64)} (hf : fL_passUntil (ly (0 : Fin 2)) tp st ou x1 x2 = some r) : CTW k strs yL_passUntil cL_passUntil 5 (some .int) hhL_passUntil (rmD 7 1 6) 1 6 [.ref (k.b + (0)), .int x1, .int x2, .ref (k.b + (197))] (wAll k T R ly rc hn rp tp ee st w aside thought fresh mu th mp mf mh mg ou od) (some (.int r.1)) (wAll k T R ly rc hn rp r.2.1 ee r.2.2.1 w aside thought fresh mu th mp mf mh mg r.2.2.2 od) := by
  refine CTW.of (by decide) (Nat.le_of_ble_eq_true rfl) ?_
  intro z X hT hQ
  show VW k z 0 0 (wAll k T R ly rc hn rp tp ee st w aside thought fresh mu th mp mf mh mg ou od) 0 [some (.ref (k.b + (0))), some (.int x1), some (.int x2), some (.ref (k.b + (197))), none] []
  unfold fL_passUntil at hf
  obtain ⟨u, hu, hf⟩ := bdS hf
  refine r_aload_n X (x := k.b + (197)) dL_passUntil_0 rfl ?_
  refine r_iconst X (v := 0) dL_passUntil_1 rfl ?_
  refine r_aload_n X (x := k.b + (0)) dL_passUntil_2 rfl ?_
  refine r_iload_n X (x := x1) dL_passUntil_3 rfl ?_
  refine r_iload_n X (x := x2) dL_passUntil_4 rfl ?_
  refine r_callX X hT [.int x1, .int x2] [.int 0, .ref (k.b + (197))] (K9_passUntil hu) lkL_38 clsX9 rfl _ o_main (rle (by decide) (Nat.le_of_ble_eq_true rfl)) rfl rfl (Nat.le_of_ble_eq_true rfl) (Nat.le_of_ble_eq_true rfl) rfl rfl (Nat.le_of_ble_eq_true rfl) rfl dL_passUntil_5 ?_ ?_
  · intro e qx he he4
    rcases hu1 : u.1 with v | e1
    · rw [hu1] at he
      cases he
    · rw [hu1] at he hf
      cases he
      replace hf : (if e = 2 then some (1, u.2.1, u.2.2, ou) else if e = 1 then some (2, u.2.1, u.2.2, ou) else if e = 0 then some (3, u.2.1, u.2.2, ou) else none) = some r := hf
      by_cases c2 : e = 2
      · replace hf := ifT hf c2
        subst c2
        refine ⟨13, hxL_passUntil_2, ?_⟩
        refine r_astore X [some (.ref (k.b + (0))), some (.int x1), some (.int x2), some (.ref (k.b + (197))), some (.ref qx)] dL_passUntil_13 (Nat.le_of_ble_eq_true rfl) rfl ?_
        refine r_iconst X (v := 1) dL_passUntil_15 rfl ?_
        obtain rfl := Option.some.inj hf
        exact r_ireturn X hQ rfl rfl (Nat.le_of_ble_eq_true rfl) (Nat.le_of_ble_eq_true rfl) dL_passUntil_16
      replace hf := ifF hf c2
      by_cases c1 : e = 1
      · replace hf := ifT hf c1
        subst c1
        refine ⟨17, hxL_passUntil_1, ?_⟩
        refine r_astore X [some (.ref (k.b + (0))), some (.int x1), some (.int x2), some (.ref (k.b + (197))), some (.ref qx)] dL_passUntil_17 (Nat.le_of_ble_eq_true rfl) rfl ?_
        refine r_iconst X (v := 2) dL_passUntil_19 rfl ?_
        obtain rfl := Option.some.inj hf
        exact r_ireturn X hQ rfl rfl (Nat.le_of_ble_eq_true rfl) (Nat.le_of_ble_eq_true rfl) dL_passUntil_20
      replace hf := ifF hf c1
      by_cases c0 : e = 0
      · replace hf := ifT hf c0
        subst c0
        refine ⟨21, hxL_passUntil_0, ?_⟩
        refine r_astore X [some (.ref (k.b + (0))), some (.int x1), some (.int x2), some (.ref (k.b + (197))), some (.ref qx)] dL_passUntil_21 (Nat.le_of_ble_eq_true rfl) rfl ?_
        refine r_iconst X (v := 3) dL_passUntil_23 rfl ?_
        obtain rfl := Option.some.inj hf
        exact r_ireturn X hQ rfl rfl (Nat.le_of_ble_eq_true rfl) (Nat.le_of_ble_eq_true rfl) dL_passUntil_24
      replace hf := ifF hf c0
      cases hf
  · intro o ho
    rcases hu1 : u.1 with v | e1
    · rw [hu1] at ho hf
      cases ho
      replace hf : (some (0, u.2.1, u.2.2, vp_updL ou (ix 0) v.toInt64)) = some r := hf
      show VW k z 1 6 (wAll k T R ly rc hn rp u.2.1 ee u.2.2 w aside thought fresh mu th mp mf mh mg ou od) 8 [some (.ref (k.b + (0))), some (.int x1), some (.int x2), some (.ref (k.b + (197))), none] (.int v :: [.int 0, .ref (k.b + (197))])
      refine r_i2l X dL_passUntil_8 ?_
      refine r_lastore X (f := ou) (ws1 := wAll k T R ly rc hn rp u.2.1 ee u.2.2 w aside thought fresh mu th mp mf mh mg (vp_updL ou (ix 0) v.toInt64) od) _ a_m_ou (by decide) (s_ou (vp_updL ou (ix 0) v.toInt64)) dL_passUntil_9 ?_
      refine r_goto X 25 dL_passUntil_10 rfl ?_
      refine r_iconst X (v := 0) dL_passUntil_25 rfl ?_
      obtain rfl := Option.some.inj hf
      exact r_ireturn X hQ rfl rfl (Nat.le_of_ble_eq_true rfl) (Nat.le_of_ble_eq_true rfl) dL_passUntil_26
    · rw [hu1] at ho
      cases ho
def hhL_seal : List (Nat × Nat × Nat × Nat) := [(0, 9, 12, 24)]
theorem hxL_seal_2 : HX RL hhL_seal 4 2 12 := ⟨[], (0, 9, 12, 24), [], rfl, (fun z hz => by cases hz), by decide, by decide, clL_24, csT_2, rfl⟩
set_option maxRecDepth 100000 in
theorem lkL_seal : LKW RL 202 yL_seal cL_seal 4 (some .int) hhL_seal 3 := ⟨(gb5 18 (by decide +kernel) (by decide +kernel)), (gb5 20 rfl (by decide +kernel)), (gb1 0 (by decide +kernel) (by decide +kernel)), by decide, by decide +kernel, (gb5 19 (by decide +kernel) (by decide +kernel))⟩
set_option maxRecDepth 100000 in
set_option maxHeartbeats 4000000 in
theorem KL_seal {k : KT} {T : TT} {R : RR} {ly : Fin 2 → LL} {rc : RC} {hn : HN} {rp : RP} {tp : TP} {ee : EE} {st : Fin 12 → SS} {w : Nat → Int64} {aside : Nat → Int64} {thought : Nat → Int64} {fresh : Nat → Int64} {mu : MU} {th : Int32} {mp : MP} {mf : MF} {mh : MH} {mg : MG} {ou : Nat → Int64} {od : Nat → UInt64} {x1 : Int32} {r : Int32 × (TP) × (Fin 12 → SS) × (Nat → Int64)} (hf : fL_seal (ly (0 : Fin 2)) tp st ou x1 = some r) : CTW k strs yL_seal cL_seal 4 (some .int) hhL_seal (rmD 7 1 6) 1 6 [.ref (k.b + (0)), .int x1, .ref (k.b + (197))] (wAll k T R ly rc hn rp tp ee st w aside thought fresh mu th mp mf mh mg ou od) (some (.int r.1)) (wAll k T R ly rc hn rp r.2.1 ee r.2.2.1 w aside thought fresh mu th mp mf mh mg r.2.2.2 od) := by
  refine CTW.of (by decide) (Nat.le_of_ble_eq_true rfl) ?_
  intro z X hT hQ
  show VW k z 0 0 (wAll k T R ly rc hn rp tp ee st w aside thought fresh mu th mp mf mh mg ou od) 0 [some (.ref (k.b + (0))), some (.int x1), some (.ref (k.b + (197))), none] []
  unfold fL_seal at hf
  obtain ⟨u, hu, hf⟩ := bdS hf
  refine r_aload_n X (x := k.b + (197)) dL_seal_0 rfl ?_
  refine r_iconst X (v := 0) dL_seal_1 rfl ?_
  refine r_aload_n X (x := k.b + (0)) dL_seal_2 rfl ?_
  refine r_iload_n X (x := x1) dL_seal_3 rfl ?_
  refine r_callX X hT [.int x1] [.int 0, .ref (k.b + (197))] (K9_seal hu) lkL_42 clsX9 rfl _ o_main (rle (by decide) (Nat.le_of_ble_eq_true rfl)) rfl rfl (Nat.le_of_ble_eq_true rfl) (Nat.le_of_ble_eq_true rfl) rfl rfl (Nat.le_of_ble_eq_true rfl) rfl dL_seal_4 ?_ ?_
  · intro e qx he he4
    rcases hu1 : u.1 with v | e1
    · rw [hu1] at he
      cases he
    · rw [hu1] at he hf
      cases he
      replace hf : (if e = 2 then some (1, u.2.1, u.2.2, ou) else none) = some r := hf
      by_cases c2 : e = 2
      · replace hf := ifT hf c2
        subst c2
        refine ⟨12, hxL_seal_2, ?_⟩
        refine r_astore_n X [some (.ref (k.b + (0))), some (.int x1), some (.ref (k.b + (197))), some (.ref qx)] dL_seal_12 (Nat.le_of_ble_eq_true rfl) rfl ?_
        refine r_iconst X (v := 1) dL_seal_13 rfl ?_
        obtain rfl := Option.some.inj hf
        exact r_ireturn X hQ rfl rfl (Nat.le_of_ble_eq_true rfl) (Nat.le_of_ble_eq_true rfl) dL_seal_14
      replace hf := ifF hf c2
      cases hf
  · intro o ho
    rcases hu1 : u.1 with v | e1
    · rw [hu1] at ho hf
      cases ho
      replace hf : (some (0, u.2.1, u.2.2, vp_updL ou (ix 0) v.toInt64)) = some r := hf
      show VW k z 1 6 (wAll k T R ly rc hn rp u.2.1 ee u.2.2 w aside thought fresh mu th mp mf mh mg ou od) 7 [some (.ref (k.b + (0))), some (.int x1), some (.ref (k.b + (197))), none] (.int v :: [.int 0, .ref (k.b + (197))])
      refine r_i2l X dL_seal_7 ?_
      refine r_lastore X (f := ou) (ws1 := wAll k T R ly rc hn rp u.2.1 ee u.2.2 w aside thought fresh mu th mp mf mh mg (vp_updL ou (ix 0) v.toInt64) od) _ a_m_ou (by decide) (s_ou (vp_updL ou (ix 0) v.toInt64)) dL_seal_8 ?_
      refine r_goto X 15 dL_seal_9 rfl ?_
      refine r_iconst X (v := 0) dL_seal_15 rfl ?_
      obtain rfl := Option.some.inj hf
      exact r_ireturn X hQ rfl rfl (Nat.le_of_ble_eq_true rfl) (Nat.le_of_ble_eq_true rfl) dL_seal_16
    · rw [hu1] at ho
      cases ho
def hhL_setLeak : List (Nat × Nat × Nat × Nat) := [(0, 10, 13, 24), (0, 10, 17, 19)]
theorem hxL_setLeak_2 : HX RL hhL_setLeak 5 2 13 := ⟨[], (0, 10, 13, 24), [(0, 10, 17, 19)], rfl, (fun z hz => by cases hz), by decide, by decide, clL_24, csT_2, rfl⟩
theorem hxL_setLeak_1 : HX RL hhL_setLeak 5 1 17 := ⟨[(0, 10, 13, 24)], (0, 10, 17, 19), [], rfl, (fun z hz => by
    rcases List.mem_singleton.mp hz with rfl
    exact Or.inr ⟨by decide, 2, by decide, by decide, clL_24⟩), by decide, by decide, clL_19, csT_1, rfl⟩
set_option maxRecDepth 100000 in
theorem lkL_setLeak : LKW RL 205 yL_setLeak cL_setLeak 5 (some .int) hhL_setLeak 4 := ⟨(gb5 31 (by decide +kernel) (by decide +kernel)), (gb5 33 rfl (by decide +kernel)), (gb1 0 (by decide +kernel) (by decide +kernel)), by decide, by decide +kernel, (gb5 32 (by decide +kernel) (by decide +kernel))⟩
set_option maxRecDepth 100000 in
set_option maxHeartbeats 4000000 in
theorem KL_setLeak {k : KT} {T : TT} {R : RR} {ly : Fin 2 → LL} {rc : RC} {hn : HN} {rp : RP} {tp : TP} {ee : EE} {st : Fin 12 → SS} {w : Nat → Int64} {aside : Nat → Int64} {thought : Nat → Int64} {fresh : Nat → Int64} {mu : MU} {th : Int32} {mp : MP} {mf : MF} {mh : MH} {mg : MG} {ou : Nat → Int64} {od : Nat → UInt64} {x1 : Int32} {x2 : Int32} {r : Int32 × (TP) × (Fin 12 → SS) × (Nat → Int64)} (hf : fL_setLeak (ly (0 : Fin 2)) tp st ou x1 x2 = some r) : CTW k strs yL_setLeak cL_setLeak 5 (some .int) hhL_setLeak (rmD 7 1 6) 1 6 [.ref (k.b + (0)), .int x1, .int x2, .ref (k.b + (197))] (wAll k T R ly rc hn rp tp ee st w aside thought fresh mu th mp mf mh mg ou od) (some (.int r.1)) (wAll k T R ly rc hn rp r.2.1 ee r.2.2.1 w aside thought fresh mu th mp mf mh mg r.2.2.2 od) := by
  refine CTW.of (by decide) (Nat.le_of_ble_eq_true rfl) ?_
  intro z X hT hQ
  show VW k z 0 0 (wAll k T R ly rc hn rp tp ee st w aside thought fresh mu th mp mf mh mg ou od) 0 [some (.ref (k.b + (0))), some (.int x1), some (.int x2), some (.ref (k.b + (197))), none] []
  unfold fL_setLeak at hf
  obtain ⟨u, hu, hf⟩ := bdS hf
  refine r_aload_n X (x := k.b + (197)) dL_setLeak_0 rfl ?_
  refine r_iconst X (v := 0) dL_setLeak_1 rfl ?_
  refine r_aload_n X (x := k.b + (0)) dL_setLeak_2 rfl ?_
  refine r_iload_n X (x := x1) dL_setLeak_3 rfl ?_
  refine r_iload_n X (x := x2) dL_setLeak_4 rfl ?_
  refine r_callX X hT [.int x1, .int x2] [.int 0, .ref (k.b + (197))] (K9_setLeak hu) lkL_45 clsX9 rfl _ o_main (rle (by decide) (Nat.le_of_ble_eq_true rfl)) rfl rfl (Nat.le_of_ble_eq_true rfl) (Nat.le_of_ble_eq_true rfl) rfl rfl (Nat.le_of_ble_eq_true rfl) rfl dL_setLeak_5 ?_ ?_
  · intro e qx he he4
    rcases hu1 : u.1 with v | e1
    · rw [hu1] at he
      cases he
    · rw [hu1] at he hf
      cases he
      replace hf : (if e = 2 then some (1, u.2.1, u.2.2, ou) else if e = 1 then some (2, u.2.1, u.2.2, ou) else none) = some r := hf
      by_cases c2 : e = 2
      · replace hf := ifT hf c2
        subst c2
        refine ⟨13, hxL_setLeak_2, ?_⟩
        refine r_astore X [some (.ref (k.b + (0))), some (.int x1), some (.int x2), some (.ref (k.b + (197))), some (.ref qx)] dL_setLeak_13 (Nat.le_of_ble_eq_true rfl) rfl ?_
        refine r_iconst X (v := 1) dL_setLeak_15 rfl ?_
        obtain rfl := Option.some.inj hf
        exact r_ireturn X hQ rfl rfl (Nat.le_of_ble_eq_true rfl) (Nat.le_of_ble_eq_true rfl) dL_setLeak_16
      replace hf := ifF hf c2
      by_cases c1 : e = 1
      · replace hf := ifT hf c1
        subst c1
        refine ⟨17, hxL_setLeak_1, ?_⟩
        refine r_astore X [some (.ref (k.b + (0))), some (.int x1), some (.int x2), some (.ref (k.b + (197))), some (.ref qx)] dL_setLeak_17 (Nat.le_of_ble_eq_true rfl) rfl ?_
        refine r_iconst X (v := 2) dL_setLeak_19 rfl ?_
        obtain rfl := Option.some.inj hf
        exact r_ireturn X hQ rfl rfl (Nat.le_of_ble_eq_true rfl) (Nat.le_of_ble_eq_true rfl) dL_setLeak_20
      replace hf := ifF hf c1
      cases hf
  · intro o ho
    rcases hu1 : u.1 with v | e1
    · rw [hu1] at ho hf
      cases ho
      replace hf : (some (0, u.2.1, u.2.2, vp_updL ou (ix 0) v.toInt64)) = some r := hf
      show VW k z 1 6 (wAll k T R ly rc hn rp u.2.1 ee u.2.2 w aside thought fresh mu th mp mf mh mg ou od) 8 [some (.ref (k.b + (0))), some (.int x1), some (.int x2), some (.ref (k.b + (197))), none] (.int v :: [.int 0, .ref (k.b + (197))])
      refine r_i2l X dL_setLeak_8 ?_
      refine r_lastore X (f := ou) (ws1 := wAll k T R ly rc hn rp u.2.1 ee u.2.2 w aside thought fresh mu th mp mf mh mg (vp_updL ou (ix 0) v.toInt64) od) _ a_m_ou (by decide) (s_ou (vp_updL ou (ix 0) v.toInt64)) dL_setLeak_9 ?_
      refine r_goto X 21 dL_setLeak_10 rfl ?_
      refine r_iconst X (v := 0) dL_setLeak_21 rfl ?_
      obtain rfl := Option.some.inj hf
      exact r_ireturn X hQ rfl rfl (Nat.le_of_ble_eq_true rfl) (Nat.le_of_ble_eq_true rfl) dL_setLeak_22
    · rw [hu1] at ho
      cases ho
def hhL_setOutgassing : List (Nat × Nat × Nat × Nat) := [(0, 10, 13, 24), (0, 10, 17, 19)]
theorem hxL_setOutgassing_2 : HX RL hhL_setOutgassing 5 2 13 := ⟨[], (0, 10, 13, 24), [(0, 10, 17, 19)], rfl, (fun z hz => by cases hz), by decide, by decide, clL_24, csT_2, rfl⟩
theorem hxL_setOutgassing_1 : HX RL hhL_setOutgassing 5 1 17 := ⟨[(0, 10, 13, 24)], (0, 10, 17, 19), [], rfl, (fun z hz => by
    rcases List.mem_singleton.mp hz with rfl
    exact Or.inr ⟨by decide, 2, by decide, by decide, clL_24⟩), by decide, by decide, clL_19, csT_1, rfl⟩
set_option maxRecDepth 100000 in
theorem lkL_setOutgassing : LKW RL 208 yL_setOutgassing cL_setOutgassing 5 (some .int) hhL_setOutgassing 4 := ⟨(gb5 38 (by decide +kernel) (by decide +kernel)), (gb5 40 rfl (by decide +kernel)), (gb1 0 (by decide +kernel) (by decide +kernel)), by decide, by decide +kernel, (gb5 39 (by decide +kernel) (by decide +kernel))⟩
set_option maxRecDepth 100000 in
set_option maxHeartbeats 4000000 in
theorem KL_setOutgassing {k : KT} {T : TT} {R : RR} {ly : Fin 2 → LL} {rc : RC} {hn : HN} {rp : RP} {tp : TP} {ee : EE} {st : Fin 12 → SS} {w : Nat → Int64} {aside : Nat → Int64} {thought : Nat → Int64} {fresh : Nat → Int64} {mu : MU} {th : Int32} {mp : MP} {mf : MF} {mh : MH} {mg : MG} {ou : Nat → Int64} {od : Nat → UInt64} {x1 : Int32} {x2 : Int32} {r : Int32 × (TP) × (Fin 12 → SS) × (Nat → Int64)} (hf : fL_setOutgassing (ly (0 : Fin 2)) tp st ou x1 x2 = some r) : CTW k strs yL_setOutgassing cL_setOutgassing 5 (some .int) hhL_setOutgassing (rmD 7 1 6) 1 6 [.ref (k.b + (0)), .int x1, .int x2, .ref (k.b + (197))] (wAll k T R ly rc hn rp tp ee st w aside thought fresh mu th mp mf mh mg ou od) (some (.int r.1)) (wAll k T R ly rc hn rp r.2.1 ee r.2.2.1 w aside thought fresh mu th mp mf mh mg r.2.2.2 od) := by
  refine CTW.of (by decide) (Nat.le_of_ble_eq_true rfl) ?_
  intro z X hT hQ
  show VW k z 0 0 (wAll k T R ly rc hn rp tp ee st w aside thought fresh mu th mp mf mh mg ou od) 0 [some (.ref (k.b + (0))), some (.int x1), some (.int x2), some (.ref (k.b + (197))), none] []
  unfold fL_setOutgassing at hf
  obtain ⟨u, hu, hf⟩ := bdS hf
  refine r_aload_n X (x := k.b + (197)) dL_setOutgassing_0 rfl ?_
  refine r_iconst X (v := 0) dL_setOutgassing_1 rfl ?_
  refine r_aload_n X (x := k.b + (0)) dL_setOutgassing_2 rfl ?_
  refine r_iload_n X (x := x1) dL_setOutgassing_3 rfl ?_
  refine r_iload_n X (x := x2) dL_setOutgassing_4 rfl ?_
  refine r_callX X hT [.int x1, .int x2] [.int 0, .ref (k.b + (197))] (K9_setOutgassing hu) lkL_48 clsX9 rfl _ o_main (rle (by decide) (Nat.le_of_ble_eq_true rfl)) rfl rfl (Nat.le_of_ble_eq_true rfl) (Nat.le_of_ble_eq_true rfl) rfl rfl (Nat.le_of_ble_eq_true rfl) rfl dL_setOutgassing_5 ?_ ?_
  · intro e qx he he4
    rcases hu1 : u.1 with v | e1
    · rw [hu1] at he
      cases he
    · rw [hu1] at he hf
      cases he
      replace hf : (if e = 2 then some (1, u.2.1, u.2.2, ou) else if e = 1 then some (2, u.2.1, u.2.2, ou) else none) = some r := hf
      by_cases c2 : e = 2
      · replace hf := ifT hf c2
        subst c2
        refine ⟨13, hxL_setOutgassing_2, ?_⟩
        refine r_astore X [some (.ref (k.b + (0))), some (.int x1), some (.int x2), some (.ref (k.b + (197))), some (.ref qx)] dL_setOutgassing_13 (Nat.le_of_ble_eq_true rfl) rfl ?_
        refine r_iconst X (v := 1) dL_setOutgassing_15 rfl ?_
        obtain rfl := Option.some.inj hf
        exact r_ireturn X hQ rfl rfl (Nat.le_of_ble_eq_true rfl) (Nat.le_of_ble_eq_true rfl) dL_setOutgassing_16
      replace hf := ifF hf c2
      by_cases c1 : e = 1
      · replace hf := ifT hf c1
        subst c1
        refine ⟨17, hxL_setOutgassing_1, ?_⟩
        refine r_astore X [some (.ref (k.b + (0))), some (.int x1), some (.int x2), some (.ref (k.b + (197))), some (.ref qx)] dL_setOutgassing_17 (Nat.le_of_ble_eq_true rfl) rfl ?_
        refine r_iconst X (v := 2) dL_setOutgassing_19 rfl ?_
        obtain rfl := Option.some.inj hf
        exact r_ireturn X hQ rfl rfl (Nat.le_of_ble_eq_true rfl) (Nat.le_of_ble_eq_true rfl) dL_setOutgassing_20
      replace hf := ifF hf c1
      cases hf
  · intro o ho
    rcases hu1 : u.1 with v | e1
    · rw [hu1] at ho hf
      cases ho
      replace hf : (some (0, u.2.1, u.2.2, vp_updL ou (ix 0) v.toInt64)) = some r := hf
      show VW k z 1 6 (wAll k T R ly rc hn rp u.2.1 ee u.2.2 w aside thought fresh mu th mp mf mh mg ou od) 8 [some (.ref (k.b + (0))), some (.int x1), some (.int x2), some (.ref (k.b + (197))), none] (.int v :: [.int 0, .ref (k.b + (197))])
      refine r_i2l X dL_setOutgassing_8 ?_
      refine r_lastore X (f := ou) (ws1 := wAll k T R ly rc hn rp u.2.1 ee u.2.2 w aside thought fresh mu th mp mf mh mg (vp_updL ou (ix 0) v.toInt64) od) _ a_m_ou (by decide) (s_ou (vp_updL ou (ix 0) v.toInt64)) dL_setOutgassing_9 ?_
      refine r_goto X 21 dL_setOutgassing_10 rfl ?_
      refine r_iconst X (v := 0) dL_setOutgassing_21 rfl ?_
      obtain rfl := Option.some.inj hf
      exact r_ireturn X hQ rfl rfl (Nat.le_of_ble_eq_true rfl) (Nat.le_of_ble_eq_true rfl) dL_setOutgassing_22
    · rw [hu1] at ho
      cases ho
def hhL_setRule : List (Nat × Nat × Nat × Nat) := [(0, 10, 13, 24), (0, 10, 17, 19)]
theorem hxL_setRule_2 : HX RL hhL_setRule 5 2 13 := ⟨[], (0, 10, 13, 24), [(0, 10, 17, 19)], rfl, (fun z hz => by cases hz), by decide, by decide, clL_24, csT_2, rfl⟩
theorem hxL_setRule_1 : HX RL hhL_setRule 5 1 17 := ⟨[(0, 10, 13, 24)], (0, 10, 17, 19), [], rfl, (fun z hz => by
    rcases List.mem_singleton.mp hz with rfl
    exact Or.inr ⟨by decide, 2, by decide, by decide, clL_24⟩), by decide, by decide, clL_19, csT_1, rfl⟩
set_option maxRecDepth 100000 in
theorem lkL_setRule : LKW RL 211 yL_setRule cL_setRule 5 (some .int) hhL_setRule 4 := ⟨(gb5 45 (by decide +kernel) (by decide +kernel)), (gb5 47 rfl (by decide +kernel)), (gb1 0 (by decide +kernel) (by decide +kernel)), by decide, by decide +kernel, (gb5 46 (by decide +kernel) (by decide +kernel))⟩
set_option maxRecDepth 100000 in
set_option maxHeartbeats 4000000 in
theorem KL_setRule {k : KT} {T : TT} {R : RR} {ly : Fin 2 → LL} {rc : RC} {hn : HN} {rp : RP} {tp : TP} {ee : EE} {st : Fin 12 → SS} {w : Nat → Int64} {aside : Nat → Int64} {thought : Nat → Int64} {fresh : Nat → Int64} {mu : MU} {th : Int32} {mp : MP} {mf : MF} {mh : MH} {mg : MG} {ou : Nat → Int64} {od : Nat → UInt64} {x1 : Int32} {x2 : Int32} {r : Int32 × (TP) × (Fin 12 → SS) × (Nat → Int64)} (hf : fL_setRule (ly (0 : Fin 2)) tp st ou x1 x2 = some r) : CTW k strs yL_setRule cL_setRule 5 (some .int) hhL_setRule (rmD 7 1 6) 1 6 [.ref (k.b + (0)), .int x1, .int x2, .ref (k.b + (197))] (wAll k T R ly rc hn rp tp ee st w aside thought fresh mu th mp mf mh mg ou od) (some (.int r.1)) (wAll k T R ly rc hn rp r.2.1 ee r.2.2.1 w aside thought fresh mu th mp mf mh mg r.2.2.2 od) := by
  refine CTW.of (by decide) (Nat.le_of_ble_eq_true rfl) ?_
  intro z X hT hQ
  show VW k z 0 0 (wAll k T R ly rc hn rp tp ee st w aside thought fresh mu th mp mf mh mg ou od) 0 [some (.ref (k.b + (0))), some (.int x1), some (.int x2), some (.ref (k.b + (197))), none] []
  unfold fL_setRule at hf
  obtain ⟨u, hu, hf⟩ := bdS hf
  refine r_aload_n X (x := k.b + (197)) dL_setRule_0 rfl ?_
  refine r_iconst X (v := 0) dL_setRule_1 rfl ?_
  refine r_aload_n X (x := k.b + (0)) dL_setRule_2 rfl ?_
  refine r_iload_n X (x := x1) dL_setRule_3 rfl ?_
  refine r_iload_n X (x := x2) dL_setRule_4 rfl ?_
  refine r_callX X hT [.int x1, .int x2] [.int 0, .ref (k.b + (197))] (K9_setRule hu) lkL_51 clsX9 rfl _ o_main (rle (by decide) (Nat.le_of_ble_eq_true rfl)) rfl rfl (Nat.le_of_ble_eq_true rfl) (Nat.le_of_ble_eq_true rfl) rfl rfl (Nat.le_of_ble_eq_true rfl) rfl dL_setRule_5 ?_ ?_
  · intro e qx he he4
    rcases hu1 : u.1 with v | e1
    · rw [hu1] at he
      cases he
    · rw [hu1] at he hf
      cases he
      replace hf : (if e = 2 then some (1, u.2.1, u.2.2, ou) else if e = 1 then some (2, u.2.1, u.2.2, ou) else none) = some r := hf
      by_cases c2 : e = 2
      · replace hf := ifT hf c2
        subst c2
        refine ⟨13, hxL_setRule_2, ?_⟩
        refine r_astore X [some (.ref (k.b + (0))), some (.int x1), some (.int x2), some (.ref (k.b + (197))), some (.ref qx)] dL_setRule_13 (Nat.le_of_ble_eq_true rfl) rfl ?_
        refine r_iconst X (v := 1) dL_setRule_15 rfl ?_
        obtain rfl := Option.some.inj hf
        exact r_ireturn X hQ rfl rfl (Nat.le_of_ble_eq_true rfl) (Nat.le_of_ble_eq_true rfl) dL_setRule_16
      replace hf := ifF hf c2
      by_cases c1 : e = 1
      · replace hf := ifT hf c1
        subst c1
        refine ⟨17, hxL_setRule_1, ?_⟩
        refine r_astore X [some (.ref (k.b + (0))), some (.int x1), some (.int x2), some (.ref (k.b + (197))), some (.ref qx)] dL_setRule_17 (Nat.le_of_ble_eq_true rfl) rfl ?_
        refine r_iconst X (v := 2) dL_setRule_19 rfl ?_
        obtain rfl := Option.some.inj hf
        exact r_ireturn X hQ rfl rfl (Nat.le_of_ble_eq_true rfl) (Nat.le_of_ble_eq_true rfl) dL_setRule_20
      replace hf := ifF hf c1
      cases hf
  · intro o ho
    rcases hu1 : u.1 with v | e1
    · rw [hu1] at ho hf
      cases ho
      replace hf : (some (0, u.2.1, u.2.2, vp_updL ou (ix 0) v.toInt64)) = some r := hf
      show VW k z 1 6 (wAll k T R ly rc hn rp u.2.1 ee u.2.2 w aside thought fresh mu th mp mf mh mg ou od) 8 [some (.ref (k.b + (0))), some (.int x1), some (.int x2), some (.ref (k.b + (197))), none] (.int v :: [.int 0, .ref (k.b + (197))])
      refine r_i2l X dL_setRule_8 ?_
      refine r_lastore X (f := ou) (ws1 := wAll k T R ly rc hn rp u.2.1 ee u.2.2 w aside thought fresh mu th mp mf mh mg (vp_updL ou (ix 0) v.toInt64) od) _ a_m_ou (by decide) (s_ou (vp_updL ou (ix 0) v.toInt64)) dL_setRule_9 ?_
      refine r_goto X 21 dL_setRule_10 rfl ?_
      refine r_iconst X (v := 0) dL_setRule_21 rfl ?_
      obtain rfl := Option.some.inj hf
      exact r_ireturn X hQ rfl rfl (Nat.le_of_ble_eq_true rfl) (Nat.le_of_ble_eq_true rfl) dL_setRule_22
    · rw [hu1] at ho
      cases ho
def hhL_test : List (Nat × Nat × Nat × Nat) := [(0, 10, 13, 24), (0, 10, 17, 19), (0, 10, 21, 13)]
theorem hxL_test_2 : HX RL hhL_test 5 2 13 := ⟨[], (0, 10, 13, 24), [(0, 10, 17, 19), (0, 10, 21, 13)], rfl, (fun z hz => by cases hz), by decide, by decide, clL_24, csT_2, rfl⟩
theorem hxL_test_1 : HX RL hhL_test 5 1 17 := ⟨[(0, 10, 13, 24)], (0, 10, 17, 19), [(0, 10, 21, 13)], rfl, (fun z hz => by
    rcases List.mem_singleton.mp hz with rfl
    exact Or.inr ⟨by decide, 2, by decide, by decide, clL_24⟩), by decide, by decide, clL_19, csT_1, rfl⟩
theorem hxL_test_0 : HX RL hhL_test 5 0 21 := ⟨[(0, 10, 13, 24), (0, 10, 17, 19)], (0, 10, 21, 13), [], rfl, (fun z hz => by
    rcases List.mem_cons.mp hz with rfl | hz
    · exact Or.inr ⟨by decide, 2, by decide, by decide, clL_24⟩
    · rcases List.mem_singleton.mp hz with rfl
      exact Or.inr ⟨by decide, 1, by decide, by decide, clL_19⟩), by decide, by decide, clL_13, csT_0, rfl⟩
set_option maxRecDepth 100000 in
theorem lkL_test : LKW RL 214 yL_test cL_test 5 (some .int) hhL_test 4 := ⟨(gb5 52 (by decide +kernel) (by decide +kernel)), (gb5 54 rfl (by decide +kernel)), (gb1 0 (by decide +kernel) (by decide +kernel)), by decide, by decide +kernel, (gb5 53 (by decide +kernel) (by decide +kernel))⟩
set_option maxRecDepth 100000 in
set_option maxHeartbeats 4000000 in
theorem KL_test {k : KT} {T : TT} {R : RR} {ly : Fin 2 → LL} {rc : RC} {hn : HN} {rp : RP} {tp : TP} {ee : EE} {st : Fin 12 → SS} {w : Nat → Int64} {aside : Nat → Int64} {thought : Nat → Int64} {fresh : Nat → Int64} {mu : MU} {th : Int32} {mp : MP} {mf : MF} {mh : MH} {mg : MG} {ou : Nat → Int64} {od : Nat → UInt64} {x1 : Int32} {x2 : Int32} {r : Int32 × (TP) × (Fin 12 → SS) × (Nat → Int64)} (hf : fL_test (ly (0 : Fin 2)) tp st ou x1 x2 = some r) : CTW k strs yL_test cL_test 5 (some .int) hhL_test (rmD 7 1 6) 1 6 [.ref (k.b + (0)), .int x1, .int x2, .ref (k.b + (197))] (wAll k T R ly rc hn rp tp ee st w aside thought fresh mu th mp mf mh mg ou od) (some (.int r.1)) (wAll k T R ly rc hn rp r.2.1 ee r.2.2.1 w aside thought fresh mu th mp mf mh mg r.2.2.2 od) := by
  refine CTW.of (by decide) (Nat.le_of_ble_eq_true rfl) ?_
  intro z X hT hQ
  show VW k z 0 0 (wAll k T R ly rc hn rp tp ee st w aside thought fresh mu th mp mf mh mg ou od) 0 [some (.ref (k.b + (0))), some (.int x1), some (.int x2), some (.ref (k.b + (197))), none] []
  unfold fL_test at hf
  obtain ⟨u, hu, hf⟩ := bdS hf
  refine r_aload_n X (x := k.b + (197)) dL_test_0 rfl ?_
  refine r_iconst X (v := 0) dL_test_1 rfl ?_
  refine r_aload_n X (x := k.b + (0)) dL_test_2 rfl ?_
  refine r_iload_n X (x := x1) dL_test_3 rfl ?_
  refine r_iload_n X (x := x2) dL_test_4 rfl ?_
  refine r_callX X hT [.int x1, .int x2] [.int 0, .ref (k.b + (197))] (K9_test hu) lkL_54 clsX9 rfl _ o_main (rle (by decide) (Nat.le_of_ble_eq_true rfl)) rfl rfl (Nat.le_of_ble_eq_true rfl) (Nat.le_of_ble_eq_true rfl) rfl rfl (Nat.le_of_ble_eq_true rfl) rfl dL_test_5 ?_ ?_
  · intro e qx he he4
    rcases hu1 : u.1 with v | e1
    · rw [hu1] at he
      cases he
    · rw [hu1] at he hf
      cases he
      replace hf : (if e = 2 then some (1, u.2.1, u.2.2, ou) else if e = 1 then some (2, u.2.1, u.2.2, ou) else if e = 0 then some (3, u.2.1, u.2.2, ou) else none) = some r := hf
      by_cases c2 : e = 2
      · replace hf := ifT hf c2
        subst c2
        refine ⟨13, hxL_test_2, ?_⟩
        refine r_astore X [some (.ref (k.b + (0))), some (.int x1), some (.int x2), some (.ref (k.b + (197))), some (.ref qx)] dL_test_13 (Nat.le_of_ble_eq_true rfl) rfl ?_
        refine r_iconst X (v := 1) dL_test_15 rfl ?_
        obtain rfl := Option.some.inj hf
        exact r_ireturn X hQ rfl rfl (Nat.le_of_ble_eq_true rfl) (Nat.le_of_ble_eq_true rfl) dL_test_16
      replace hf := ifF hf c2
      by_cases c1 : e = 1
      · replace hf := ifT hf c1
        subst c1
        refine ⟨17, hxL_test_1, ?_⟩
        refine r_astore X [some (.ref (k.b + (0))), some (.int x1), some (.int x2), some (.ref (k.b + (197))), some (.ref qx)] dL_test_17 (Nat.le_of_ble_eq_true rfl) rfl ?_
        refine r_iconst X (v := 2) dL_test_19 rfl ?_
        obtain rfl := Option.some.inj hf
        exact r_ireturn X hQ rfl rfl (Nat.le_of_ble_eq_true rfl) (Nat.le_of_ble_eq_true rfl) dL_test_20
      replace hf := ifF hf c1
      by_cases c0 : e = 0
      · replace hf := ifT hf c0
        subst c0
        refine ⟨21, hxL_test_0, ?_⟩
        refine r_astore X [some (.ref (k.b + (0))), some (.int x1), some (.int x2), some (.ref (k.b + (197))), some (.ref qx)] dL_test_21 (Nat.le_of_ble_eq_true rfl) rfl ?_
        refine r_iconst X (v := 3) dL_test_23 rfl ?_
        obtain rfl := Option.some.inj hf
        exact r_ireturn X hQ rfl rfl (Nat.le_of_ble_eq_true rfl) (Nat.le_of_ble_eq_true rfl) dL_test_24
      replace hf := ifF hf c0
      cases hf
  · intro o ho
    rcases hu1 : u.1 with v | e1
    · rw [hu1] at ho hf
      cases ho
      replace hf : (some (0, u.2.1, u.2.2, vp_updL ou (ix 0) v.toInt64)) = some r := hf
      show VW k z 1 6 (wAll k T R ly rc hn rp u.2.1 ee u.2.2 w aside thought fresh mu th mp mf mh mg ou od) 8 [some (.ref (k.b + (0))), some (.int x1), some (.int x2), some (.ref (k.b + (197))), none] (.int v :: [.int 0, .ref (k.b + (197))])
      refine r_i2l X dL_test_8 ?_
      refine r_lastore X (f := ou) (ws1 := wAll k T R ly rc hn rp u.2.1 ee u.2.2 w aside thought fresh mu th mp mf mh mg (vp_updL ou (ix 0) v.toInt64) od) _ a_m_ou (by decide) (s_ou (vp_updL ou (ix 0) v.toInt64)) dL_test_9 ?_
      refine r_goto X 25 dL_test_10 rfl ?_
      refine r_iconst X (v := 0) dL_test_25 rfl ?_
      obtain rfl := Option.some.inj hf
      exact r_ireturn X hQ rfl rfl (Nat.le_of_ble_eq_true rfl) (Nat.le_of_ble_eq_true rfl) dL_test_26
    · rw [hu1] at ho
      cases ho
def hhL_count : List (Nat × Nat × Nat × Nat) := [(0, 9, 12, 19)]
theorem hxL_count_1 : HX RL hhL_count 4 1 12 := ⟨[], (0, 9, 12, 19), [], rfl, (fun z hz => by cases hz), by decide, by decide, clL_19, csT_1, rfl⟩
set_option maxRecDepth 100000 in
theorem lkL_count : LKW RL 221 yL_count cL_count 4 (some .int) hhL_count 3 := ⟨(gb5 62 (by decide +kernel) (by decide +kernel)), (gb5 64 rfl (by decide +kernel)), (gb1 0 (by decide +kernel) (by decide +kernel)), by decide, by decide +kernel, (gb5 63 (by decide +kernel) (by decide +kernel))⟩
set_option maxRecDepth 100000 in
set_option maxHeartbeats 4000000 in
theorem KL_count {k : KT} {T : TT} {R : RR} {ly : Fin 2 → LL} {rc : RC} {hn : HN} {rp : RP} {tp : TP} {ee : EE} {st : Fin 12 → SS} {w : Nat → Int64} {aside : Nat → Int64} {thought : Nat → Int64} {fresh : Nat → Int64} {mu : MU} {th : Int32} {mp : MP} {mf : MF} {mh : MH} {mg : MG} {ou : Nat → Int64} {od : Nat → UInt64} {x1 : Int32} {r : Int32 × (Nat → Int64)} (hf : fL_count (ly (0 : Fin 2)) tp st ou x1 = some r) : CTW k strs yL_count cL_count 4 (some .int) hhL_count (rmD 7 1 6) 1 6 [.ref (k.b + (0)), .int x1, .ref (k.b + (197))] (wAll k T R ly rc hn rp tp ee st w aside thought fresh mu th mp mf mh mg ou od) (some (.int r.1)) (wAll k T R ly rc hn rp tp ee st w aside thought fresh mu th mp mf mh mg r.2 od) := by
  refine CTW.of (by decide) (Nat.le_of_ble_eq_true rfl) ?_
  intro z X hT hQ
  show VW k z 0 0 (wAll k T R ly rc hn rp tp ee st w aside thought fresh mu th mp mf mh mg ou od) 0 [some (.ref (k.b + (0))), some (.int x1), some (.ref (k.b + (197))), none] []
  unfold fL_count at hf
  obtain ⟨u, hu, hf⟩ := bdS hf
  refine r_aload_n X (x := k.b + (197)) dL_count_0 rfl ?_
  refine r_iconst X (v := 0) dL_count_1 rfl ?_
  refine r_aload_n X (x := k.b + (0)) dL_count_2 rfl ?_
  refine r_iload_n X (x := x1) dL_count_3 rfl ?_
  refine r_callX X hT [.int x1] [.int 0, .ref (k.b + (197))] (K9_count hu) lkL_57 clsX9 rfl _ o_main (rle (by decide) (Nat.le_of_ble_eq_true rfl)) rfl rfl (Nat.le_of_ble_eq_true rfl) (Nat.le_of_ble_eq_true rfl) rfl rfl (Nat.le_of_ble_eq_true rfl) rfl dL_count_4 ?_ ?_
  · intro e qx he he4
    rcases hu1 : u with v | e1
    · rw [hu1] at he
      cases he
    · rw [hu1] at he hf
      cases he
      replace hf : (if e = 1 then some (1, ou) else none) = some r := hf
      by_cases c1 : e = 1
      · replace hf := ifT hf c1
        subst c1
        refine ⟨12, hxL_count_1, ?_⟩
        refine r_astore_n X [some (.ref (k.b + (0))), some (.int x1), some (.ref (k.b + (197))), some (.ref qx)] dL_count_12 (Nat.le_of_ble_eq_true rfl) rfl ?_
        refine r_iconst X (v := 1) dL_count_13 rfl ?_
        obtain rfl := Option.some.inj hf
        exact r_ireturn X hQ rfl rfl (Nat.le_of_ble_eq_true rfl) (Nat.le_of_ble_eq_true rfl) dL_count_14
      replace hf := ifF hf c1
      cases hf
  · intro o ho
    rcases hu1 : u with v | e1
    · rw [hu1] at ho hf
      cases ho
      replace hf : (some (0, vp_updL ou (ix 0) v.toInt64)) = some r := hf
      show VW k z 1 6 (wAll k T R ly rc hn rp tp ee st w aside thought fresh mu th mp mf mh mg ou od) 7 [some (.ref (k.b + (0))), some (.int x1), some (.ref (k.b + (197))), none] (.int v :: [.int 0, .ref (k.b + (197))])
      refine r_i2l X dL_count_7 ?_
      refine r_lastore X (f := ou) (ws1 := wAll k T R ly rc hn rp tp ee st w aside thought fresh mu th mp mf mh mg (vp_updL ou (ix 0) v.toInt64) od) _ a_m_ou (by decide) (s_ou (vp_updL ou (ix 0) v.toInt64)) dL_count_8 ?_
      refine r_goto X 15 dL_count_9 rfl ?_
      refine r_iconst X (v := 0) dL_count_15 rfl ?_
      obtain rfl := Option.some.inj hf
      exact r_ireturn X hQ rfl rfl (Nat.le_of_ble_eq_true rfl) (Nat.le_of_ble_eq_true rfl) dL_count_16
    · rw [hu1] at ho
      cases ho
def hhL_chamber : List (Nat × Nat × Nat × Nat) := [(0, 10, 13, 24), (0, 10, 17, 19)]
theorem hxL_chamber_2 : HX RL hhL_chamber 5 2 13 := ⟨[], (0, 10, 13, 24), [(0, 10, 17, 19)], rfl, (fun z hz => by cases hz), by decide, by decide, clL_24, csT_2, rfl⟩
theorem hxL_chamber_1 : HX RL hhL_chamber 5 1 17 := ⟨[(0, 10, 13, 24)], (0, 10, 17, 19), [], rfl, (fun z hz => by
    rcases List.mem_singleton.mp hz with rfl
    exact Or.inr ⟨by decide, 2, by decide, by decide, clL_24⟩), by decide, by decide, clL_19, csT_1, rfl⟩
set_option maxRecDepth 100000 in
theorem lkL_chamber : LKW RL 224 yL_chamber cL_chamber 5 (some .int) hhL_chamber 4 := ⟨(gb5 72 (by decide +kernel) (by decide +kernel)), (gb5 74 rfl (by decide +kernel)), (gb1 0 (by decide +kernel) (by decide +kernel)), by decide, by decide +kernel, (gb5 73 (by decide +kernel) (by decide +kernel))⟩
set_option maxRecDepth 100000 in
set_option maxHeartbeats 4000000 in
theorem KL_chamber {k : KT} {T : TT} {R : RR} {ly : Fin 2 → LL} {rc : RC} {hn : HN} {rp : RP} {tp : TP} {ee : EE} {st : Fin 12 → SS} {w : Nat → Int64} {aside : Nat → Int64} {thought : Nat → Int64} {fresh : Nat → Int64} {mu : MU} {th : Int32} {mp : MP} {mf : MF} {mh : MH} {mg : MG} {ou : Nat → Int64} {od : Nat → UInt64} {x1 : Int32} {x2 : Int32} {r : Int32 × (Nat → Int64)} (hf : fL_chamber (ly (0 : Fin 2)) tp st ou x1 x2 = some r) : CTW k strs yL_chamber cL_chamber 5 (some .int) hhL_chamber (rmD 7 1 6) 1 6 [.ref (k.b + (0)), .int x1, .int x2, .ref (k.b + (197))] (wAll k T R ly rc hn rp tp ee st w aside thought fresh mu th mp mf mh mg ou od) (some (.int r.1)) (wAll k T R ly rc hn rp tp ee st w aside thought fresh mu th mp mf mh mg r.2 od) := by
  refine CTW.of (by decide) (Nat.le_of_ble_eq_true rfl) ?_
  intro z X hT hQ
  show VW k z 0 0 (wAll k T R ly rc hn rp tp ee st w aside thought fresh mu th mp mf mh mg ou od) 0 [some (.ref (k.b + (0))), some (.int x1), some (.int x2), some (.ref (k.b + (197))), none] []
  unfold fL_chamber at hf
  obtain ⟨u, hu, hf⟩ := bdS hf
  refine r_aload_n X (x := k.b + (197)) dL_chamber_0 rfl ?_
  refine r_iconst X (v := 0) dL_chamber_1 rfl ?_
  refine r_aload_n X (x := k.b + (0)) dL_chamber_2 rfl ?_
  refine r_iload_n X (x := x1) dL_chamber_3 rfl ?_
  refine r_iload_n X (x := x2) dL_chamber_4 rfl ?_
  refine r_callX X hT [.int x1, .int x2] [.int 0, .ref (k.b + (197))] (K9_chamber hu) lkL_60 clsX9 rfl _ o_main (rle (by decide) (Nat.le_of_ble_eq_true rfl)) rfl rfl (Nat.le_of_ble_eq_true rfl) (Nat.le_of_ble_eq_true rfl) rfl rfl (Nat.le_of_ble_eq_true rfl) rfl dL_chamber_5 ?_ ?_
  · intro e qx he he4
    rcases hu1 : u with v | e1
    · rw [hu1] at he
      cases he
    · rw [hu1] at he hf
      cases he
      replace hf : (if e = 2 then some (1, ou) else if e = 1 then some (2, ou) else none) = some r := hf
      by_cases c2 : e = 2
      · replace hf := ifT hf c2
        subst c2
        refine ⟨13, hxL_chamber_2, ?_⟩
        refine r_astore X [some (.ref (k.b + (0))), some (.int x1), some (.int x2), some (.ref (k.b + (197))), some (.ref qx)] dL_chamber_13 (Nat.le_of_ble_eq_true rfl) rfl ?_
        refine r_iconst X (v := 1) dL_chamber_15 rfl ?_
        obtain rfl := Option.some.inj hf
        exact r_ireturn X hQ rfl rfl (Nat.le_of_ble_eq_true rfl) (Nat.le_of_ble_eq_true rfl) dL_chamber_16
      replace hf := ifF hf c2
      by_cases c1 : e = 1
      · replace hf := ifT hf c1
        subst c1
        refine ⟨17, hxL_chamber_1, ?_⟩
        refine r_astore X [some (.ref (k.b + (0))), some (.int x1), some (.int x2), some (.ref (k.b + (197))), some (.ref qx)] dL_chamber_17 (Nat.le_of_ble_eq_true rfl) rfl ?_
        refine r_iconst X (v := 2) dL_chamber_19 rfl ?_
        obtain rfl := Option.some.inj hf
        exact r_ireturn X hQ rfl rfl (Nat.le_of_ble_eq_true rfl) (Nat.le_of_ble_eq_true rfl) dL_chamber_20
      replace hf := ifF hf c1
      cases hf
  · intro o ho
    rcases hu1 : u with v | e1
    · rw [hu1] at ho hf
      cases ho
      replace hf : (some (0, vp_updL ou (ix 0) v.toInt64)) = some r := hf
      show VW k z 1 6 (wAll k T R ly rc hn rp tp ee st w aside thought fresh mu th mp mf mh mg ou od) 8 [some (.ref (k.b + (0))), some (.int x1), some (.int x2), some (.ref (k.b + (197))), none] (.int v :: [.int 0, .ref (k.b + (197))])
      refine r_i2l X dL_chamber_8 ?_
      refine r_lastore X (f := ou) (ws1 := wAll k T R ly rc hn rp tp ee st w aside thought fresh mu th mp mf mh mg (vp_updL ou (ix 0) v.toInt64) od) _ a_m_ou (by decide) (s_ou (vp_updL ou (ix 0) v.toInt64)) dL_chamber_9 ?_
      refine r_goto X 21 dL_chamber_10 rfl ?_
      refine r_iconst X (v := 0) dL_chamber_21 rfl ?_
      obtain rfl := Option.some.inj hf
      exact r_ireturn X hQ rfl rfl (Nat.le_of_ble_eq_true rfl) (Nat.le_of_ble_eq_true rfl) dL_chamber_22
    · rw [hu1] at ho
      cases ho
def hhL_gas : List (Nat × Nat × Nat × Nat) := [(0, 8, 11, 24)]
theorem hxL_gas_2 : HX RL hhL_gas 4 2 11 := ⟨[], (0, 8, 11, 24), [], rfl, (fun z hz => by cases hz), by decide, by decide, clL_24, csT_2, rfl⟩
set_option maxRecDepth 100000 in
theorem lkL_gas : LKW RL 227 yL_gas cL_gas 4 (some .int) hhL_gas 3 := ⟨(gb5 79 (by decide +kernel) (by decide +kernel)), (gb5 81 rfl (by decide +kernel)), (gb1 0 (by decide +kernel) (by decide +kernel)), by decide, by decide +kernel, (gb5 80 (by decide +kernel) (by decide +kernel))⟩
set_option maxRecDepth 100000 in
set_option maxHeartbeats 4000000 in
theorem KL_gas {k : KT} {T : TT} {R : RR} {ly : Fin 2 → LL} {rc : RC} {hn : HN} {rp : RP} {tp : TP} {ee : EE} {st : Fin 12 → SS} {w : Nat → Int64} {aside : Nat → Int64} {thought : Nat → Int64} {fresh : Nat → Int64} {mu : MU} {th : Int32} {mp : MP} {mf : MF} {mh : MH} {mg : MG} {ou : Nat → Int64} {od : Nat → UInt64} {x1 : Int32} {r : Int32 × (Nat → Int64)} (hf : fL_gas (ly (0 : Fin 2)) tp st ou x1 = some r) : CTW k strs yL_gas cL_gas 4 (some .int) hhL_gas (rmD 7 1 6) 1 6 [.ref (k.b + (0)), .int x1, .ref (k.b + (197))] (wAll k T R ly rc hn rp tp ee st w aside thought fresh mu th mp mf mh mg ou od) (some (.int r.1)) (wAll k T R ly rc hn rp tp ee st w aside thought fresh mu th mp mf mh mg r.2 od) := by
  refine CTW.of (by decide) (Nat.le_of_ble_eq_true rfl) ?_
  intro z X hT hQ
  show VW k z 0 0 (wAll k T R ly rc hn rp tp ee st w aside thought fresh mu th mp mf mh mg ou od) 0 [some (.ref (k.b + (0))), some (.int x1), some (.ref (k.b + (197))), none] []
  unfold fL_gas at hf
  obtain ⟨u, hu, hf⟩ := bdS hf
  refine r_aload_n X (x := k.b + (197)) dL_gas_0 rfl ?_
  refine r_iconst X (v := 0) dL_gas_1 rfl ?_
  refine r_aload_n X (x := k.b + (0)) dL_gas_2 rfl ?_
  refine r_iload_n X (x := x1) dL_gas_3 rfl ?_
  refine r_callX X hT [.int x1] [.int 0, .ref (k.b + (197))] (K9_gas hu) lkL_63 clsX9 rfl _ o_main (rle (by decide) (Nat.le_of_ble_eq_true rfl)) rfl rfl (Nat.le_of_ble_eq_true rfl) (Nat.le_of_ble_eq_true rfl) rfl rfl (Nat.le_of_ble_eq_true rfl) rfl dL_gas_4 ?_ ?_
  · intro e qx he he4
    rcases hu1 : u with v | e1
    · rw [hu1] at he
      cases he
    · rw [hu1] at he hf
      cases he
      replace hf : (if e = 2 then some (1, ou) else none) = some r := hf
      by_cases c2 : e = 2
      · replace hf := ifT hf c2
        subst c2
        refine ⟨11, hxL_gas_2, ?_⟩
        refine r_astore_n X [some (.ref (k.b + (0))), some (.int x1), some (.ref (k.b + (197))), some (.ref qx)] dL_gas_11 (Nat.le_of_ble_eq_true rfl) rfl ?_
        refine r_iconst X (v := 1) dL_gas_12 rfl ?_
        obtain rfl := Option.some.inj hf
        exact r_ireturn X hQ rfl rfl (Nat.le_of_ble_eq_true rfl) (Nat.le_of_ble_eq_true rfl) dL_gas_13
      replace hf := ifF hf c2
      cases hf
  · intro o ho
    rcases hu1 : u with v | e1
    · rw [hu1] at ho hf
      cases ho
      replace hf : (some (0, vp_updL ou (ix 0) v)) = some r := hf
      show VW k z 1 6 (wAll k T R ly rc hn rp tp ee st w aside thought fresh mu th mp mf mh mg ou od) 7 [some (.ref (k.b + (0))), some (.int x1), some (.ref (k.b + (197))), none] (.long v :: [.int 0, .ref (k.b + (197))])
      refine r_lastore X (f := ou) (ws1 := wAll k T R ly rc hn rp tp ee st w aside thought fresh mu th mp mf mh mg (vp_updL ou (ix 0) v) od) _ a_m_ou (by decide) (s_ou (vp_updL ou (ix 0) v)) dL_gas_7 ?_
      refine r_goto X 14 dL_gas_8 rfl ?_
      refine r_iconst X (v := 0) dL_gas_14 rfl ?_
      obtain rfl := Option.some.inj hf
      exact r_ireturn X hQ rfl rfl (Nat.le_of_ble_eq_true rfl) (Nat.le_of_ble_eq_true rfl) dL_gas_15
    · rw [hu1] at ho
      cases ho
def hhL_pump : List (Nat × Nat × Nat × Nat) := [(0, 10, 13, 24), (0, 10, 17, 19)]
theorem hxL_pump_2 : HX RL hhL_pump 5 2 13 := ⟨[], (0, 10, 13, 24), [(0, 10, 17, 19)], rfl, (fun z hz => by cases hz), by decide, by decide, clL_24, csT_2, rfl⟩
theorem hxL_pump_1 : HX RL hhL_pump 5 1 17 := ⟨[(0, 10, 13, 24)], (0, 10, 17, 19), [], rfl, (fun z hz => by
    rcases List.mem_singleton.mp hz with rfl
    exact Or.inr ⟨by decide, 2, by decide, by decide, clL_24⟩), by decide, by decide, clL_19, csT_1, rfl⟩
set_option maxRecDepth 100000 in
theorem lkL_pump : LKW RL 230 yL_pump cL_pump 5 (some .int) hhL_pump 4 := ⟨(gb5 86 (by decide +kernel) (by decide +kernel)), (gb5 88 rfl (by decide +kernel)), (gb1 0 (by decide +kernel) (by decide +kernel)), by decide, by decide +kernel, (gb5 87 (by decide +kernel) (by decide +kernel))⟩
set_option maxRecDepth 100000 in
set_option maxHeartbeats 4000000 in
theorem KL_pump {k : KT} {T : TT} {R : RR} {ly : Fin 2 → LL} {rc : RC} {hn : HN} {rp : RP} {tp : TP} {ee : EE} {st : Fin 12 → SS} {w : Nat → Int64} {aside : Nat → Int64} {thought : Nat → Int64} {fresh : Nat → Int64} {mu : MU} {th : Int32} {mp : MP} {mf : MF} {mh : MH} {mg : MG} {ou : Nat → Int64} {od : Nat → UInt64} {x1 : Int32} {x2 : Int32} {r : Int32 × (Nat → Int64)} (hf : fL_pump (ly (0 : Fin 2)) tp st ou x1 x2 = some r) : CTW k strs yL_pump cL_pump 5 (some .int) hhL_pump (rmD 7 1 6) 1 6 [.ref (k.b + (0)), .int x1, .int x2, .ref (k.b + (197))] (wAll k T R ly rc hn rp tp ee st w aside thought fresh mu th mp mf mh mg ou od) (some (.int r.1)) (wAll k T R ly rc hn rp tp ee st w aside thought fresh mu th mp mf mh mg r.2 od) := by
  refine CTW.of (by decide) (Nat.le_of_ble_eq_true rfl) ?_
  intro z X hT hQ
  show VW k z 0 0 (wAll k T R ly rc hn rp tp ee st w aside thought fresh mu th mp mf mh mg ou od) 0 [some (.ref (k.b + (0))), some (.int x1), some (.int x2), some (.ref (k.b + (197))), none] []
  unfold fL_pump at hf
  obtain ⟨u, hu, hf⟩ := bdS hf
  refine r_aload_n X (x := k.b + (197)) dL_pump_0 rfl ?_
  refine r_iconst X (v := 0) dL_pump_1 rfl ?_
  refine r_aload_n X (x := k.b + (0)) dL_pump_2 rfl ?_
  refine r_iload_n X (x := x1) dL_pump_3 rfl ?_
  refine r_iload_n X (x := x2) dL_pump_4 rfl ?_
  refine r_callX X hT [.int x1, .int x2] [.int 0, .ref (k.b + (197))] (K9_pump hu) lkL_67 clsX9 rfl _ o_main (rle (by decide) (Nat.le_of_ble_eq_true rfl)) rfl rfl (Nat.le_of_ble_eq_true rfl) (Nat.le_of_ble_eq_true rfl) rfl rfl (Nat.le_of_ble_eq_true rfl) rfl dL_pump_5 ?_ ?_
  · intro e qx he he4
    rcases hu1 : u with v | e1
    · rw [hu1] at he
      cases he
    · rw [hu1] at he hf
      cases he
      replace hf : (if e = 2 then some (1, ou) else if e = 1 then some (2, ou) else none) = some r := hf
      by_cases c2 : e = 2
      · replace hf := ifT hf c2
        subst c2
        refine ⟨13, hxL_pump_2, ?_⟩
        refine r_astore X [some (.ref (k.b + (0))), some (.int x1), some (.int x2), some (.ref (k.b + (197))), some (.ref qx)] dL_pump_13 (Nat.le_of_ble_eq_true rfl) rfl ?_
        refine r_iconst X (v := 1) dL_pump_15 rfl ?_
        obtain rfl := Option.some.inj hf
        exact r_ireturn X hQ rfl rfl (Nat.le_of_ble_eq_true rfl) (Nat.le_of_ble_eq_true rfl) dL_pump_16
      replace hf := ifF hf c2
      by_cases c1 : e = 1
      · replace hf := ifT hf c1
        subst c1
        refine ⟨17, hxL_pump_1, ?_⟩
        refine r_astore X [some (.ref (k.b + (0))), some (.int x1), some (.int x2), some (.ref (k.b + (197))), some (.ref qx)] dL_pump_17 (Nat.le_of_ble_eq_true rfl) rfl ?_
        refine r_iconst X (v := 2) dL_pump_19 rfl ?_
        obtain rfl := Option.some.inj hf
        exact r_ireturn X hQ rfl rfl (Nat.le_of_ble_eq_true rfl) (Nat.le_of_ble_eq_true rfl) dL_pump_20
      replace hf := ifF hf c1
      cases hf
  · intro o ho
    rcases hu1 : u with v | e1
    · rw [hu1] at ho hf
      cases ho
      replace hf : (some (0, vp_updL ou (ix 0) v.toInt64)) = some r := hf
      show VW k z 1 6 (wAll k T R ly rc hn rp tp ee st w aside thought fresh mu th mp mf mh mg ou od) 8 [some (.ref (k.b + (0))), some (.int x1), some (.int x2), some (.ref (k.b + (197))), none] (.int v :: [.int 0, .ref (k.b + (197))])
      refine r_i2l X dL_pump_8 ?_
      refine r_lastore X (f := ou) (ws1 := wAll k T R ly rc hn rp tp ee st w aside thought fresh mu th mp mf mh mg (vp_updL ou (ix 0) v.toInt64) od) _ a_m_ou (by decide) (s_ou (vp_updL ou (ix 0) v.toInt64)) dL_pump_9 ?_
      refine r_goto X 21 dL_pump_10 rfl ?_
      refine r_iconst X (v := 0) dL_pump_21 rfl ?_
      obtain rfl := Option.some.inj hf
      exact r_ireturn X hQ rfl rfl (Nat.le_of_ble_eq_true rfl) (Nat.le_of_ble_eq_true rfl) dL_pump_22
    · rw [hu1] at ho
      cases ho
def hhL_valve : List (Nat × Nat × Nat × Nat) := [(0, 10, 13, 24), (0, 10, 17, 19)]
theorem hxL_valve_2 : HX RL hhL_valve 5 2 13 := ⟨[], (0, 10, 13, 24), [(0, 10, 17, 19)], rfl, (fun z hz => by cases hz), by decide, by decide, clL_24, csT_2, rfl⟩
theorem hxL_valve_1 : HX RL hhL_valve 5 1 17 := ⟨[(0, 10, 13, 24)], (0, 10, 17, 19), [], rfl, (fun z hz => by
    rcases List.mem_singleton.mp hz with rfl
    exact Or.inr ⟨by decide, 2, by decide, by decide, clL_24⟩), by decide, by decide, clL_19, csT_1, rfl⟩
set_option maxRecDepth 100000 in
theorem lkL_valve : LKW RL 233 yL_valve cL_valve 5 (some .int) hhL_valve 4 := ⟨(gb5 96 (by decide +kernel) (by decide +kernel)), (gb5 98 rfl (by decide +kernel)), (gb1 0 (by decide +kernel) (by decide +kernel)), by decide, by decide +kernel, (gb5 97 (by decide +kernel) (by decide +kernel))⟩
set_option maxRecDepth 100000 in
set_option maxHeartbeats 4000000 in
theorem KL_valve {k : KT} {T : TT} {R : RR} {ly : Fin 2 → LL} {rc : RC} {hn : HN} {rp : RP} {tp : TP} {ee : EE} {st : Fin 12 → SS} {w : Nat → Int64} {aside : Nat → Int64} {thought : Nat → Int64} {fresh : Nat → Int64} {mu : MU} {th : Int32} {mp : MP} {mf : MF} {mh : MH} {mg : MG} {ou : Nat → Int64} {od : Nat → UInt64} {x1 : Int32} {x2 : Int32} {r : Int32 × (Nat → Int64)} (hf : fL_valve (ly (0 : Fin 2)) tp st ou x1 x2 = some r) : CTW k strs yL_valve cL_valve 5 (some .int) hhL_valve (rmD 7 1 6) 1 6 [.ref (k.b + (0)), .int x1, .int x2, .ref (k.b + (197))] (wAll k T R ly rc hn rp tp ee st w aside thought fresh mu th mp mf mh mg ou od) (some (.int r.1)) (wAll k T R ly rc hn rp tp ee st w aside thought fresh mu th mp mf mh mg r.2 od) := by
  refine CTW.of (by decide) (Nat.le_of_ble_eq_true rfl) ?_
  intro z X hT hQ
  show VW k z 0 0 (wAll k T R ly rc hn rp tp ee st w aside thought fresh mu th mp mf mh mg ou od) 0 [some (.ref (k.b + (0))), some (.int x1), some (.int x2), some (.ref (k.b + (197))), none] []
  unfold fL_valve at hf
  obtain ⟨u, hu, hf⟩ := bdS hf
  refine r_aload_n X (x := k.b + (197)) dL_valve_0 rfl ?_
  refine r_iconst X (v := 0) dL_valve_1 rfl ?_
  refine r_aload_n X (x := k.b + (0)) dL_valve_2 rfl ?_
  refine r_iload_n X (x := x1) dL_valve_3 rfl ?_
  refine r_iload_n X (x := x2) dL_valve_4 rfl ?_
  refine r_callX X hT [.int x1, .int x2] [.int 0, .ref (k.b + (197))] (K9_valve hu) lkL_70 clsX9 rfl _ o_main (rle (by decide) (Nat.le_of_ble_eq_true rfl)) rfl rfl (Nat.le_of_ble_eq_true rfl) (Nat.le_of_ble_eq_true rfl) rfl rfl (Nat.le_of_ble_eq_true rfl) rfl dL_valve_5 ?_ ?_
  · intro e qx he he4
    rcases hu1 : u with v | e1
    · rw [hu1] at he
      cases he
    · rw [hu1] at he hf
      cases he
      replace hf : (if e = 2 then some (1, ou) else if e = 1 then some (2, ou) else none) = some r := hf
      by_cases c2 : e = 2
      · replace hf := ifT hf c2
        subst c2
        refine ⟨13, hxL_valve_2, ?_⟩
        refine r_astore X [some (.ref (k.b + (0))), some (.int x1), some (.int x2), some (.ref (k.b + (197))), some (.ref qx)] dL_valve_13 (Nat.le_of_ble_eq_true rfl) rfl ?_
        refine r_iconst X (v := 1) dL_valve_15 rfl ?_
        obtain rfl := Option.some.inj hf
        exact r_ireturn X hQ rfl rfl (Nat.le_of_ble_eq_true rfl) (Nat.le_of_ble_eq_true rfl) dL_valve_16
      replace hf := ifF hf c2
      by_cases c1 : e = 1
      · replace hf := ifT hf c1
        subst c1
        refine ⟨17, hxL_valve_1, ?_⟩
        refine r_astore X [some (.ref (k.b + (0))), some (.int x1), some (.int x2), some (.ref (k.b + (197))), some (.ref qx)] dL_valve_17 (Nat.le_of_ble_eq_true rfl) rfl ?_
        refine r_iconst X (v := 2) dL_valve_19 rfl ?_
        obtain rfl := Option.some.inj hf
        exact r_ireturn X hQ rfl rfl (Nat.le_of_ble_eq_true rfl) (Nat.le_of_ble_eq_true rfl) dL_valve_20
      replace hf := ifF hf c1
      cases hf
  · intro o ho
    rcases hu1 : u with v | e1
    · rw [hu1] at ho hf
      cases ho
      replace hf : (some (0, vp_updL ou (ix 0) v.toInt64)) = some r := hf
      show VW k z 1 6 (wAll k T R ly rc hn rp tp ee st w aside thought fresh mu th mp mf mh mg ou od) 8 [some (.ref (k.b + (0))), some (.int x1), some (.int x2), some (.ref (k.b + (197))), none] (.int v :: [.int 0, .ref (k.b + (197))])
      refine r_i2l X dL_valve_8 ?_
      refine r_lastore X (f := ou) (ws1 := wAll k T R ly rc hn rp tp ee st w aside thought fresh mu th mp mf mh mg (vp_updL ou (ix 0) v.toInt64) od) _ a_m_ou (by decide) (s_ou (vp_updL ou (ix 0) v.toInt64)) dL_valve_9 ?_
      refine r_goto X 21 dL_valve_10 rfl ?_
      refine r_iconst X (v := 0) dL_valve_21 rfl ?_
      obtain rfl := Option.some.inj hf
      exact r_ireturn X hQ rfl rfl (Nat.le_of_ble_eq_true rfl) (Nat.le_of_ble_eq_true rfl) dL_valve_22
    · rw [hu1] at ho
      cases ho
def hhL_flange : List (Nat × Nat × Nat × Nat) := [(0, 10, 13, 24), (0, 10, 17, 19)]
theorem hxL_flange_2 : HX RL hhL_flange 5 2 13 := ⟨[], (0, 10, 13, 24), [(0, 10, 17, 19)], rfl, (fun z hz => by cases hz), by decide, by decide, clL_24, csT_2, rfl⟩
theorem hxL_flange_1 : HX RL hhL_flange 5 1 17 := ⟨[(0, 10, 13, 24)], (0, 10, 17, 19), [], rfl, (fun z hz => by
    rcases List.mem_singleton.mp hz with rfl
    exact Or.inr ⟨by decide, 2, by decide, by decide, clL_24⟩), by decide, by decide, clL_19, csT_1, rfl⟩
set_option maxRecDepth 100000 in
theorem lkL_flange : LKW RL 236 yL_flange cL_flange 5 (some .int) hhL_flange 4 := ⟨(gb5 103 (by decide +kernel) (by decide +kernel)), (gb5 105 rfl (by decide +kernel)), (gb1 0 (by decide +kernel) (by decide +kernel)), by decide, by decide +kernel, (gb5 104 (by decide +kernel) (by decide +kernel))⟩
set_option maxRecDepth 100000 in
set_option maxHeartbeats 4000000 in
theorem KL_flange {k : KT} {T : TT} {R : RR} {ly : Fin 2 → LL} {rc : RC} {hn : HN} {rp : RP} {tp : TP} {ee : EE} {st : Fin 12 → SS} {w : Nat → Int64} {aside : Nat → Int64} {thought : Nat → Int64} {fresh : Nat → Int64} {mu : MU} {th : Int32} {mp : MP} {mf : MF} {mh : MH} {mg : MG} {ou : Nat → Int64} {od : Nat → UInt64} {x1 : Int32} {x2 : Int32} {r : Int32 × (Nat → Int64)} (hf : fL_flange (ly (0 : Fin 2)) tp st ou x1 x2 = some r) : CTW k strs yL_flange cL_flange 5 (some .int) hhL_flange (rmD 7 1 6) 1 6 [.ref (k.b + (0)), .int x1, .int x2, .ref (k.b + (197))] (wAll k T R ly rc hn rp tp ee st w aside thought fresh mu th mp mf mh mg ou od) (some (.int r.1)) (wAll k T R ly rc hn rp tp ee st w aside thought fresh mu th mp mf mh mg r.2 od) := by
  refine CTW.of (by decide) (Nat.le_of_ble_eq_true rfl) ?_
  intro z X hT hQ
  show VW k z 0 0 (wAll k T R ly rc hn rp tp ee st w aside thought fresh mu th mp mf mh mg ou od) 0 [some (.ref (k.b + (0))), some (.int x1), some (.int x2), some (.ref (k.b + (197))), none] []
  unfold fL_flange at hf
  obtain ⟨u, hu, hf⟩ := bdS hf
  refine r_aload_n X (x := k.b + (197)) dL_flange_0 rfl ?_
  refine r_iconst X (v := 0) dL_flange_1 rfl ?_
  refine r_aload_n X (x := k.b + (0)) dL_flange_2 rfl ?_
  refine r_iload_n X (x := x1) dL_flange_3 rfl ?_
  refine r_iload_n X (x := x2) dL_flange_4 rfl ?_
  refine r_callX X hT [.int x1, .int x2] [.int 0, .ref (k.b + (197))] (K9_flange hu) lkL_73 clsX9 rfl _ o_main (rle (by decide) (Nat.le_of_ble_eq_true rfl)) rfl rfl (Nat.le_of_ble_eq_true rfl) (Nat.le_of_ble_eq_true rfl) rfl rfl (Nat.le_of_ble_eq_true rfl) rfl dL_flange_5 ?_ ?_
  · intro e qx he he4
    rcases hu1 : u with v | e1
    · rw [hu1] at he
      cases he
    · rw [hu1] at he hf
      cases he
      replace hf : (if e = 2 then some (1, ou) else if e = 1 then some (2, ou) else none) = some r := hf
      by_cases c2 : e = 2
      · replace hf := ifT hf c2
        subst c2
        refine ⟨13, hxL_flange_2, ?_⟩
        refine r_astore X [some (.ref (k.b + (0))), some (.int x1), some (.int x2), some (.ref (k.b + (197))), some (.ref qx)] dL_flange_13 (Nat.le_of_ble_eq_true rfl) rfl ?_
        refine r_iconst X (v := 1) dL_flange_15 rfl ?_
        obtain rfl := Option.some.inj hf
        exact r_ireturn X hQ rfl rfl (Nat.le_of_ble_eq_true rfl) (Nat.le_of_ble_eq_true rfl) dL_flange_16
      replace hf := ifF hf c2
      by_cases c1 : e = 1
      · replace hf := ifT hf c1
        subst c1
        refine ⟨17, hxL_flange_1, ?_⟩
        refine r_astore X [some (.ref (k.b + (0))), some (.int x1), some (.int x2), some (.ref (k.b + (197))), some (.ref qx)] dL_flange_17 (Nat.le_of_ble_eq_true rfl) rfl ?_
        refine r_iconst X (v := 2) dL_flange_19 rfl ?_
        obtain rfl := Option.some.inj hf
        exact r_ireturn X hQ rfl rfl (Nat.le_of_ble_eq_true rfl) (Nat.le_of_ble_eq_true rfl) dL_flange_20
      replace hf := ifF hf c1
      cases hf
  · intro o ho
    rcases hu1 : u with v | e1
    · rw [hu1] at ho hf
      cases ho
      replace hf : (some (0, vp_updL ou (ix 0) v.toInt64)) = some r := hf
      show VW k z 1 6 (wAll k T R ly rc hn rp tp ee st w aside thought fresh mu th mp mf mh mg ou od) 8 [some (.ref (k.b + (0))), some (.int x1), some (.int x2), some (.ref (k.b + (197))), none] (.int v :: [.int 0, .ref (k.b + (197))])
      refine r_i2l X dL_flange_8 ?_
      refine r_lastore X (f := ou) (ws1 := wAll k T R ly rc hn rp tp ee st w aside thought fresh mu th mp mf mh mg (vp_updL ou (ix 0) v.toInt64) od) _ a_m_ou (by decide) (s_ou (vp_updL ou (ix 0) v.toInt64)) dL_flange_9 ?_
      refine r_goto X 21 dL_flange_10 rfl ?_
      refine r_iconst X (v := 0) dL_flange_21 rfl ?_
      obtain rfl := Option.some.inj hf
      exact r_ireturn X hQ rfl rfl (Nat.le_of_ble_eq_true rfl) (Nat.le_of_ble_eq_true rfl) dL_flange_22
    · rw [hu1] at ho
      cases ho
def hhL_rise : List (Nat × Nat × Nat × Nat) := [(0, 10, 13, 24), (0, 10, 17, 19)]
theorem hxL_rise_2 : HX RL hhL_rise 5 2 13 := ⟨[], (0, 10, 13, 24), [(0, 10, 17, 19)], rfl, (fun z hz => by cases hz), by decide, by decide, clL_24, csT_2, rfl⟩
theorem hxL_rise_1 : HX RL hhL_rise 5 1 17 := ⟨[(0, 10, 13, 24)], (0, 10, 17, 19), [], rfl, (fun z hz => by
    rcases List.mem_singleton.mp hz with rfl
    exact Or.inr ⟨by decide, 2, by decide, by decide, clL_24⟩), by decide, by decide, clL_19, csT_1, rfl⟩
set_option maxRecDepth 100000 in
theorem lkL_rise : LKW RL 239 yL_rise cL_rise 5 (some .int) hhL_rise 4 := ⟨(gb5 110 (by decide +kernel) (by decide +kernel)), (gb5 112 rfl (by decide +kernel)), (gb1 0 (by decide +kernel) (by decide +kernel)), by decide, by decide +kernel, (gb5 111 (by decide +kernel) (by decide +kernel))⟩
set_option maxRecDepth 100000 in
set_option maxHeartbeats 4000000 in
theorem KL_rise {k : KT} {T : TT} {R : RR} {ly : Fin 2 → LL} {rc : RC} {hn : HN} {rp : RP} {tp : TP} {ee : EE} {st : Fin 12 → SS} {w : Nat → Int64} {aside : Nat → Int64} {thought : Nat → Int64} {fresh : Nat → Int64} {mu : MU} {th : Int32} {mp : MP} {mf : MF} {mh : MH} {mg : MG} {ou : Nat → Int64} {od : Nat → UInt64} {x1 : Int32} {x2 : Int32} {r : Int32 × (Nat → Int64)} (hf : fL_rise tp st ou x1 x2 = some r) : CTW k strs yL_rise cL_rise 5 (some .int) hhL_rise (rmD 7 1 6) 1 6 [.ref (k.b + (0)), .int x1, .int x2, .ref (k.b + (197))] (wAll k T R ly rc hn rp tp ee st w aside thought fresh mu th mp mf mh mg ou od) (some (.int r.1)) (wAll k T R ly rc hn rp tp ee st w aside thought fresh mu th mp mf mh mg r.2 od) := by
  refine CTW.of (by decide) (Nat.le_of_ble_eq_true rfl) ?_
  intro z X hT hQ
  show VW k z 0 0 (wAll k T R ly rc hn rp tp ee st w aside thought fresh mu th mp mf mh mg ou od) 0 [some (.ref (k.b + (0))), some (.int x1), some (.int x2), some (.ref (k.b + (197))), none] []
  unfold fL_rise at hf
  obtain ⟨u, hu, hf⟩ := bdS hf
  refine r_aload_n X (x := k.b + (197)) dL_rise_0 rfl ?_
  refine r_iconst X (v := 0) dL_rise_1 rfl ?_
  refine r_aload_n X (x := k.b + (0)) dL_rise_2 rfl ?_
  refine r_iload_n X (x := x1) dL_rise_3 rfl ?_
  refine r_iload_n X (x := x2) dL_rise_4 rfl ?_
  refine r_callX X hT [.int x1, .int x2] [.int 0, .ref (k.b + (197))] (K9_rise hu) lkL_76 clsX9 rfl _ o_main (rle (by decide) (Nat.le_of_ble_eq_true rfl)) rfl rfl (Nat.le_of_ble_eq_true rfl) (Nat.le_of_ble_eq_true rfl) rfl rfl (Nat.le_of_ble_eq_true rfl) rfl dL_rise_5 ?_ ?_
  · intro e qx he he4
    rcases hu1 : u with v | e1
    · rw [hu1] at he
      cases he
    · rw [hu1] at he hf
      cases he
      replace hf : (if e = 2 then some (1, ou) else if e = 1 then some (2, ou) else none) = some r := hf
      by_cases c2 : e = 2
      · replace hf := ifT hf c2
        subst c2
        refine ⟨13, hxL_rise_2, ?_⟩
        refine r_astore X [some (.ref (k.b + (0))), some (.int x1), some (.int x2), some (.ref (k.b + (197))), some (.ref qx)] dL_rise_13 (Nat.le_of_ble_eq_true rfl) rfl ?_
        refine r_iconst X (v := 1) dL_rise_15 rfl ?_
        obtain rfl := Option.some.inj hf
        exact r_ireturn X hQ rfl rfl (Nat.le_of_ble_eq_true rfl) (Nat.le_of_ble_eq_true rfl) dL_rise_16
      replace hf := ifF hf c2
      by_cases c1 : e = 1
      · replace hf := ifT hf c1
        subst c1
        refine ⟨17, hxL_rise_1, ?_⟩
        refine r_astore X [some (.ref (k.b + (0))), some (.int x1), some (.int x2), some (.ref (k.b + (197))), some (.ref qx)] dL_rise_17 (Nat.le_of_ble_eq_true rfl) rfl ?_
        refine r_iconst X (v := 2) dL_rise_19 rfl ?_
        obtain rfl := Option.some.inj hf
        exact r_ireturn X hQ rfl rfl (Nat.le_of_ble_eq_true rfl) (Nat.le_of_ble_eq_true rfl) dL_rise_20
      replace hf := ifF hf c1
      cases hf
  · intro o ho
    rcases hu1 : u with v | e1
    · rw [hu1] at ho hf
      cases ho
      replace hf : (some (0, vp_updL ou (ix 0) v.toInt64)) = some r := hf
      show VW k z 1 6 (wAll k T R ly rc hn rp tp ee st w aside thought fresh mu th mp mf mh mg ou od) 8 [some (.ref (k.b + (0))), some (.int x1), some (.int x2), some (.ref (k.b + (197))), none] (.int v :: [.int 0, .ref (k.b + (197))])
      refine r_i2l X dL_rise_8 ?_
      refine r_lastore X (f := ou) (ws1 := wAll k T R ly rc hn rp tp ee st w aside thought fresh mu th mp mf mh mg (vp_updL ou (ix 0) v.toInt64) od) _ a_m_ou (by decide) (s_ou (vp_updL ou (ix 0) v.toInt64)) dL_rise_9 ?_
      refine r_goto X 21 dL_rise_10 rfl ?_
      refine r_iconst X (v := 0) dL_rise_21 rfl ?_
      obtain rfl := Option.some.inj hf
      exact r_ireturn X hQ rfl rfl (Nat.le_of_ble_eq_true rfl) (Nat.le_of_ble_eq_true rfl) dL_rise_22
    · rw [hu1] at ho
      cases ho
def hhL_riseGas : List (Nat × Nat × Nat × Nat) := [(0, 9, 12, 24)]
theorem hxL_riseGas_2 : HX RL hhL_riseGas 5 2 12 := ⟨[], (0, 9, 12, 24), [], rfl, (fun z hz => by cases hz), by decide, by decide, clL_24, csT_2, rfl⟩
set_option maxRecDepth 100000 in
theorem lkL_riseGas : LKW RL 242 yL_riseGas cL_riseGas 5 (some .int) hhL_riseGas 4 := ⟨(gb5 125 (by decide +kernel) (by decide +kernel)), (gb5 127 rfl (by decide +kernel)), (gb1 0 (by decide +kernel) (by decide +kernel)), by decide, by decide +kernel, (gb5 126 (by decide +kernel) (by decide +kernel))⟩
set_option maxRecDepth 100000 in
set_option maxHeartbeats 4000000 in
theorem KL_riseGas {k : KT} {T : TT} {R : RR} {ly : Fin 2 → LL} {rc : RC} {hn : HN} {rp : RP} {tp : TP} {ee : EE} {st : Fin 12 → SS} {w : Nat → Int64} {aside : Nat → Int64} {thought : Nat → Int64} {fresh : Nat → Int64} {mu : MU} {th : Int32} {mp : MP} {mf : MF} {mh : MH} {mg : MG} {ou : Nat → Int64} {od : Nat → UInt64} {x1 : Int32} {x2 : Int32} {r : Int32 × (Nat → Int64)} (hf : fL_riseGas tp st ou x1 x2 = some r) : CTW k strs yL_riseGas cL_riseGas 5 (some .int) hhL_riseGas (rmD 7 1 6) 1 6 [.ref (k.b + (0)), .int x1, .int x2, .ref (k.b + (197))] (wAll k T R ly rc hn rp tp ee st w aside thought fresh mu th mp mf mh mg ou od) (some (.int r.1)) (wAll k T R ly rc hn rp tp ee st w aside thought fresh mu th mp mf mh mg r.2 od) := by
  refine CTW.of (by decide) (Nat.le_of_ble_eq_true rfl) ?_
  intro z X hT hQ
  show VW k z 0 0 (wAll k T R ly rc hn rp tp ee st w aside thought fresh mu th mp mf mh mg ou od) 0 [some (.ref (k.b + (0))), some (.int x1), some (.int x2), some (.ref (k.b + (197))), none] []
  unfold fL_riseGas at hf
  obtain ⟨u, hu, hf⟩ := bdS hf
  refine r_aload_n X (x := k.b + (197)) dL_riseGas_0 rfl ?_
  refine r_iconst X (v := 0) dL_riseGas_1 rfl ?_
  refine r_aload_n X (x := k.b + (0)) dL_riseGas_2 rfl ?_
  refine r_iload_n X (x := x1) dL_riseGas_3 rfl ?_
  refine r_iload_n X (x := x2) dL_riseGas_4 rfl ?_
  refine r_callX X hT [.int x1, .int x2] [.int 0, .ref (k.b + (197))] (K9_riseGas hu) lkL_79 clsX9 rfl _ o_main (rle (by decide) (Nat.le_of_ble_eq_true rfl)) rfl rfl (Nat.le_of_ble_eq_true rfl) (Nat.le_of_ble_eq_true rfl) rfl rfl (Nat.le_of_ble_eq_true rfl) rfl dL_riseGas_5 ?_ ?_
  · intro e qx he he4
    rcases hu1 : u with v | e1
    · rw [hu1] at he
      cases he
    · rw [hu1] at he hf
      cases he
      replace hf : (if e = 2 then some (1, ou) else none) = some r := hf
      by_cases c2 : e = 2
      · replace hf := ifT hf c2
        subst c2
        refine ⟨12, hxL_riseGas_2, ?_⟩
        refine r_astore X [some (.ref (k.b + (0))), some (.int x1), some (.int x2), some (.ref (k.b + (197))), some (.ref qx)] dL_riseGas_12 (Nat.le_of_ble_eq_true rfl) rfl ?_
        refine r_iconst X (v := 1) dL_riseGas_14 rfl ?_
        obtain rfl := Option.some.inj hf
        exact r_ireturn X hQ rfl rfl (Nat.le_of_ble_eq_true rfl) (Nat.le_of_ble_eq_true rfl) dL_riseGas_15
      replace hf := ifF hf c2
      cases hf
  · intro o ho
    rcases hu1 : u with v | e1
    · rw [hu1] at ho hf
      cases ho
      replace hf : (some (0, vp_updL ou (ix 0) v)) = some r := hf
      show VW k z 1 6 (wAll k T R ly rc hn rp tp ee st w aside thought fresh mu th mp mf mh mg ou od) 8 [some (.ref (k.b + (0))), some (.int x1), some (.int x2), some (.ref (k.b + (197))), none] (.long v :: [.int 0, .ref (k.b + (197))])
      refine r_lastore X (f := ou) (ws1 := wAll k T R ly rc hn rp tp ee st w aside thought fresh mu th mp mf mh mg (vp_updL ou (ix 0) v) od) _ a_m_ou (by decide) (s_ou (vp_updL ou (ix 0) v)) dL_riseGas_8 ?_
      refine r_goto X 16 dL_riseGas_9 rfl ?_
      refine r_iconst X (v := 0) dL_riseGas_16 rfl ?_
      obtain rfl := Option.some.inj hf
      exact r_ireturn X hQ rfl rfl (Nat.le_of_ble_eq_true rfl) (Nat.le_of_ble_eq_true rfl) dL_riseGas_17
    · rw [hu1] at ho
      cases ho
def hhL_mayOpen : List (Nat × Nat × Nat × Nat) := [(0, 9, 12, 24)]
theorem hxL_mayOpen_2 : HX RL hhL_mayOpen 4 2 12 := ⟨[], (0, 9, 12, 24), [], rfl, (fun z hz => by cases hz), by decide, by decide, clL_24, csT_2, rfl⟩
set_option maxRecDepth 100000 in
theorem lkL_mayOpen : LKW RL 246 yL_mayOpen cL_mayOpen 4 (some .int) hhL_mayOpen 3 := ⟨(gb5 136 (by decide +kernel) (by decide +kernel)), (gb5 138 rfl (by decide +kernel)), (gb1 0 (by decide +kernel) (by decide +kernel)), by decide, by decide +kernel, (gb5 137 (by decide +kernel) (by decide +kernel))⟩
set_option maxRecDepth 100000 in
set_option maxHeartbeats 4000000 in
theorem KL_mayOpen {k : KT} {T : TT} {R : RR} {ly : Fin 2 → LL} {rc : RC} {hn : HN} {rp : RP} {tp : TP} {ee : EE} {st : Fin 12 → SS} {w : Nat → Int64} {aside : Nat → Int64} {thought : Nat → Int64} {fresh : Nat → Int64} {mu : MU} {th : Int32} {mp : MP} {mf : MF} {mh : MH} {mg : MG} {ou : Nat → Int64} {od : Nat → UInt64} {x1 : Int32} {r : Int32 × (Nat → Int64)} (hf : fL_mayOpen (ly (0 : Fin 2)) tp st ou x1 = some r) : CTW k strs yL_mayOpen cL_mayOpen 4 (some .int) hhL_mayOpen (rmD 7 1 6) 1 6 [.ref (k.b + (0)), .int x1, .ref (k.b + (197))] (wAll k T R ly rc hn rp tp ee st w aside thought fresh mu th mp mf mh mg ou od) (some (.int r.1)) (wAll k T R ly rc hn rp tp ee st w aside thought fresh mu th mp mf mh mg r.2 od) := by
  refine CTW.of (by decide) (Nat.le_of_ble_eq_true rfl) ?_
  intro z X hT hQ
  show VW k z 0 0 (wAll k T R ly rc hn rp tp ee st w aside thought fresh mu th mp mf mh mg ou od) 0 [some (.ref (k.b + (0))), some (.int x1), some (.ref (k.b + (197))), none] []
  unfold fL_mayOpen at hf
  obtain ⟨u, hu, hf⟩ := bdS hf
  refine r_aload_n X (x := k.b + (197)) dL_mayOpen_0 rfl ?_
  refine r_iconst X (v := 0) dL_mayOpen_1 rfl ?_
  refine r_aload_n X (x := k.b + (0)) dL_mayOpen_2 rfl ?_
  refine r_iload_n X (x := x1) dL_mayOpen_3 rfl ?_
  refine r_callX X hT [.int x1] [.int 0, .ref (k.b + (197))] (K9_mayOpen hu) lkL_83 clsX9 rfl _ o_main (rle (by decide) (Nat.le_of_ble_eq_true rfl)) rfl rfl (Nat.le_of_ble_eq_true rfl) (Nat.le_of_ble_eq_true rfl) rfl rfl (Nat.le_of_ble_eq_true rfl) rfl dL_mayOpen_4 ?_ ?_
  · intro e qx he he4
    rcases hu1 : u with v | e1
    · rw [hu1] at he
      cases he
    · rw [hu1] at he hf
      cases he
      replace hf : (if e = 2 then some (1, ou) else none) = some r := hf
      by_cases c2 : e = 2
      · replace hf := ifT hf c2
        subst c2
        refine ⟨12, hxL_mayOpen_2, ?_⟩
        refine r_astore_n X [some (.ref (k.b + (0))), some (.int x1), some (.ref (k.b + (197))), some (.ref qx)] dL_mayOpen_12 (Nat.le_of_ble_eq_true rfl) rfl ?_
        refine r_iconst X (v := 1) dL_mayOpen_13 rfl ?_
        obtain rfl := Option.some.inj hf
        exact r_ireturn X hQ rfl rfl (Nat.le_of_ble_eq_true rfl) (Nat.le_of_ble_eq_true rfl) dL_mayOpen_14
      replace hf := ifF hf c2
      cases hf
  · intro o ho
    rcases hu1 : u with v | e1
    · rw [hu1] at ho hf
      cases ho
      replace hf : (some (0, vp_updL ou (ix 0) v.toInt64)) = some r := hf
      show VW k z 1 6 (wAll k T R ly rc hn rp tp ee st w aside thought fresh mu th mp mf mh mg ou od) 7 [some (.ref (k.b + (0))), some (.int x1), some (.ref (k.b + (197))), none] (.int v :: [.int 0, .ref (k.b + (197))])
      refine r_i2l X dL_mayOpen_7 ?_
      refine r_lastore X (f := ou) (ws1 := wAll k T R ly rc hn rp tp ee st w aside thought fresh mu th mp mf mh mg (vp_updL ou (ix 0) v.toInt64) od) _ a_m_ou (by decide) (s_ou (vp_updL ou (ix 0) v.toInt64)) dL_mayOpen_8 ?_
      refine r_goto X 15 dL_mayOpen_9 rfl ?_
      refine r_iconst X (v := 0) dL_mayOpen_15 rfl ?_
      obtain rfl := Option.some.inj hf
      exact r_ireturn X hQ rfl rfl (Nat.le_of_ble_eq_true rfl) (Nat.le_of_ble_eq_true rfl) dL_mayOpen_16
    · rw [hu1] at ho
      cases ho
def hhL_mayStart : List (Nat × Nat × Nat × Nat) := [(0, 9, 12, 24)]
theorem hxL_mayStart_2 : HX RL hhL_mayStart 4 2 12 := ⟨[], (0, 9, 12, 24), [], rfl, (fun z hz => by cases hz), by decide, by decide, clL_24, csT_2, rfl⟩
set_option maxRecDepth 100000 in
theorem lkL_mayStart : LKW RL 249 yL_mayStart cL_mayStart 4 (some .int) hhL_mayStart 3 := ⟨(gb5 143 (by decide +kernel) (by decide +kernel)), (gb5 145 rfl (by decide +kernel)), (gb1 0 (by decide +kernel) (by decide +kernel)), by decide, by decide +kernel, (gb5 144 (by decide +kernel) (by decide +kernel))⟩
set_option maxRecDepth 100000 in
set_option maxHeartbeats 4000000 in
theorem KL_mayStart {k : KT} {T : TT} {R : RR} {ly : Fin 2 → LL} {rc : RC} {hn : HN} {rp : RP} {tp : TP} {ee : EE} {st : Fin 12 → SS} {w : Nat → Int64} {aside : Nat → Int64} {thought : Nat → Int64} {fresh : Nat → Int64} {mu : MU} {th : Int32} {mp : MP} {mf : MF} {mh : MH} {mg : MG} {ou : Nat → Int64} {od : Nat → UInt64} {x1 : Int32} {r : Int32 × (Nat → Int64)} (hf : fL_mayStart (ly (0 : Fin 2)) tp st ou x1 = some r) : CTW k strs yL_mayStart cL_mayStart 4 (some .int) hhL_mayStart (rmD 7 1 6) 1 6 [.ref (k.b + (0)), .int x1, .ref (k.b + (197))] (wAll k T R ly rc hn rp tp ee st w aside thought fresh mu th mp mf mh mg ou od) (some (.int r.1)) (wAll k T R ly rc hn rp tp ee st w aside thought fresh mu th mp mf mh mg r.2 od) := by
  refine CTW.of (by decide) (Nat.le_of_ble_eq_true rfl) ?_
  intro z X hT hQ
  show VW k z 0 0 (wAll k T R ly rc hn rp tp ee st w aside thought fresh mu th mp mf mh mg ou od) 0 [some (.ref (k.b + (0))), some (.int x1), some (.ref (k.b + (197))), none] []
  unfold fL_mayStart at hf
  obtain ⟨u, hu, hf⟩ := bdS hf
  refine r_aload_n X (x := k.b + (197)) dL_mayStart_0 rfl ?_
  refine r_iconst X (v := 0) dL_mayStart_1 rfl ?_
  refine r_aload_n X (x := k.b + (0)) dL_mayStart_2 rfl ?_
  refine r_iload_n X (x := x1) dL_mayStart_3 rfl ?_
  refine r_callX X hT [.int x1] [.int 0, .ref (k.b + (197))] (K9_mayStart hu) lkL_86 clsX9 rfl _ o_main (rle (by decide) (Nat.le_of_ble_eq_true rfl)) rfl rfl (Nat.le_of_ble_eq_true rfl) (Nat.le_of_ble_eq_true rfl) rfl rfl (Nat.le_of_ble_eq_true rfl) rfl dL_mayStart_4 ?_ ?_
  · intro e qx he he4
    rcases hu1 : u with v | e1
    · rw [hu1] at he
      cases he
    · rw [hu1] at he hf
      cases he
      replace hf : (if e = 2 then some (1, ou) else none) = some r := hf
      by_cases c2 : e = 2
      · replace hf := ifT hf c2
        subst c2
        refine ⟨12, hxL_mayStart_2, ?_⟩
        refine r_astore_n X [some (.ref (k.b + (0))), some (.int x1), some (.ref (k.b + (197))), some (.ref qx)] dL_mayStart_12 (Nat.le_of_ble_eq_true rfl) rfl ?_
        refine r_iconst X (v := 1) dL_mayStart_13 rfl ?_
        obtain rfl := Option.some.inj hf
        exact r_ireturn X hQ rfl rfl (Nat.le_of_ble_eq_true rfl) (Nat.le_of_ble_eq_true rfl) dL_mayStart_14
      replace hf := ifF hf c2
      cases hf
  · intro o ho
    rcases hu1 : u with v | e1
    · rw [hu1] at ho hf
      cases ho
      replace hf : (some (0, vp_updL ou (ix 0) v.toInt64)) = some r := hf
      show VW k z 1 6 (wAll k T R ly rc hn rp tp ee st w aside thought fresh mu th mp mf mh mg ou od) 7 [some (.ref (k.b + (0))), some (.int x1), some (.ref (k.b + (197))), none] (.int v :: [.int 0, .ref (k.b + (197))])
      refine r_i2l X dL_mayStart_7 ?_
      refine r_lastore X (f := ou) (ws1 := wAll k T R ly rc hn rp tp ee st w aside thought fresh mu th mp mf mh mg (vp_updL ou (ix 0) v.toInt64) od) _ a_m_ou (by decide) (s_ou (vp_updL ou (ix 0) v.toInt64)) dL_mayStart_8 ?_
      refine r_goto X 15 dL_mayStart_9 rfl ?_
      refine r_iconst X (v := 0) dL_mayStart_15 rfl ?_
      obtain rfl := Option.some.inj hf
      exact r_ireturn X hQ rfl rfl (Nat.le_of_ble_eq_true rfl) (Nat.le_of_ble_eq_true rfl) dL_mayStart_16
    · rw [hu1] at ho
      cases ho
def hhL_joined : List (Nat × Nat × Nat × Nat) := [(0, 9, 12, 24)]
theorem hxL_joined_2 : HX RL hhL_joined 4 2 12 := ⟨[], (0, 9, 12, 24), [], rfl, (fun z hz => by cases hz), by decide, by decide, clL_24, csT_2, rfl⟩
set_option maxRecDepth 100000 in
theorem lkL_joined : LKW RL 252 yL_joined cL_joined 4 (some .int) hhL_joined 3 := ⟨(gb5 150 (by decide +kernel) (by decide +kernel)), (gb5 152 rfl (by decide +kernel)), (gb1 0 (by decide +kernel) (by decide +kernel)), by decide, by decide +kernel, (gb5 151 (by decide +kernel) (by decide +kernel))⟩
set_option maxRecDepth 100000 in
set_option maxHeartbeats 4000000 in
theorem KL_joined {k : KT} {T : TT} {R : RR} {ly : Fin 2 → LL} {rc : RC} {hn : HN} {rp : RP} {tp : TP} {ee : EE} {st : Fin 12 → SS} {w : Nat → Int64} {aside : Nat → Int64} {thought : Nat → Int64} {fresh : Nat → Int64} {mu : MU} {th : Int32} {mp : MP} {mf : MF} {mh : MH} {mg : MG} {ou : Nat → Int64} {od : Nat → UInt64} {x1 : Int32} {r : Int32 × (Nat → Int64)} (hf : fL_joined (ly (0 : Fin 2)) tp st ou x1 = some r) : CTW k strs yL_joined cL_joined 4 (some .int) hhL_joined (rmD 7 1 6) 1 6 [.ref (k.b + (0)), .int x1, .ref (k.b + (197))] (wAll k T R ly rc hn rp tp ee st w aside thought fresh mu th mp mf mh mg ou od) (some (.int r.1)) (wAll k T R ly rc hn rp tp ee st w aside thought fresh mu th mp mf mh mg r.2 od) := by
  refine CTW.of (by decide) (Nat.le_of_ble_eq_true rfl) ?_
  intro z X hT hQ
  show VW k z 0 0 (wAll k T R ly rc hn rp tp ee st w aside thought fresh mu th mp mf mh mg ou od) 0 [some (.ref (k.b + (0))), some (.int x1), some (.ref (k.b + (197))), none] []
  unfold fL_joined at hf
  obtain ⟨u, hu, hf⟩ := bdS hf
  refine r_aload_n X (x := k.b + (197)) dL_joined_0 rfl ?_
  refine r_iconst X (v := 0) dL_joined_1 rfl ?_
  refine r_aload_n X (x := k.b + (0)) dL_joined_2 rfl ?_
  refine r_iload_n X (x := x1) dL_joined_3 rfl ?_
  refine r_callX X hT [.int x1] [.int 0, .ref (k.b + (197))] (K9_joined hu) lkL_89 clsX9 rfl _ o_main (rle (by decide) (Nat.le_of_ble_eq_true rfl)) rfl rfl (Nat.le_of_ble_eq_true rfl) (Nat.le_of_ble_eq_true rfl) rfl rfl (Nat.le_of_ble_eq_true rfl) rfl dL_joined_4 ?_ ?_
  · intro e qx he he4
    rcases hu1 : u with v | e1
    · rw [hu1] at he
      cases he
    · rw [hu1] at he hf
      cases he
      replace hf : (if e = 2 then some (1, ou) else none) = some r := hf
      by_cases c2 : e = 2
      · replace hf := ifT hf c2
        subst c2
        refine ⟨12, hxL_joined_2, ?_⟩
        refine r_astore_n X [some (.ref (k.b + (0))), some (.int x1), some (.ref (k.b + (197))), some (.ref qx)] dL_joined_12 (Nat.le_of_ble_eq_true rfl) rfl ?_
        refine r_iconst X (v := 1) dL_joined_13 rfl ?_
        obtain rfl := Option.some.inj hf
        exact r_ireturn X hQ rfl rfl (Nat.le_of_ble_eq_true rfl) (Nat.le_of_ble_eq_true rfl) dL_joined_14
      replace hf := ifF hf c2
      cases hf
  · intro o ho
    rcases hu1 : u with v | e1
    · rw [hu1] at ho hf
      cases ho
      replace hf : (some (0, vp_updL ou (ix 0) v.toInt64)) = some r := hf
      show VW k z 1 6 (wAll k T R ly rc hn rp tp ee st w aside thought fresh mu th mp mf mh mg ou od) 7 [some (.ref (k.b + (0))), some (.int x1), some (.ref (k.b + (197))), none] (.int v :: [.int 0, .ref (k.b + (197))])
      refine r_i2l X dL_joined_7 ?_
      refine r_lastore X (f := ou) (ws1 := wAll k T R ly rc hn rp tp ee st w aside thought fresh mu th mp mf mh mg (vp_updL ou (ix 0) v.toInt64) od) _ a_m_ou (by decide) (s_ou (vp_updL ou (ix 0) v.toInt64)) dL_joined_8 ?_
      refine r_goto X 15 dL_joined_9 rfl ?_
      refine r_iconst X (v := 0) dL_joined_15 rfl ?_
      obtain rfl := Option.some.inj hf
      exact r_ireturn X hQ rfl rfl (Nat.le_of_ble_eq_true rfl) (Nat.le_of_ble_eq_true rfl) dL_joined_16
    · rw [hu1] at ho
      cases ho
def hhL_isVented : List (Nat × Nat × Nat × Nat) := [(0, 16, 19, 24)]
theorem hxL_isVented_2 : HX RL hhL_isVented 4 2 19 := ⟨[], (0, 16, 19, 24), [], rfl, (fun z hz => by cases hz), by decide, by decide, clL_24, csT_2, rfl⟩
set_option maxRecDepth 100000 in
theorem lkL_isVented : LKW RL 255 yL_isVented cL_isVented 4 (some .int) hhL_isVented 3 := ⟨(gb5 166 (by decide +kernel) (by decide +kernel)), (gb5 168 rfl (by decide +kernel)), (gb1 0 (by decide +kernel) (by decide +kernel)), by decide, by decide +kernel, (gb5 167 (by decide +kernel) (by decide +kernel))⟩
set_option maxRecDepth 100000 in
set_option maxHeartbeats 4000000 in
theorem KL_isVented {k : KT} {T : TT} {R : RR} {ly : Fin 2 → LL} {rc : RC} {hn : HN} {rp : RP} {tp : TP} {ee : EE} {st : Fin 12 → SS} {w : Nat → Int64} {aside : Nat → Int64} {thought : Nat → Int64} {fresh : Nat → Int64} {mu : MU} {th : Int32} {mp : MP} {mf : MF} {mh : MH} {mg : MG} {ou : Nat → Int64} {od : Nat → UInt64} {x1 : Int32} {r : Int32 × (Nat → Int64)} (hf : fL_isVented (ly (0 : Fin 2)) tp st ou x1 = some r) : CTW k strs yL_isVented cL_isVented 4 (some .int) hhL_isVented (rmD 7 1 6) 1 6 [.ref (k.b + (0)), .int x1, .ref (k.b + (197))] (wAll k T R ly rc hn rp tp ee st w aside thought fresh mu th mp mf mh mg ou od) (some (.int r.1)) (wAll k T R ly rc hn rp tp ee st w aside thought fresh mu th mp mf mh mg r.2 od) := by
  refine CTW.of (by decide) (Nat.le_of_ble_eq_true rfl) ?_
  intro z X hT hQ
  show VW k z 0 0 (wAll k T R ly rc hn rp tp ee st w aside thought fresh mu th mp mf mh mg ou od) 0 [some (.ref (k.b + (0))), some (.int x1), some (.ref (k.b + (197))), none] []
  unfold fL_isVented at hf
  obtain ⟨u, hu, hf⟩ := bdS hf
  refine r_aload_n X (x := k.b + (197)) dL_isVented_0 rfl ?_
  refine r_iconst X (v := 0) dL_isVented_1 rfl ?_
  refine r_aload_n X (x := k.b + (0)) dL_isVented_2 rfl ?_
  refine r_iload_n X (x := x1) dL_isVented_3 rfl ?_
  refine r_callX X hT [.int x1] [.int 0, .ref (k.b + (197))] (K9_isVented hu) lkL_92 clsX9 rfl _ o_main (rle (by decide) (Nat.le_of_ble_eq_true rfl)) rfl rfl (Nat.le_of_ble_eq_true rfl) (Nat.le_of_ble_eq_true rfl) rfl rfl (Nat.le_of_ble_eq_true rfl) rfl dL_isVented_4 ?_ ?_
  · intro e qx he he4
    rcases hu1 : u with v | e1
    · rw [hu1] at he
      cases he
    · rw [hu1] at he hf
      cases he
      replace hf : (if e = 2 then some (1, ou) else none) = some r := hf
      by_cases c2 : e = 2
      · replace hf := ifT hf c2
        subst c2
        refine ⟨19, hxL_isVented_2, ?_⟩
        refine r_astore_n X [some (.ref (k.b + (0))), some (.int x1), some (.ref (k.b + (197))), some (.ref qx)] dL_isVented_19 (Nat.le_of_ble_eq_true rfl) rfl ?_
        refine r_iconst X (v := 1) dL_isVented_20 rfl ?_
        obtain rfl := Option.some.inj hf
        exact r_ireturn X hQ rfl rfl (Nat.le_of_ble_eq_true rfl) (Nat.le_of_ble_eq_true rfl) dL_isVented_21
      replace hf := ifF hf c2
      cases hf
  · intro o ho
    rcases hu1 : u with v | e1
    · rw [hu1] at ho hf
      cases ho
      replace hf : (if v = 0 then some (0, vp_updL ou (ix 0) 0) else some (0, vp_updL ou (ix 0) 1)) = some r := hf
      show VW k z 1 6 (wAll k T R ly rc hn rp tp ee st w aside thought fresh mu th mp mf mh mg ou od) 7 [some (.ref (k.b + (0))), some (.int x1), some (.ref (k.b + (197))), none] (.int v :: [.int 0, .ref (k.b + (197))])
      refine r_if_eq X 14 dL_isVented_7 rfl (fun c9 => ?_) (fun c9 => ?_)
      · replace hf := ifT hf c9
        refine r_lconst X (v := 0) dL_isVented_14 rfl ?_
        refine r_lastore X (f := ou) (ws1 := wAll k T R ly rc hn rp tp ee st w aside thought fresh mu th mp mf mh mg (vp_updL ou (ix 0) 0) od) _ a_m_ou (by decide) (s_ou (vp_updL ou (ix 0) 0)) dL_isVented_15 ?_
        refine r_goto X 22 dL_isVented_16 rfl ?_
        refine r_iconst X (v := 0) dL_isVented_22 rfl ?_
        obtain rfl := Option.some.inj hf
        exact r_ireturn X hQ rfl rfl (Nat.le_of_ble_eq_true rfl) (Nat.le_of_ble_eq_true rfl) dL_isVented_23
      · replace hf := ifF hf c9
        refine r_lconst X (v := 1) dL_isVented_10 rfl ?_
        refine r_goto X 15 dL_isVented_11 rfl ?_
        refine r_lastore X (f := ou) (ws1 := wAll k T R ly rc hn rp tp ee st w aside thought fresh mu th mp mf mh mg (vp_updL ou (ix 0) 1) od) _ a_m_ou (by decide) (s_ou (vp_updL ou (ix 0) 1)) dL_isVented_15 ?_
        refine r_goto X 22 dL_isVented_16 rfl ?_
        refine r_iconst X (v := 0) dL_isVented_22 rfl ?_
        obtain rfl := Option.some.inj hf
        exact r_ireturn X hQ rfl rfl (Nat.le_of_ble_eq_true rfl) (Nat.le_of_ble_eq_true rfl) dL_isVented_23
    · rw [hu1] at ho
      cases ho
def hhL_spread : List (Nat × Nat × Nat × Nat) := [(0, 9, 12, 24)]
theorem hxL_spread_2 : HX RL hhL_spread 4 2 12 := ⟨[], (0, 9, 12, 24), [], rfl, (fun z hz => by cases hz), by decide, by decide, clL_24, csT_2, rfl⟩
set_option maxRecDepth 100000 in
theorem lkL_spread : LKW RL 258 yL_spread cL_spread 4 (some .int) hhL_spread 3 := ⟨(gb5 174 (by decide +kernel) (by decide +kernel)), (gb5 176 rfl (by decide +kernel)), (gb1 0 (by decide +kernel) (by decide +kernel)), by decide, by decide +kernel, (gb5 175 (by decide +kernel) (by decide +kernel))⟩
set_option maxRecDepth 100000 in
set_option maxHeartbeats 4000000 in
theorem KL_spread {k : KT} {T : TT} {R : RR} {ly : Fin 2 → LL} {rc : RC} {hn : HN} {rp : RP} {tp : TP} {ee : EE} {st : Fin 12 → SS} {w : Nat → Int64} {aside : Nat → Int64} {thought : Nat → Int64} {fresh : Nat → Int64} {mu : MU} {th : Int32} {mp : MP} {mf : MF} {mh : MH} {mg : MG} {ou : Nat → Int64} {od : Nat → UInt64} {x1 : Int32} {r : Int32 × (Nat → Int64)} (hf : fL_spread (ly (0 : Fin 2)) tp st ou x1 = some r) : CTW k strs yL_spread cL_spread 4 (some .int) hhL_spread (rmD 7 1 6) 1 6 [.ref (k.b + (0)), .int x1, .ref (k.b + (197))] (wAll k T R ly rc hn rp tp ee st w aside thought fresh mu th mp mf mh mg ou od) (some (.int r.1)) (wAll k T R ly rc hn rp tp ee st w aside thought fresh mu th mp mf mh mg r.2 od) := by
  refine CTW.of (by decide) (Nat.le_of_ble_eq_true rfl) ?_
  intro z X hT hQ
  show VW k z 0 0 (wAll k T R ly rc hn rp tp ee st w aside thought fresh mu th mp mf mh mg ou od) 0 [some (.ref (k.b + (0))), some (.int x1), some (.ref (k.b + (197))), none] []
  unfold fL_spread at hf
  obtain ⟨u, hu, hf⟩ := bdS hf
  refine r_aload_n X (x := k.b + (197)) dL_spread_0 rfl ?_
  refine r_iconst X (v := 0) dL_spread_1 rfl ?_
  refine r_aload_n X (x := k.b + (0)) dL_spread_2 rfl ?_
  refine r_iload_n X (x := x1) dL_spread_3 rfl ?_
  refine r_callX X hT [.int x1] [.int 0, .ref (k.b + (197))] (K9_spread hu) lkL_96 clsX9 rfl _ o_main (rle (by decide) (Nat.le_of_ble_eq_true rfl)) rfl rfl (Nat.le_of_ble_eq_true rfl) (Nat.le_of_ble_eq_true rfl) rfl rfl (Nat.le_of_ble_eq_true rfl) rfl dL_spread_4 ?_ ?_
  · intro e qx he he4
    rcases hu1 : u with v | e1
    · rw [hu1] at he
      cases he
    · rw [hu1] at he hf
      cases he
      replace hf : (if e = 2 then some (1, ou) else none) = some r := hf
      by_cases c2 : e = 2
      · replace hf := ifT hf c2
        subst c2
        refine ⟨12, hxL_spread_2, ?_⟩
        refine r_astore_n X [some (.ref (k.b + (0))), some (.int x1), some (.ref (k.b + (197))), some (.ref qx)] dL_spread_12 (Nat.le_of_ble_eq_true rfl) rfl ?_
        refine r_iconst X (v := 1) dL_spread_13 rfl ?_
        obtain rfl := Option.some.inj hf
        exact r_ireturn X hQ rfl rfl (Nat.le_of_ble_eq_true rfl) (Nat.le_of_ble_eq_true rfl) dL_spread_14
      replace hf := ifF hf c2
      cases hf
  · intro o ho
    rcases hu1 : u with v | e1
    · rw [hu1] at ho hf
      cases ho
      replace hf : (some (0, vp_updL ou (ix 0) v.toInt64)) = some r := hf
      show VW k z 1 6 (wAll k T R ly rc hn rp tp ee st w aside thought fresh mu th mp mf mh mg ou od) 7 [some (.ref (k.b + (0))), some (.int x1), some (.ref (k.b + (197))), none] (.int v :: [.int 0, .ref (k.b + (197))])
      refine r_i2l X dL_spread_7 ?_
      refine r_lastore X (f := ou) (ws1 := wAll k T R ly rc hn rp tp ee st w aside thought fresh mu th mp mf mh mg (vp_updL ou (ix 0) v.toInt64) od) _ a_m_ou (by decide) (s_ou (vp_updL ou (ix 0) v.toInt64)) dL_spread_8 ?_
      refine r_goto X 15 dL_spread_9 rfl ?_
      refine r_iconst X (v := 0) dL_spread_15 rfl ?_
      obtain rfl := Option.some.inj hf
      exact r_ireturn X hQ rfl rfl (Nat.le_of_ble_eq_true rfl) (Nat.le_of_ble_eq_true rfl) dL_spread_16
    · rw [hu1] at ho
      cases ho
def hhL_isIsolated : List (Nat × Nat × Nat × Nat) := [(0, 16, 19, 24)]
theorem hxL_isIsolated_2 : HX RL hhL_isIsolated 4 2 19 := ⟨[], (0, 16, 19, 24), [], rfl, (fun z hz => by cases hz), by decide, by decide, clL_24, csT_2, rfl⟩
set_option maxRecDepth 100000 in
theorem lkL_isIsolated : LKW RL 261 yL_isIsolated cL_isIsolated 4 (some .int) hhL_isIsolated 3 := ⟨(gb5 184 (by decide +kernel) (by decide +kernel)), (gb5 186 rfl (by decide +kernel)), (gb1 0 (by decide +kernel) (by decide +kernel)), by decide, by decide +kernel, (gb5 185 (by decide +kernel) (by decide +kernel))⟩
set_option maxRecDepth 100000 in
set_option maxHeartbeats 4000000 in
theorem KL_isIsolated {k : KT} {T : TT} {R : RR} {ly : Fin 2 → LL} {rc : RC} {hn : HN} {rp : RP} {tp : TP} {ee : EE} {st : Fin 12 → SS} {w : Nat → Int64} {aside : Nat → Int64} {thought : Nat → Int64} {fresh : Nat → Int64} {mu : MU} {th : Int32} {mp : MP} {mf : MF} {mh : MH} {mg : MG} {ou : Nat → Int64} {od : Nat → UInt64} {x1 : Int32} {r : Int32 × (Nat → Int64)} (hf : fL_isIsolated (ly (0 : Fin 2)) tp st ou x1 = some r) : CTW k strs yL_isIsolated cL_isIsolated 4 (some .int) hhL_isIsolated (rmD 7 1 6) 1 6 [.ref (k.b + (0)), .int x1, .ref (k.b + (197))] (wAll k T R ly rc hn rp tp ee st w aside thought fresh mu th mp mf mh mg ou od) (some (.int r.1)) (wAll k T R ly rc hn rp tp ee st w aside thought fresh mu th mp mf mh mg r.2 od) := by
  refine CTW.of (by decide) (Nat.le_of_ble_eq_true rfl) ?_
  intro z X hT hQ
  show VW k z 0 0 (wAll k T R ly rc hn rp tp ee st w aside thought fresh mu th mp mf mh mg ou od) 0 [some (.ref (k.b + (0))), some (.int x1), some (.ref (k.b + (197))), none] []
  unfold fL_isIsolated at hf
  obtain ⟨u, hu, hf⟩ := bdS hf
  refine r_aload_n X (x := k.b + (197)) dL_isIsolated_0 rfl ?_
  refine r_iconst X (v := 0) dL_isIsolated_1 rfl ?_
  refine r_aload_n X (x := k.b + (0)) dL_isIsolated_2 rfl ?_
  refine r_iload_n X (x := x1) dL_isIsolated_3 rfl ?_
  refine r_callX X hT [.int x1] [.int 0, .ref (k.b + (197))] (K9_isIsolated hu) lkL_99 clsX9 rfl _ o_main (rle (by decide) (Nat.le_of_ble_eq_true rfl)) rfl rfl (Nat.le_of_ble_eq_true rfl) (Nat.le_of_ble_eq_true rfl) rfl rfl (Nat.le_of_ble_eq_true rfl) rfl dL_isIsolated_4 ?_ ?_
  · intro e qx he he4
    rcases hu1 : u with v | e1
    · rw [hu1] at he
      cases he
    · rw [hu1] at he hf
      cases he
      replace hf : (if e = 2 then some (1, ou) else none) = some r := hf
      by_cases c2 : e = 2
      · replace hf := ifT hf c2
        subst c2
        refine ⟨19, hxL_isIsolated_2, ?_⟩
        refine r_astore_n X [some (.ref (k.b + (0))), some (.int x1), some (.ref (k.b + (197))), some (.ref qx)] dL_isIsolated_19 (Nat.le_of_ble_eq_true rfl) rfl ?_
        refine r_iconst X (v := 1) dL_isIsolated_20 rfl ?_
        obtain rfl := Option.some.inj hf
        exact r_ireturn X hQ rfl rfl (Nat.le_of_ble_eq_true rfl) (Nat.le_of_ble_eq_true rfl) dL_isIsolated_21
      replace hf := ifF hf c2
      cases hf
  · intro o ho
    rcases hu1 : u with v | e1
    · rw [hu1] at ho hf
      cases ho
      replace hf : (if v = 0 then some (0, vp_updL ou (ix 0) 0) else some (0, vp_updL ou (ix 0) 1)) = some r := hf
      show VW k z 1 6 (wAll k T R ly rc hn rp tp ee st w aside thought fresh mu th mp mf mh mg ou od) 7 [some (.ref (k.b + (0))), some (.int x1), some (.ref (k.b + (197))), none] (.int v :: [.int 0, .ref (k.b + (197))])
      refine r_if_eq X 14 dL_isIsolated_7 rfl (fun c9 => ?_) (fun c9 => ?_)
      · replace hf := ifT hf c9
        refine r_lconst X (v := 0) dL_isIsolated_14 rfl ?_
        refine r_lastore X (f := ou) (ws1 := wAll k T R ly rc hn rp tp ee st w aside thought fresh mu th mp mf mh mg (vp_updL ou (ix 0) 0) od) _ a_m_ou (by decide) (s_ou (vp_updL ou (ix 0) 0)) dL_isIsolated_15 ?_
        refine r_goto X 22 dL_isIsolated_16 rfl ?_
        refine r_iconst X (v := 0) dL_isIsolated_22 rfl ?_
        obtain rfl := Option.some.inj hf
        exact r_ireturn X hQ rfl rfl (Nat.le_of_ble_eq_true rfl) (Nat.le_of_ble_eq_true rfl) dL_isIsolated_23
      · replace hf := ifF hf c9
        refine r_lconst X (v := 1) dL_isIsolated_10 rfl ?_
        refine r_goto X 15 dL_isIsolated_11 rfl ?_
        refine r_lastore X (f := ou) (ws1 := wAll k T R ly rc hn rp tp ee st w aside thought fresh mu th mp mf mh mg (vp_updL ou (ix 0) 1) od) _ a_m_ou (by decide) (s_ou (vp_updL ou (ix 0) 1)) dL_isIsolated_15 ?_
        refine r_goto X 22 dL_isIsolated_16 rfl ?_
        refine r_iconst X (v := 0) dL_isIsolated_22 rfl ?_
        obtain rfl := Option.some.inj hf
        exact r_ireturn X hQ rfl rfl (Nat.le_of_ble_eq_true rfl) (Nat.le_of_ble_eq_true rfl) dL_isIsolated_23
    · rw [hu1] at ho
      cases ho
def hhL_fewestValves : List (Nat × Nat × Nat × Nat) := [(0, 10, 13, 24), (0, 10, 17, 19)]
theorem hxL_fewestValves_2 : HX RL hhL_fewestValves 5 2 13 := ⟨[], (0, 10, 13, 24), [(0, 10, 17, 19)], rfl, (fun z hz => by cases hz), by decide, by decide, clL_24, csT_2, rfl⟩
theorem hxL_fewestValves_1 : HX RL hhL_fewestValves 5 1 17 := ⟨[(0, 10, 13, 24)], (0, 10, 17, 19), [], rfl, (fun z hz => by
    rcases List.mem_singleton.mp hz with rfl
    exact Or.inr ⟨by decide, 2, by decide, by decide, clL_24⟩), by decide, by decide, clL_19, csT_1, rfl⟩
set_option maxRecDepth 100000 in
theorem lkL_fewestValves : LKW RL 264 yL_fewestValves cL_fewestValves 5 (some .int) hhL_fewestValves 4 := ⟨(gb5 191 (by decide +kernel) (by decide +kernel)), (gb5 193 rfl (by decide +kernel)), (gb1 0 (by decide +kernel) (by decide +kernel)), by decide, by decide +kernel, (gb5 192 (by decide +kernel) (by decide +kernel))⟩
set_option maxRecDepth 100000 in
set_option maxHeartbeats 4000000 in
theorem KL_fewestValves {k : KT} {T : TT} {R : RR} {ly : Fin 2 → LL} {rc : RC} {hn : HN} {rp : RP} {tp : TP} {ee : EE} {st : Fin 12 → SS} {w : Nat → Int64} {aside : Nat → Int64} {thought : Nat → Int64} {fresh : Nat → Int64} {mu : MU} {th : Int32} {mp : MP} {mf : MF} {mh : MH} {mg : MG} {ou : Nat → Int64} {od : Nat → UInt64} {x1 : Int32} {x2 : Int32} {r : Int32 × (Nat → Int64)} (hf : fL_fewestValves (ly (0 : Fin 2)) ou x1 x2 = some r) : CTW k strs yL_fewestValves cL_fewestValves 5 (some .int) hhL_fewestValves (rmD 7 1 6) 1 6 [.ref (k.b + (0)), .int x1, .int x2, .ref (k.b + (197))] (wAll k T R ly rc hn rp tp ee st w aside thought fresh mu th mp mf mh mg ou od) (some (.int r.1)) (wAll k T R ly rc hn rp tp ee st w aside thought fresh mu th mp mf mh mg r.2 od) := by
  refine CTW.of (by decide) (Nat.le_of_ble_eq_true rfl) ?_
  intro z X hT hQ
  show VW k z 0 0 (wAll k T R ly rc hn rp tp ee st w aside thought fresh mu th mp mf mh mg ou od) 0 [some (.ref (k.b + (0))), some (.int x1), some (.int x2), some (.ref (k.b + (197))), none] []
  unfold fL_fewestValves at hf
  obtain ⟨u, hu, hf⟩ := bdS hf
  refine r_aload_n X (x := k.b + (197)) dL_fewestValves_0 rfl ?_
  refine r_iconst X (v := 0) dL_fewestValves_1 rfl ?_
  refine r_aload_n X (x := k.b + (0)) dL_fewestValves_2 rfl ?_
  refine r_iload_n X (x := x1) dL_fewestValves_3 rfl ?_
  refine r_iload_n X (x := x2) dL_fewestValves_4 rfl ?_
  refine r_callX X hT [.int x1, .int x2] [.int 0, .ref (k.b + (197))] (K9_fewestValves hu) lkL_102 clsX9 rfl _ o_main (rle (by decide) (Nat.le_of_ble_eq_true rfl)) rfl rfl (Nat.le_of_ble_eq_true rfl) (Nat.le_of_ble_eq_true rfl) rfl rfl (Nat.le_of_ble_eq_true rfl) rfl dL_fewestValves_5 ?_ ?_
  · intro e qx he he4
    rcases hu1 : u with v | e1
    · rw [hu1] at he
      cases he
    · rw [hu1] at he hf
      cases he
      replace hf : (if e = 2 then some (1, ou) else if e = 1 then some (2, ou) else none) = some r := hf
      by_cases c2 : e = 2
      · replace hf := ifT hf c2
        subst c2
        refine ⟨13, hxL_fewestValves_2, ?_⟩
        refine r_astore X [some (.ref (k.b + (0))), some (.int x1), some (.int x2), some (.ref (k.b + (197))), some (.ref qx)] dL_fewestValves_13 (Nat.le_of_ble_eq_true rfl) rfl ?_
        refine r_iconst X (v := 1) dL_fewestValves_15 rfl ?_
        obtain rfl := Option.some.inj hf
        exact r_ireturn X hQ rfl rfl (Nat.le_of_ble_eq_true rfl) (Nat.le_of_ble_eq_true rfl) dL_fewestValves_16
      replace hf := ifF hf c2
      by_cases c1 : e = 1
      · replace hf := ifT hf c1
        subst c1
        refine ⟨17, hxL_fewestValves_1, ?_⟩
        refine r_astore X [some (.ref (k.b + (0))), some (.int x1), some (.int x2), some (.ref (k.b + (197))), some (.ref qx)] dL_fewestValves_17 (Nat.le_of_ble_eq_true rfl) rfl ?_
        refine r_iconst X (v := 2) dL_fewestValves_19 rfl ?_
        obtain rfl := Option.some.inj hf
        exact r_ireturn X hQ rfl rfl (Nat.le_of_ble_eq_true rfl) (Nat.le_of_ble_eq_true rfl) dL_fewestValves_20
      replace hf := ifF hf c1
      cases hf
  · intro o ho
    rcases hu1 : u with v | e1
    · rw [hu1] at ho hf
      cases ho
      replace hf : (some (0, vp_updL ou (ix 0) v.toInt64)) = some r := hf
      show VW k z 1 6 (wAll k T R ly rc hn rp tp ee st w aside thought fresh mu th mp mf mh mg ou od) 8 [some (.ref (k.b + (0))), some (.int x1), some (.int x2), some (.ref (k.b + (197))), none] (.int v :: [.int 0, .ref (k.b + (197))])
      refine r_i2l X dL_fewestValves_8 ?_
      refine r_lastore X (f := ou) (ws1 := wAll k T R ly rc hn rp tp ee st w aside thought fresh mu th mp mf mh mg (vp_updL ou (ix 0) v.toInt64) od) _ a_m_ou (by decide) (s_ou (vp_updL ou (ix 0) v.toInt64)) dL_fewestValves_9 ?_
      refine r_goto X 21 dL_fewestValves_10 rfl ?_
      refine r_iconst X (v := 0) dL_fewestValves_21 rfl ?_
      obtain rfl := Option.some.inj hf
      exact r_ireturn X hQ rfl rfl (Nat.le_of_ble_eq_true rfl) (Nat.le_of_ble_eq_true rfl) dL_fewestValves_22
    · rw [hu1] at ho
      cases ho
def hhL_settled : List (Nat × Nat × Nat × Nat) := [(0, 9, 12, 24)]
theorem hxL_settled_2 : HX RL hhL_settled 4 2 12 := ⟨[], (0, 9, 12, 24), [], rfl, (fun z hz => by cases hz), by decide, by decide, clL_24, csT_2, rfl⟩
set_option maxRecDepth 100000 in
theorem lkL_settled : LKW RL 267 yL_settled cL_settled 4 (some .int) hhL_settled 3 := ⟨(gb5 203 (by decide +kernel) (by decide +kernel)), (gb5 205 rfl (by decide +kernel)), (gb1 0 (by decide +kernel) (by decide +kernel)), by decide, by decide +kernel, (gb5 204 (by decide +kernel) (by decide +kernel))⟩
set_option maxRecDepth 100000 in
set_option maxHeartbeats 4000000 in
theorem KL_settled {k : KT} {T : TT} {R : RR} {ly : Fin 2 → LL} {rc : RC} {hn : HN} {rp : RP} {tp : TP} {ee : EE} {st : Fin 12 → SS} {w : Nat → Int64} {aside : Nat → Int64} {thought : Nat → Int64} {fresh : Nat → Int64} {mu : MU} {th : Int32} {mp : MP} {mf : MF} {mh : MH} {mg : MG} {ou : Nat → Int64} {od : Nat → UInt64} {x1 : Int32} {r : Int32 × (Nat → Int64)} (hf : fL_settled (ly (0 : Fin 2)) tp st ou x1 = some r) : CTW k strs yL_settled cL_settled 4 (some .int) hhL_settled (rmD 7 1 6) 1 6 [.ref (k.b + (0)), .int x1, .ref (k.b + (197))] (wAll k T R ly rc hn rp tp ee st w aside thought fresh mu th mp mf mh mg ou od) (some (.int r.1)) (wAll k T R ly rc hn rp tp ee st w aside thought fresh mu th mp mf mh mg r.2 od) := by
  refine CTW.of (by decide) (Nat.le_of_ble_eq_true rfl) ?_
  intro z X hT hQ
  show VW k z 0 0 (wAll k T R ly rc hn rp tp ee st w aside thought fresh mu th mp mf mh mg ou od) 0 [some (.ref (k.b + (0))), some (.int x1), some (.ref (k.b + (197))), none] []
  unfold fL_settled at hf
  obtain ⟨u, hu, hf⟩ := bdS hf
  refine r_aload_n X (x := k.b + (197)) dL_settled_0 rfl ?_
  refine r_iconst X (v := 0) dL_settled_1 rfl ?_
  refine r_aload_n X (x := k.b + (0)) dL_settled_2 rfl ?_
  refine r_iload_n X (x := x1) dL_settled_3 rfl ?_
  refine r_callX X hT [.int x1] [.int 0, .ref (k.b + (197))] (K9_settled hu) lkL_105 clsX9 rfl _ o_main (rle (by decide) (Nat.le_of_ble_eq_true rfl)) rfl rfl (Nat.le_of_ble_eq_true rfl) (Nat.le_of_ble_eq_true rfl) rfl rfl (Nat.le_of_ble_eq_true rfl) rfl dL_settled_4 ?_ ?_
  · intro e qx he he4
    rcases hu1 : u with v | e1
    · rw [hu1] at he
      cases he
    · rw [hu1] at he hf
      cases he
      replace hf : (if e = 2 then some (1, ou) else none) = some r := hf
      by_cases c2 : e = 2
      · replace hf := ifT hf c2
        subst c2
        refine ⟨12, hxL_settled_2, ?_⟩
        refine r_astore_n X [some (.ref (k.b + (0))), some (.int x1), some (.ref (k.b + (197))), some (.ref qx)] dL_settled_12 (Nat.le_of_ble_eq_true rfl) rfl ?_
        refine r_iconst X (v := 1) dL_settled_13 rfl ?_
        obtain rfl := Option.some.inj hf
        exact r_ireturn X hQ rfl rfl (Nat.le_of_ble_eq_true rfl) (Nat.le_of_ble_eq_true rfl) dL_settled_14
      replace hf := ifF hf c2
      cases hf
  · intro o ho
    rcases hu1 : u with v | e1
    · rw [hu1] at ho hf
      cases ho
      replace hf : (some (0, vp_updL ou (ix 0) v.toInt64)) = some r := hf
      show VW k z 1 6 (wAll k T R ly rc hn rp tp ee st w aside thought fresh mu th mp mf mh mg ou od) 7 [some (.ref (k.b + (0))), some (.int x1), some (.ref (k.b + (197))), none] (.int v :: [.int 0, .ref (k.b + (197))])
      refine r_i2l X dL_settled_7 ?_
      refine r_lastore X (f := ou) (ws1 := wAll k T R ly rc hn rp tp ee st w aside thought fresh mu th mp mf mh mg (vp_updL ou (ix 0) v.toInt64) od) _ a_m_ou (by decide) (s_ou (vp_updL ou (ix 0) v.toInt64)) dL_settled_8 ?_
      refine r_goto X 15 dL_settled_9 rfl ?_
      refine r_iconst X (v := 0) dL_settled_15 rfl ?_
      obtain rfl := Option.some.inj hf
      exact r_ireturn X hQ rfl rfl (Nat.le_of_ble_eq_true rfl) (Nat.le_of_ble_eq_true rfl) dL_settled_16
    · rw [hu1] at ho
      cases ho
def hhL_widest : List (Nat × Nat × Nat × Nat) := [(0, 8, 11, 112)]
theorem hxL_widest_3 : HX RL hhL_widest 3 3 11 := ⟨[], (0, 8, 11, 112), [], rfl, (fun z hz => by cases hz), by decide, by decide, clL_112, csT_3, rfl⟩
set_option maxRecDepth 100000 in
theorem lkL_widest : LKW RL 274 yL_widest cL_widest 3 (some .int) hhL_widest 2 := ⟨(gb5 210 (by decide +kernel) (by decide +kernel)), (gb5 212 rfl (by decide +kernel)), (gb1 0 (by decide +kernel) (by decide +kernel)), by decide, by decide +kernel, (gb5 211 (by decide +kernel) (by decide +kernel))⟩
set_option maxRecDepth 100000 in
set_option maxHeartbeats 4000000 in
theorem KL_widest {k : KT} {T : TT} {R : RR} {ly : Fin 2 → LL} {rc : RC} {hn : HN} {rp : RP} {tp : TP} {ee : EE} {st : Fin 12 → SS} {w : Nat → Int64} {aside : Nat → Int64} {thought : Nat → Int64} {fresh : Nat → Int64} {mu : MU} {th : Int32} {mp : MP} {mf : MF} {mh : MH} {mg : MG} {ou : Nat → Int64} {od : Nat → UInt64}  {r : Int32 × (Nat → Int64)} (hf : fL_widest (ly (0 : Fin 2)) tp st ou = some r) : CTW k strs yL_widest cL_widest 3 (some .int) hhL_widest (rmD 7 1 6) 1 6 [.ref (k.b + (0)), .ref (k.b + (197))] (wAll k T R ly rc hn rp tp ee st w aside thought fresh mu th mp mf mh mg ou od) (some (.int r.1)) (wAll k T R ly rc hn rp tp ee st w aside thought fresh mu th mp mf mh mg r.2 od) := by
  refine CTW.of (by decide) (Nat.le_of_ble_eq_true rfl) ?_
  intro z X hT hQ
  show VW k z 0 0 (wAll k T R ly rc hn rp tp ee st w aside thought fresh mu th mp mf mh mg ou od) 0 [some (.ref (k.b + (0))), some (.ref (k.b + (197))), none] []
  unfold fL_widest at hf
  obtain ⟨u, hu, hf⟩ := bdS hf
  refine r_aload_n X (x := k.b + (197)) dL_widest_0 rfl ?_
  refine r_iconst X (v := 0) dL_widest_1 rfl ?_
  refine r_aload_n X (x := k.b + (0)) dL_widest_2 rfl ?_
  refine r_callX X hT [] [.int 0, .ref (k.b + (197))] (K9_widest hu) lkL_108 clsX9 rfl _ o_main (rle (by decide) (Nat.le_of_ble_eq_true rfl)) rfl rfl (Nat.le_of_ble_eq_true rfl) (Nat.le_of_ble_eq_true rfl) rfl rfl (Nat.le_of_ble_eq_true rfl) rfl dL_widest_3 ?_ ?_
  · intro e qx he he4
    rcases hu1 : u with v | e1
    · rw [hu1] at he
      cases he
    · rw [hu1] at he hf
      cases he
      replace hf : (if e = 3 then some (1, ou) else none) = some r := hf
      by_cases c3 : e = 3
      · replace hf := ifT hf c3
        subst c3
        refine ⟨11, hxL_widest_3, ?_⟩
        refine r_astore_n X [some (.ref (k.b + (0))), some (.ref (k.b + (197))), some (.ref qx)] dL_widest_11 (Nat.le_of_ble_eq_true rfl) rfl ?_
        refine r_iconst X (v := 1) dL_widest_12 rfl ?_
        obtain rfl := Option.some.inj hf
        exact r_ireturn X hQ rfl rfl (Nat.le_of_ble_eq_true rfl) (Nat.le_of_ble_eq_true rfl) dL_widest_13
      replace hf := ifF hf c3
      cases hf
  · intro o ho
    rcases hu1 : u with v | e1
    · rw [hu1] at ho hf
      cases ho
      replace hf : (some (0, vp_updL ou (ix 0) v.toInt64)) = some r := hf
      show VW k z 1 6 (wAll k T R ly rc hn rp tp ee st w aside thought fresh mu th mp mf mh mg ou od) 6 [some (.ref (k.b + (0))), some (.ref (k.b + (197))), none] (.int v :: [.int 0, .ref (k.b + (197))])
      refine r_i2l X dL_widest_6 ?_
      refine r_lastore X (f := ou) (ws1 := wAll k T R ly rc hn rp tp ee st w aside thought fresh mu th mp mf mh mg (vp_updL ou (ix 0) v.toInt64) od) _ a_m_ou (by decide) (s_ou (vp_updL ou (ix 0) v.toInt64)) dL_widest_7 ?_
      refine r_goto X 14 dL_widest_8 rfl ?_
      refine r_iconst X (v := 0) dL_widest_14 rfl ?_
      obtain rfl := Option.some.inj hf
      exact r_ireturn X hQ rfl rfl (Nat.le_of_ble_eq_true rfl) (Nat.le_of_ble_eq_true rfl) dL_widest_15
    · rw [hu1] at ho
      cases ho
def hhL_pressureAfter : List (Nat × Nat × Nat × Nat) := [(0, 10, 13, 24), (0, 10, 17, 19)]
theorem hxL_pressureAfter_2 : HX RL hhL_pressureAfter 5 2 13 := ⟨[], (0, 10, 13, 24), [(0, 10, 17, 19)], rfl, (fun z hz => by cases hz), by decide, by decide, clL_24, csT_2, rfl⟩
theorem hxL_pressureAfter_1 : HX RL hhL_pressureAfter 5 1 17 := ⟨[(0, 10, 13, 24)], (0, 10, 17, 19), [], rfl, (fun z hz => by
    rcases List.mem_singleton.mp hz with rfl
    exact Or.inr ⟨by decide, 2, by decide, by decide, clL_24⟩), by decide, by decide, clL_19, csT_1, rfl⟩
set_option maxRecDepth 100000 in
theorem lkL_pressureAfter : LKW RL 278 yL_pressureAfter cL_pressureAfter 5 (some .int) hhL_pressureAfter 4 := ⟨(gb5 233 (by decide +kernel) (by decide +kernel)), (gb5 235 rfl (by decide +kernel)), (gb1 0 (by decide +kernel) (by decide +kernel)), by decide, by decide +kernel, (gb5 234 (by decide +kernel) (by decide +kernel))⟩
set_option maxRecDepth 100000 in
set_option maxHeartbeats 4000000 in
theorem KL_pressureAfter {k : KT} {T : TT} {R : RR} {ly : Fin 2 → LL} {rc : RC} {hn : HN} {rp : RP} {tp : TP} {ee : EE} {st : Fin 12 → SS} {w : Nat → Int64} {aside : Nat → Int64} {thought : Nat → Int64} {fresh : Nat → Int64} {mu : MU} {th : Int32} {mp : MP} {mf : MF} {mh : MH} {mg : MG} {ou : Nat → Int64} {od : Nat → UInt64} {x1 : Int32} {x2 : Int32} {r : Int32 × (Fin 12 → SS) × (Nat → Int64)} (hf : fL_pressureAfter (ly (0 : Fin 2)) tp st ou x1 x2 = some r) : CTW k strs yL_pressureAfter cL_pressureAfter 5 (some .int) hhL_pressureAfter (rmD 7 1 6) 1 6 [.ref (k.b + (0)), .int x1, .int x2, .ref (k.b + (197))] (wAll k T R ly rc hn rp tp ee st w aside thought fresh mu th mp mf mh mg ou od) (some (.int r.1)) (wAll k T R ly rc hn rp tp ee r.2.1 w aside thought fresh mu th mp mf mh mg r.2.2 od) := by
  refine CTW.of (by decide) (Nat.le_of_ble_eq_true rfl) ?_
  intro z X hT hQ
  show VW k z 0 0 (wAll k T R ly rc hn rp tp ee st w aside thought fresh mu th mp mf mh mg ou od) 0 [some (.ref (k.b + (0))), some (.int x1), some (.int x2), some (.ref (k.b + (197))), none] []
  unfold fL_pressureAfter at hf
  obtain ⟨u, hu, hf⟩ := bdS hf
  refine r_aload_n X (x := k.b + (197)) dL_pressureAfter_0 rfl ?_
  refine r_iconst X (v := 0) dL_pressureAfter_1 rfl ?_
  refine r_aload_n X (x := k.b + (0)) dL_pressureAfter_2 rfl ?_
  refine r_iload_n X (x := x1) dL_pressureAfter_3 rfl ?_
  refine r_iload_n X (x := x2) dL_pressureAfter_4 rfl ?_
  refine r_callX X hT [.int x1, .int x2] [.int 0, .ref (k.b + (197))] (K9_pressureAfter hu) lkL_114 clsX9 rfl _ o_main (rle (by decide) (Nat.le_of_ble_eq_true rfl)) rfl rfl (Nat.le_of_ble_eq_true rfl) (Nat.le_of_ble_eq_true rfl) rfl rfl (Nat.le_of_ble_eq_true rfl) rfl dL_pressureAfter_5 ?_ ?_
  · intro e qx he he4
    rcases hu1 : u.1 with v | e1
    · rw [hu1] at he
      cases he
    · rw [hu1] at he hf
      cases he
      replace hf : (if e = 2 then some (1, u.2, ou) else if e = 1 then some (2, u.2, ou) else none) = some r := hf
      by_cases c2 : e = 2
      · replace hf := ifT hf c2
        subst c2
        refine ⟨13, hxL_pressureAfter_2, ?_⟩
        refine r_astore X [some (.ref (k.b + (0))), some (.int x1), some (.int x2), some (.ref (k.b + (197))), some (.ref qx)] dL_pressureAfter_13 (Nat.le_of_ble_eq_true rfl) rfl ?_
        refine r_iconst X (v := 1) dL_pressureAfter_15 rfl ?_
        obtain rfl := Option.some.inj hf
        exact r_ireturn X hQ rfl rfl (Nat.le_of_ble_eq_true rfl) (Nat.le_of_ble_eq_true rfl) dL_pressureAfter_16
      replace hf := ifF hf c2
      by_cases c1 : e = 1
      · replace hf := ifT hf c1
        subst c1
        refine ⟨17, hxL_pressureAfter_1, ?_⟩
        refine r_astore X [some (.ref (k.b + (0))), some (.int x1), some (.int x2), some (.ref (k.b + (197))), some (.ref qx)] dL_pressureAfter_17 (Nat.le_of_ble_eq_true rfl) rfl ?_
        refine r_iconst X (v := 2) dL_pressureAfter_19 rfl ?_
        obtain rfl := Option.some.inj hf
        exact r_ireturn X hQ rfl rfl (Nat.le_of_ble_eq_true rfl) (Nat.le_of_ble_eq_true rfl) dL_pressureAfter_20
      replace hf := ifF hf c1
      cases hf
  · intro o ho
    rcases hu1 : u.1 with v | e1
    · rw [hu1] at ho hf
      cases ho
      replace hf : (some (0, u.2, vp_updL ou (ix 0) v.toInt64)) = some r := hf
      show VW k z 1 6 (wAll k T R ly rc hn rp tp ee u.2 w aside thought fresh mu th mp mf mh mg ou od) 8 [some (.ref (k.b + (0))), some (.int x1), some (.int x2), some (.ref (k.b + (197))), none] (.int v :: [.int 0, .ref (k.b + (197))])
      refine r_i2l X dL_pressureAfter_8 ?_
      refine r_lastore X (f := ou) (ws1 := wAll k T R ly rc hn rp tp ee u.2 w aside thought fresh mu th mp mf mh mg (vp_updL ou (ix 0) v.toInt64) od) _ a_m_ou (by decide) (s_ou (vp_updL ou (ix 0) v.toInt64)) dL_pressureAfter_9 ?_
      refine r_goto X 21 dL_pressureAfter_10 rfl ?_
      refine r_iconst X (v := 0) dL_pressureAfter_21 rfl ?_
      obtain rfl := Option.some.inj hf
      exact r_ireturn X hQ rfl rfl (Nat.le_of_ble_eq_true rfl) (Nat.le_of_ble_eq_true rfl) dL_pressureAfter_22
    · rw [hu1] at ho
      cases ho
def hhL_lowest : List (Nat × Nat × Nat × Nat) := [(0, 10, 13, 24), (0, 10, 17, 19)]
theorem hxL_lowest_2 : HX RL hhL_lowest 5 2 13 := ⟨[], (0, 10, 13, 24), [(0, 10, 17, 19)], rfl, (fun z hz => by cases hz), by decide, by decide, clL_24, csT_2, rfl⟩
theorem hxL_lowest_1 : HX RL hhL_lowest 5 1 17 := ⟨[(0, 10, 13, 24)], (0, 10, 17, 19), [], rfl, (fun z hz => by
    rcases List.mem_singleton.mp hz with rfl
    exact Or.inr ⟨by decide, 2, by decide, by decide, clL_24⟩), by decide, by decide, clL_19, csT_1, rfl⟩
set_option maxRecDepth 100000 in
theorem lkL_lowest : LKW RL 281 yL_lowest cL_lowest 5 (some .int) hhL_lowest 4 := ⟨(gb6 0 (by decide +kernel) (by decide +kernel)), (gb6 2 rfl (by decide +kernel)), (gb1 0 (by decide +kernel) (by decide +kernel)), by decide, by decide +kernel, (gb6 1 (by decide +kernel) (by decide +kernel))⟩
set_option maxRecDepth 100000 in
set_option maxHeartbeats 4000000 in
theorem KL_lowest {k : KT} {T : TT} {R : RR} {ly : Fin 2 → LL} {rc : RC} {hn : HN} {rp : RP} {tp : TP} {ee : EE} {st : Fin 12 → SS} {w : Nat → Int64} {aside : Nat → Int64} {thought : Nat → Int64} {fresh : Nat → Int64} {mu : MU} {th : Int32} {mp : MP} {mf : MF} {mh : MH} {mg : MG} {ou : Nat → Int64} {od : Nat → UInt64} {x1 : Int32} {x2 : Int32} {r : Int32 × (Fin 12 → SS) × (Nat → Int64)} (hf : fL_lowest (ly (0 : Fin 2)) tp st ou x1 x2 = some r) : CTW k strs yL_lowest cL_lowest 5 (some .int) hhL_lowest (rmD 7 1 6) 1 6 [.ref (k.b + (0)), .int x1, .int x2, .ref (k.b + (197))] (wAll k T R ly rc hn rp tp ee st w aside thought fresh mu th mp mf mh mg ou od) (some (.int r.1)) (wAll k T R ly rc hn rp tp ee r.2.1 w aside thought fresh mu th mp mf mh mg r.2.2 od) := by
  refine CTW.of (by decide) (Nat.le_of_ble_eq_true rfl) ?_
  intro z X hT hQ
  show VW k z 0 0 (wAll k T R ly rc hn rp tp ee st w aside thought fresh mu th mp mf mh mg ou od) 0 [some (.ref (k.b + (0))), some (.int x1), some (.int x2), some (.ref (k.b + (197))), none] []
  unfold fL_lowest at hf
  obtain ⟨u, hu, hf⟩ := bdS hf
  refine r_aload_n X (x := k.b + (197)) dL_lowest_0 rfl ?_
  refine r_iconst X (v := 0) dL_lowest_1 rfl ?_
  refine r_aload_n X (x := k.b + (0)) dL_lowest_2 rfl ?_
  refine r_iload_n X (x := x1) dL_lowest_3 rfl ?_
  refine r_iload_n X (x := x2) dL_lowest_4 rfl ?_
  refine r_callX X hT [.int x1, .int x2] [.int 0, .ref (k.b + (197))] (K9_lowest hu) lkL_117 clsX9 rfl _ o_main (rle (by decide) (Nat.le_of_ble_eq_true rfl)) rfl rfl (Nat.le_of_ble_eq_true rfl) (Nat.le_of_ble_eq_true rfl) rfl rfl (Nat.le_of_ble_eq_true rfl) rfl dL_lowest_5 ?_ ?_
  · intro e qx he he4
    rcases hu1 : u.1 with v | e1
    · rw [hu1] at he
      cases he
    · rw [hu1] at he hf
      cases he
      replace hf : (if e = 2 then some (1, u.2, ou) else if e = 1 then some (2, u.2, ou) else none) = some r := hf
      by_cases c2 : e = 2
      · replace hf := ifT hf c2
        subst c2
        refine ⟨13, hxL_lowest_2, ?_⟩
        refine r_astore X [some (.ref (k.b + (0))), some (.int x1), some (.int x2), some (.ref (k.b + (197))), some (.ref qx)] dL_lowest_13 (Nat.le_of_ble_eq_true rfl) rfl ?_
        refine r_iconst X (v := 1) dL_lowest_15 rfl ?_
        obtain rfl := Option.some.inj hf
        exact r_ireturn X hQ rfl rfl (Nat.le_of_ble_eq_true rfl) (Nat.le_of_ble_eq_true rfl) dL_lowest_16
      replace hf := ifF hf c2
      by_cases c1 : e = 1
      · replace hf := ifT hf c1
        subst c1
        refine ⟨17, hxL_lowest_1, ?_⟩
        refine r_astore X [some (.ref (k.b + (0))), some (.int x1), some (.int x2), some (.ref (k.b + (197))), some (.ref qx)] dL_lowest_17 (Nat.le_of_ble_eq_true rfl) rfl ?_
        refine r_iconst X (v := 2) dL_lowest_19 rfl ?_
        obtain rfl := Option.some.inj hf
        exact r_ireturn X hQ rfl rfl (Nat.le_of_ble_eq_true rfl) (Nat.le_of_ble_eq_true rfl) dL_lowest_20
      replace hf := ifF hf c1
      cases hf
  · intro o ho
    rcases hu1 : u.1 with v | e1
    · rw [hu1] at ho hf
      cases ho
      replace hf : (some (0, u.2, vp_updL ou (ix 0) v.toInt64)) = some r := hf
      show VW k z 1 6 (wAll k T R ly rc hn rp tp ee u.2 w aside thought fresh mu th mp mf mh mg ou od) 8 [some (.ref (k.b + (0))), some (.int x1), some (.int x2), some (.ref (k.b + (197))), none] (.int v :: [.int 0, .ref (k.b + (197))])
      refine r_i2l X dL_lowest_8 ?_
      refine r_lastore X (f := ou) (ws1 := wAll k T R ly rc hn rp tp ee u.2 w aside thought fresh mu th mp mf mh mg (vp_updL ou (ix 0) v.toInt64) od) _ a_m_ou (by decide) (s_ou (vp_updL ou (ix 0) v.toInt64)) dL_lowest_9 ?_
      refine r_goto X 21 dL_lowest_10 rfl ?_
      refine r_iconst X (v := 0) dL_lowest_21 rfl ?_
      obtain rfl := Option.some.inj hf
      exact r_ireturn X hQ rfl rfl (Nat.le_of_ble_eq_true rfl) (Nat.le_of_ble_eq_true rfl) dL_lowest_22
    · rw [hu1] at ho
      cases ho
def hhL_ticksTo : List (Nat × Nat × Nat × Nat) := [(0, 10, 13, 24), (0, 10, 17, 19), (0, 10, 21, 112)]
theorem hxL_ticksTo_2 : HX RL hhL_ticksTo 5 2 13 := ⟨[], (0, 10, 13, 24), [(0, 10, 17, 19), (0, 10, 21, 112)], rfl, (fun z hz => by cases hz), by decide, by decide, clL_24, csT_2, rfl⟩
theorem hxL_ticksTo_1 : HX RL hhL_ticksTo 5 1 17 := ⟨[(0, 10, 13, 24)], (0, 10, 17, 19), [(0, 10, 21, 112)], rfl, (fun z hz => by
    rcases List.mem_singleton.mp hz with rfl
    exact Or.inr ⟨by decide, 2, by decide, by decide, clL_24⟩), by decide, by decide, clL_19, csT_1, rfl⟩
theorem hxL_ticksTo_3 : HX RL hhL_ticksTo 5 3 21 := ⟨[(0, 10, 13, 24), (0, 10, 17, 19)], (0, 10, 21, 112), [], rfl, (fun z hz => by
    rcases List.mem_cons.mp hz with rfl | hz
    · exact Or.inr ⟨by decide, 2, by decide, by decide, clL_24⟩
    · rcases List.mem_singleton.mp hz with rfl
      exact Or.inr ⟨by decide, 1, by decide, by decide, clL_19⟩), by decide, by decide, clL_112, csT_3, rfl⟩
set_option maxRecDepth 100000 in
theorem lkL_ticksTo : LKW RL 284 yL_ticksTo cL_ticksTo 5 (some .int) hhL_ticksTo 4 := ⟨(gb6 8 (by decide +kernel) (by decide +kernel)), (gb6 10 rfl (by decide +kernel)), (gb1 0 (by decide +kernel) (by decide +kernel)), by decide, by decide +kernel, (gb6 9 (by decide +kernel) (by decide +kernel))⟩
set_option maxRecDepth 100000 in
set_option maxHeartbeats 4000000 in
theorem KL_ticksTo {k : KT} {T : TT} {R : RR} {ly : Fin 2 → LL} {rc : RC} {hn : HN} {rp : RP} {tp : TP} {ee : EE} {st : Fin 12 → SS} {w : Nat → Int64} {aside : Nat → Int64} {thought : Nat → Int64} {fresh : Nat → Int64} {mu : MU} {th : Int32} {mp : MP} {mf : MF} {mh : MH} {mg : MG} {ou : Nat → Int64} {od : Nat → UInt64} {x1 : Int32} {x2 : Int32} {r : Int32 × (Fin 12 → SS) × (Nat → Int64)} (hf : fL_ticksTo (ly (0 : Fin 2)) tp st ou x1 x2 = some r) : CTW k strs yL_ticksTo cL_ticksTo 5 (some .int) hhL_ticksTo (rmD 7 1 6) 1 6 [.ref (k.b + (0)), .int x1, .int x2, .ref (k.b + (197))] (wAll k T R ly rc hn rp tp ee st w aside thought fresh mu th mp mf mh mg ou od) (some (.int r.1)) (wAll k T R ly rc hn rp tp ee r.2.1 w aside thought fresh mu th mp mf mh mg r.2.2 od) := by
  refine CTW.of (by decide) (Nat.le_of_ble_eq_true rfl) ?_
  intro z X hT hQ
  show VW k z 0 0 (wAll k T R ly rc hn rp tp ee st w aside thought fresh mu th mp mf mh mg ou od) 0 [some (.ref (k.b + (0))), some (.int x1), some (.int x2), some (.ref (k.b + (197))), none] []
  unfold fL_ticksTo at hf
  obtain ⟨u, hu, hf⟩ := bdS hf
  refine r_aload_n X (x := k.b + (197)) dL_ticksTo_0 rfl ?_
  refine r_iconst X (v := 0) dL_ticksTo_1 rfl ?_
  refine r_aload_n X (x := k.b + (0)) dL_ticksTo_2 rfl ?_
  refine r_iload_n X (x := x1) dL_ticksTo_3 rfl ?_
  refine r_iload_n X (x := x2) dL_ticksTo_4 rfl ?_
  refine r_callX X hT [.int x1, .int x2] [.int 0, .ref (k.b + (197))] (K9_ticksTo hu) lkL_120 clsX9 rfl _ o_main (rle (by decide) (Nat.le_of_ble_eq_true rfl)) rfl rfl (Nat.le_of_ble_eq_true rfl) (Nat.le_of_ble_eq_true rfl) rfl rfl (Nat.le_of_ble_eq_true rfl) rfl dL_ticksTo_5 ?_ ?_
  · intro e qx he he4
    rcases hu1 : u.1 with v | e1
    · rw [hu1] at he
      cases he
    · rw [hu1] at he hf
      cases he
      replace hf : (if e = 2 then some (1, u.2, ou) else if e = 1 then some (2, u.2, ou) else if e = 3 then some (3, u.2, ou) else none) = some r := hf
      by_cases c2 : e = 2
      · replace hf := ifT hf c2
        subst c2
        refine ⟨13, hxL_ticksTo_2, ?_⟩
        refine r_astore X [some (.ref (k.b + (0))), some (.int x1), some (.int x2), some (.ref (k.b + (197))), some (.ref qx)] dL_ticksTo_13 (Nat.le_of_ble_eq_true rfl) rfl ?_
        refine r_iconst X (v := 1) dL_ticksTo_15 rfl ?_
        obtain rfl := Option.some.inj hf
        exact r_ireturn X hQ rfl rfl (Nat.le_of_ble_eq_true rfl) (Nat.le_of_ble_eq_true rfl) dL_ticksTo_16
      replace hf := ifF hf c2
      by_cases c1 : e = 1
      · replace hf := ifT hf c1
        subst c1
        refine ⟨17, hxL_ticksTo_1, ?_⟩
        refine r_astore X [some (.ref (k.b + (0))), some (.int x1), some (.int x2), some (.ref (k.b + (197))), some (.ref qx)] dL_ticksTo_17 (Nat.le_of_ble_eq_true rfl) rfl ?_
        refine r_iconst X (v := 2) dL_ticksTo_19 rfl ?_
        obtain rfl := Option.some.inj hf
        exact r_ireturn X hQ rfl rfl (Nat.le_of_ble_eq_true rfl) (Nat.le_of_ble_eq_true rfl) dL_ticksTo_20
      replace hf := ifF hf c1
      by_cases c3 : e = 3
      · replace hf := ifT hf c3
        subst c3
        refine ⟨21, hxL_ticksTo_3, ?_⟩
        refine r_astore X [some (.ref (k.b + (0))), some (.int x1), some (.int x2), some (.ref (k.b + (197))), some (.ref qx)] dL_ticksTo_21 (Nat.le_of_ble_eq_true rfl) rfl ?_
        refine r_iconst X (v := 3) dL_ticksTo_23 rfl ?_
        obtain rfl := Option.some.inj hf
        exact r_ireturn X hQ rfl rfl (Nat.le_of_ble_eq_true rfl) (Nat.le_of_ble_eq_true rfl) dL_ticksTo_24
      replace hf := ifF hf c3
      cases hf
  · intro o ho
    rcases hu1 : u.1 with v | e1
    · rw [hu1] at ho hf
      cases ho
      replace hf : (some (0, u.2, vp_updL ou (ix 0) v.toInt64)) = some r := hf
      show VW k z 1 6 (wAll k T R ly rc hn rp tp ee u.2 w aside thought fresh mu th mp mf mh mg ou od) 8 [some (.ref (k.b + (0))), some (.int x1), some (.int x2), some (.ref (k.b + (197))), none] (.int v :: [.int 0, .ref (k.b + (197))])
      refine r_i2l X dL_ticksTo_8 ?_
      refine r_lastore X (f := ou) (ws1 := wAll k T R ly rc hn rp tp ee u.2 w aside thought fresh mu th mp mf mh mg (vp_updL ou (ix 0) v.toInt64) od) _ a_m_ou (by decide) (s_ou (vp_updL ou (ix 0) v.toInt64)) dL_ticksTo_9 ?_
      refine r_goto X 25 dL_ticksTo_10 rfl ?_
      refine r_iconst X (v := 0) dL_ticksTo_25 rfl ?_
      obtain rfl := Option.some.inj hf
      exact r_ireturn X hQ rfl rfl (Nat.le_of_ble_eq_true rfl) (Nat.le_of_ble_eq_true rfl) dL_ticksTo_26
    · rw [hu1] at ho
      cases ho
def hhL_tripsIn : List (Nat × Nat × Nat × Nat) := [(0, 9, 12, 19)]
theorem hxL_tripsIn_1 : HX RL hhL_tripsIn 4 1 12 := ⟨[], (0, 9, 12, 19), [], rfl, (fun z hz => by cases hz), by decide, by decide, clL_19, csT_1, rfl⟩
set_option maxRecDepth 100000 in
theorem lkL_tripsIn : LKW RL 287 yL_tripsIn cL_tripsIn 4 (some .int) hhL_tripsIn 3 := ⟨(gb6 15 (by decide +kernel) (by decide +kernel)), (gb6 17 rfl (by decide +kernel)), (gb1 0 (by decide +kernel) (by decide +kernel)), by decide, by decide +kernel, (gb6 16 (by decide +kernel) (by decide +kernel))⟩
set_option maxRecDepth 100000 in
set_option maxHeartbeats 4000000 in
theorem KL_tripsIn {k : KT} {T : TT} {R : RR} {ly : Fin 2 → LL} {rc : RC} {hn : HN} {rp : RP} {tp : TP} {ee : EE} {st : Fin 12 → SS} {w : Nat → Int64} {aside : Nat → Int64} {thought : Nat → Int64} {fresh : Nat → Int64} {mu : MU} {th : Int32} {mp : MP} {mf : MF} {mh : MH} {mg : MG} {ou : Nat → Int64} {od : Nat → UInt64} {x1 : Int32} {r : Int32 × (Fin 12 → SS) × (Nat → Int64)} (hf : fL_tripsIn (ly (0 : Fin 2)) tp st ou x1 = some r) : CTW k strs yL_tripsIn cL_tripsIn 4 (some .int) hhL_tripsIn (rmD 7 1 6) 1 6 [.ref (k.b + (0)), .int x1, .ref (k.b + (197))] (wAll k T R ly rc hn rp tp ee st w aside thought fresh mu th mp mf mh mg ou od) (some (.int r.1)) (wAll k T R ly rc hn rp tp ee r.2.1 w aside thought fresh mu th mp mf mh mg r.2.2 od) := by
  refine CTW.of (by decide) (Nat.le_of_ble_eq_true rfl) ?_
  intro z X hT hQ
  show VW k z 0 0 (wAll k T R ly rc hn rp tp ee st w aside thought fresh mu th mp mf mh mg ou od) 0 [some (.ref (k.b + (0))), some (.int x1), some (.ref (k.b + (197))), none] []
  unfold fL_tripsIn at hf
  obtain ⟨u, hu, hf⟩ := bdS hf
  refine r_aload_n X (x := k.b + (197)) dL_tripsIn_0 rfl ?_
  refine r_iconst X (v := 0) dL_tripsIn_1 rfl ?_
  refine r_aload_n X (x := k.b + (0)) dL_tripsIn_2 rfl ?_
  refine r_iload_n X (x := x1) dL_tripsIn_3 rfl ?_
  refine r_callX X hT [.int x1] [.int 0, .ref (k.b + (197))] (K9_tripsIn hu) lkL_123 clsX9 rfl _ o_main (rle (by decide) (Nat.le_of_ble_eq_true rfl)) rfl rfl (Nat.le_of_ble_eq_true rfl) (Nat.le_of_ble_eq_true rfl) rfl rfl (Nat.le_of_ble_eq_true rfl) rfl dL_tripsIn_4 ?_ ?_
  · intro e qx he he4
    rcases hu1 : u.1 with v | e1
    · rw [hu1] at he
      cases he
    · rw [hu1] at he hf
      cases he
      replace hf : (if e = 1 then some (1, u.2, ou) else none) = some r := hf
      by_cases c1 : e = 1
      · replace hf := ifT hf c1
        subst c1
        refine ⟨12, hxL_tripsIn_1, ?_⟩
        refine r_astore_n X [some (.ref (k.b + (0))), some (.int x1), some (.ref (k.b + (197))), some (.ref qx)] dL_tripsIn_12 (Nat.le_of_ble_eq_true rfl) rfl ?_
        refine r_iconst X (v := 1) dL_tripsIn_13 rfl ?_
        obtain rfl := Option.some.inj hf
        exact r_ireturn X hQ rfl rfl (Nat.le_of_ble_eq_true rfl) (Nat.le_of_ble_eq_true rfl) dL_tripsIn_14
      replace hf := ifF hf c1
      cases hf
  · intro o ho
    rcases hu1 : u.1 with v | e1
    · rw [hu1] at ho hf
      cases ho
      replace hf : (some (0, u.2, vp_updL ou (ix 0) v.toInt64)) = some r := hf
      show VW k z 1 6 (wAll k T R ly rc hn rp tp ee u.2 w aside thought fresh mu th mp mf mh mg ou od) 7 [some (.ref (k.b + (0))), some (.int x1), some (.ref (k.b + (197))), none] (.int v :: [.int 0, .ref (k.b + (197))])
      refine r_i2l X dL_tripsIn_7 ?_
      refine r_lastore X (f := ou) (ws1 := wAll k T R ly rc hn rp tp ee u.2 w aside thought fresh mu th mp mf mh mg (vp_updL ou (ix 0) v.toInt64) od) _ a_m_ou (by decide) (s_ou (vp_updL ou (ix 0) v.toInt64)) dL_tripsIn_8 ?_
      refine r_goto X 15 dL_tripsIn_9 rfl ?_
      refine r_iconst X (v := 0) dL_tripsIn_15 rfl ?_
      obtain rfl := Option.some.inj hf
      exact r_ireturn X hQ rfl rfl (Nat.le_of_ble_eq_true rfl) (Nat.le_of_ble_eq_true rfl) dL_tripsIn_16
    · rw [hu1] at ho
      cases ho
def hhL_meanPressure : List (Nat × Nat × Nat × Nat) := [(0, 9, 12, 24), (0, 9, 16, 19)]
theorem hxL_meanPressure_2 : HX RL hhL_meanPressure 5 2 12 := ⟨[], (0, 9, 12, 24), [(0, 9, 16, 19)], rfl, (fun z hz => by cases hz), by decide, by decide, clL_24, csT_2, rfl⟩
theorem hxL_meanPressure_1 : HX RL hhL_meanPressure 5 1 16 := ⟨[(0, 9, 12, 24)], (0, 9, 16, 19), [], rfl, (fun z hz => by
    rcases List.mem_singleton.mp hz with rfl
    exact Or.inr ⟨by decide, 2, by decide, by decide, clL_24⟩), by decide, by decide, clL_19, csT_1, rfl⟩
set_option maxRecDepth 100000 in
theorem lkL_meanPressure : LKW RL 290 yL_meanPressure cL_meanPressure 5 (some .int) hhL_meanPressure 4 := ⟨(gb6 22 (by decide +kernel) (by decide +kernel)), (gb6 24 rfl (by decide +kernel)), (gb1 0 (by decide +kernel) (by decide +kernel)), by decide, by decide +kernel, (gb6 23 (by decide +kernel) (by decide +kernel))⟩
set_option maxRecDepth 100000 in
set_option maxHeartbeats 4000000 in
theorem KL_meanPressure {k : KT} {T : TT} {R : RR} {ly : Fin 2 → LL} {rc : RC} {hn : HN} {rp : RP} {tp : TP} {ee : EE} {st : Fin 12 → SS} {w : Nat → Int64} {aside : Nat → Int64} {thought : Nat → Int64} {fresh : Nat → Int64} {mu : MU} {th : Int32} {mp : MP} {mf : MF} {mh : MH} {mg : MG} {ou : Nat → Int64} {od : Nat → UInt64} {x1 : Int32} {x2 : Int32} {r : Int32 × (Fin 12 → SS) × (Nat → UInt64)} (hf : fL_meanPressure (ly (0 : Fin 2)) tp st od x1 x2 = some r) : CTW k strs yL_meanPressure cL_meanPressure 5 (some .int) hhL_meanPressure (rmD 7 1 6) 1 6 [.ref (k.b + (0)), .int x1, .int x2, .ref (k.b + (198))] (wAll k T R ly rc hn rp tp ee st w aside thought fresh mu th mp mf mh mg ou od) (some (.int r.1)) (wAll k T R ly rc hn rp tp ee r.2.1 w aside thought fresh mu th mp mf mh mg ou r.2.2) := by
  refine CTW.of (by decide) (Nat.le_of_ble_eq_true rfl) ?_
  intro z X hT hQ
  show VW k z 0 0 (wAll k T R ly rc hn rp tp ee st w aside thought fresh mu th mp mf mh mg ou od) 0 [some (.ref (k.b + (0))), some (.int x1), some (.int x2), some (.ref (k.b + (198))), none] []
  unfold fL_meanPressure at hf
  obtain ⟨u, hu, hf⟩ := bdS hf
  refine r_aload_n X (x := k.b + (198)) dL_meanPressure_0 rfl ?_
  refine r_iconst X (v := 0) dL_meanPressure_1 rfl ?_
  refine r_aload_n X (x := k.b + (0)) dL_meanPressure_2 rfl ?_
  refine r_iload_n X (x := x1) dL_meanPressure_3 rfl ?_
  refine r_iload_n X (x := x2) dL_meanPressure_4 rfl ?_
  refine r_callX X hT [.int x1, .int x2] [.int 0, .ref (k.b + (198))] (K9_meanPressure hu) lkL_126 clsX9 rfl _ o_main (rle (by decide) (Nat.le_of_ble_eq_true rfl)) rfl rfl (Nat.le_of_ble_eq_true rfl) (Nat.le_of_ble_eq_true rfl) rfl rfl (Nat.le_of_ble_eq_true rfl) rfl dL_meanPressure_5 ?_ ?_
  · intro e qx he he4
    rcases hu1 : u.1 with v | e1
    · rw [hu1] at he
      cases he
    · rw [hu1] at he hf
      cases he
      replace hf : (if e = 2 then some (1, u.2, od) else if e = 1 then some (2, u.2, od) else none) = some r := hf
      by_cases c2 : e = 2
      · replace hf := ifT hf c2
        subst c2
        refine ⟨12, hxL_meanPressure_2, ?_⟩
        refine r_astore X [some (.ref (k.b + (0))), some (.int x1), some (.int x2), some (.ref (k.b + (198))), some (.ref qx)] dL_meanPressure_12 (Nat.le_of_ble_eq_true rfl) rfl ?_
        refine r_iconst X (v := 1) dL_meanPressure_14 rfl ?_
        obtain rfl := Option.some.inj hf
        exact r_ireturn X hQ rfl rfl (Nat.le_of_ble_eq_true rfl) (Nat.le_of_ble_eq_true rfl) dL_meanPressure_15
      replace hf := ifF hf c2
      by_cases c1 : e = 1
      · replace hf := ifT hf c1
        subst c1
        refine ⟨16, hxL_meanPressure_1, ?_⟩
        refine r_astore X [some (.ref (k.b + (0))), some (.int x1), some (.int x2), some (.ref (k.b + (198))), some (.ref qx)] dL_meanPressure_16 (Nat.le_of_ble_eq_true rfl) rfl ?_
        refine r_iconst X (v := 2) dL_meanPressure_18 rfl ?_
        obtain rfl := Option.some.inj hf
        exact r_ireturn X hQ rfl rfl (Nat.le_of_ble_eq_true rfl) (Nat.le_of_ble_eq_true rfl) dL_meanPressure_19
      replace hf := ifF hf c1
      cases hf
  · intro o ho
    rcases hu1 : u.1 with v | e1
    · rw [hu1] at ho hf
      cases ho
      replace hf : (some (0, u.2, vf_upd od (ix 0) v)) = some r := hf
      show VW k z 1 6 (wAll k T R ly rc hn rp tp ee u.2 w aside thought fresh mu th mp mf mh mg ou od) 8 [some (.ref (k.b + (0))), some (.int x1), some (.int x2), some (.ref (k.b + (198))), none] (.double v :: [.int 0, .ref (k.b + (198))])
      refine r_dastore X (f := od) (ws1 := wAll k T R ly rc hn rp tp ee u.2 w aside thought fresh mu th mp mf mh mg ou (vf_upd od (ix 0) v)) _ a_m_od (by decide) (s_od (vf_upd od (ix 0) v)) dL_meanPressure_8 ?_
      refine r_goto X 20 dL_meanPressure_9 rfl ?_
      refine r_iconst X (v := 0) dL_meanPressure_20 rfl ?_
      obtain rfl := Option.some.inj hf
      exact r_ireturn X hQ rfl rfl (Nat.le_of_ble_eq_true rfl) (Nat.le_of_ble_eq_true rfl) dL_meanPressure_21
    · rw [hu1] at ho
      cases ho
def hhL_bestPump : List (Nat × Nat × Nat × Nat) := [(0, 10, 13, 24), (0, 10, 17, 19), (0, 10, 21, 112)]
theorem hxL_bestPump_2 : HX RL hhL_bestPump 5 2 13 := ⟨[], (0, 10, 13, 24), [(0, 10, 17, 19), (0, 10, 21, 112)], rfl, (fun z hz => by cases hz), by decide, by decide, clL_24, csT_2, rfl⟩
theorem hxL_bestPump_1 : HX RL hhL_bestPump 5 1 17 := ⟨[(0, 10, 13, 24)], (0, 10, 17, 19), [(0, 10, 21, 112)], rfl, (fun z hz => by
    rcases List.mem_singleton.mp hz with rfl
    exact Or.inr ⟨by decide, 2, by decide, by decide, clL_24⟩), by decide, by decide, clL_19, csT_1, rfl⟩
theorem hxL_bestPump_3 : HX RL hhL_bestPump 5 3 21 := ⟨[(0, 10, 13, 24), (0, 10, 17, 19)], (0, 10, 21, 112), [], rfl, (fun z hz => by
    rcases List.mem_cons.mp hz with rfl | hz
    · exact Or.inr ⟨by decide, 2, by decide, by decide, clL_24⟩
    · rcases List.mem_singleton.mp hz with rfl
      exact Or.inr ⟨by decide, 1, by decide, by decide, clL_19⟩), by decide, by decide, clL_112, csT_3, rfl⟩
set_option maxRecDepth 100000 in
theorem lkL_bestPump : LKW RL 294 yL_bestPump cL_bestPump 5 (some .int) hhL_bestPump 4 := ⟨(gb6 29 (by decide +kernel) (by decide +kernel)), (gb6 31 rfl (by decide +kernel)), (gb1 0 (by decide +kernel) (by decide +kernel)), by decide, by decide +kernel, (gb6 30 (by decide +kernel) (by decide +kernel))⟩
set_option maxRecDepth 100000 in
set_option maxHeartbeats 4000000 in
theorem KL_bestPump {k : KT} {T : TT} {R : RR} {ly : Fin 2 → LL} {rc : RC} {hn : HN} {rp : RP} {tp : TP} {ee : EE} {st : Fin 12 → SS} {w : Nat → Int64} {aside : Nat → Int64} {thought : Nat → Int64} {fresh : Nat → Int64} {mu : MU} {th : Int32} {mp : MP} {mf : MF} {mh : MH} {mg : MG} {ou : Nat → Int64} {od : Nat → UInt64} {x1 : Int32} {x2 : Int32} {r : Int32 × (Fin 12 → SS) × (Nat → Int64)} (hf : fL_bestPump (ly (0 : Fin 2)) tp st ou x1 x2 = some r) : CTW k strs yL_bestPump cL_bestPump 5 (some .int) hhL_bestPump (rmD 7 1 6) 1 6 [.ref (k.b + (0)), .int x1, .int x2, .ref (k.b + (197))] (wAll k T R ly rc hn rp tp ee st w aside thought fresh mu th mp mf mh mg ou od) (some (.int r.1)) (wAll k T R ly rc hn rp tp ee r.2.1 w aside thought fresh mu th mp mf mh mg r.2.2 od) := by
  refine CTW.of (by decide) (Nat.le_of_ble_eq_true rfl) ?_
  intro z X hT hQ
  show VW k z 0 0 (wAll k T R ly rc hn rp tp ee st w aside thought fresh mu th mp mf mh mg ou od) 0 [some (.ref (k.b + (0))), some (.int x1), some (.int x2), some (.ref (k.b + (197))), none] []
  unfold fL_bestPump at hf
  obtain ⟨u, hu, hf⟩ := bdS hf
  refine r_aload_n X (x := k.b + (197)) dL_bestPump_0 rfl ?_
  refine r_iconst X (v := 0) dL_bestPump_1 rfl ?_
  refine r_aload_n X (x := k.b + (0)) dL_bestPump_2 rfl ?_
  refine r_iload_n X (x := x1) dL_bestPump_3 rfl ?_
  refine r_iload_n X (x := x2) dL_bestPump_4 rfl ?_
  refine r_callX X hT [.int x1, .int x2] [.int 0, .ref (k.b + (197))] (K9_bestPump hu) lkL_130 clsX9 rfl _ o_main (rle (by decide) (Nat.le_of_ble_eq_true rfl)) rfl rfl (Nat.le_of_ble_eq_true rfl) (Nat.le_of_ble_eq_true rfl) rfl rfl (Nat.le_of_ble_eq_true rfl) rfl dL_bestPump_5 ?_ ?_
  · intro e qx he he4
    rcases hu1 : u.1 with v | e1
    · rw [hu1] at he
      cases he
    · rw [hu1] at he hf
      cases he
      replace hf : (if e = 2 then some (1, u.2, ou) else if e = 1 then some (2, u.2, ou) else if e = 3 then some (3, u.2, ou) else none) = some r := hf
      by_cases c2 : e = 2
      · replace hf := ifT hf c2
        subst c2
        refine ⟨13, hxL_bestPump_2, ?_⟩
        refine r_astore X [some (.ref (k.b + (0))), some (.int x1), some (.int x2), some (.ref (k.b + (197))), some (.ref qx)] dL_bestPump_13 (Nat.le_of_ble_eq_true rfl) rfl ?_
        refine r_iconst X (v := 1) dL_bestPump_15 rfl ?_
        obtain rfl := Option.some.inj hf
        exact r_ireturn X hQ rfl rfl (Nat.le_of_ble_eq_true rfl) (Nat.le_of_ble_eq_true rfl) dL_bestPump_16
      replace hf := ifF hf c2
      by_cases c1 : e = 1
      · replace hf := ifT hf c1
        subst c1
        refine ⟨17, hxL_bestPump_1, ?_⟩
        refine r_astore X [some (.ref (k.b + (0))), some (.int x1), some (.int x2), some (.ref (k.b + (197))), some (.ref qx)] dL_bestPump_17 (Nat.le_of_ble_eq_true rfl) rfl ?_
        refine r_iconst X (v := 2) dL_bestPump_19 rfl ?_
        obtain rfl := Option.some.inj hf
        exact r_ireturn X hQ rfl rfl (Nat.le_of_ble_eq_true rfl) (Nat.le_of_ble_eq_true rfl) dL_bestPump_20
      replace hf := ifF hf c1
      by_cases c3 : e = 3
      · replace hf := ifT hf c3
        subst c3
        refine ⟨21, hxL_bestPump_3, ?_⟩
        refine r_astore X [some (.ref (k.b + (0))), some (.int x1), some (.int x2), some (.ref (k.b + (197))), some (.ref qx)] dL_bestPump_21 (Nat.le_of_ble_eq_true rfl) rfl ?_
        refine r_iconst X (v := 3) dL_bestPump_23 rfl ?_
        obtain rfl := Option.some.inj hf
        exact r_ireturn X hQ rfl rfl (Nat.le_of_ble_eq_true rfl) (Nat.le_of_ble_eq_true rfl) dL_bestPump_24
      replace hf := ifF hf c3
      cases hf
  · intro o ho
    rcases hu1 : u.1 with v | e1
    · rw [hu1] at ho hf
      cases ho
      replace hf : (some (0, u.2, vp_updL ou (ix 0) v.toInt64)) = some r := hf
      show VW k z 1 6 (wAll k T R ly rc hn rp tp ee u.2 w aside thought fresh mu th mp mf mh mg ou od) 8 [some (.ref (k.b + (0))), some (.int x1), some (.int x2), some (.ref (k.b + (197))), none] (.int v :: [.int 0, .ref (k.b + (197))])
      refine r_i2l X dL_bestPump_8 ?_
      refine r_lastore X (f := ou) (ws1 := wAll k T R ly rc hn rp tp ee u.2 w aside thought fresh mu th mp mf mh mg (vp_updL ou (ix 0) v.toInt64) od) _ a_m_ou (by decide) (s_ou (vp_updL ou (ix 0) v.toInt64)) dL_bestPump_9 ?_
      refine r_goto X 25 dL_bestPump_10 rfl ?_
      refine r_iconst X (v := 0) dL_bestPump_25 rfl ?_
      obtain rfl := Option.some.inj hf
      exact r_ireturn X hQ rfl rfl (Nat.le_of_ble_eq_true rfl) (Nat.le_of_ble_eq_true rfl) dL_bestPump_26
    · rw [hu1] at ho
      cases ho
def hhL_bestValve : List (Nat × Nat × Nat × Nat) := [(0, 10, 13, 24), (0, 10, 17, 19), (0, 10, 21, 112)]
theorem hxL_bestValve_2 : HX RL hhL_bestValve 5 2 13 := ⟨[], (0, 10, 13, 24), [(0, 10, 17, 19), (0, 10, 21, 112)], rfl, (fun z hz => by cases hz), by decide, by decide, clL_24, csT_2, rfl⟩
theorem hxL_bestValve_1 : HX RL hhL_bestValve 5 1 17 := ⟨[(0, 10, 13, 24)], (0, 10, 17, 19), [(0, 10, 21, 112)], rfl, (fun z hz => by
    rcases List.mem_singleton.mp hz with rfl
    exact Or.inr ⟨by decide, 2, by decide, by decide, clL_24⟩), by decide, by decide, clL_19, csT_1, rfl⟩
theorem hxL_bestValve_3 : HX RL hhL_bestValve 5 3 21 := ⟨[(0, 10, 13, 24), (0, 10, 17, 19)], (0, 10, 21, 112), [], rfl, (fun z hz => by
    rcases List.mem_cons.mp hz with rfl | hz
    · exact Or.inr ⟨by decide, 2, by decide, by decide, clL_24⟩
    · rcases List.mem_singleton.mp hz with rfl
      exact Or.inr ⟨by decide, 1, by decide, by decide, clL_19⟩), by decide, by decide, clL_112, csT_3, rfl⟩
set_option maxRecDepth 100000 in
theorem lkL_bestValve : LKW RL 297 yL_bestValve cL_bestValve 5 (some .int) hhL_bestValve 4 := ⟨(gb6 36 (by decide +kernel) (by decide +kernel)), (gb6 38 rfl (by decide +kernel)), (gb1 0 (by decide +kernel) (by decide +kernel)), by decide, by decide +kernel, (gb6 37 (by decide +kernel) (by decide +kernel))⟩
set_option maxRecDepth 100000 in
set_option maxHeartbeats 4000000 in
theorem KL_bestValve {k : KT} {T : TT} {R : RR} {ly : Fin 2 → LL} {rc : RC} {hn : HN} {rp : RP} {tp : TP} {ee : EE} {st : Fin 12 → SS} {w : Nat → Int64} {aside : Nat → Int64} {thought : Nat → Int64} {fresh : Nat → Int64} {mu : MU} {th : Int32} {mp : MP} {mf : MF} {mh : MH} {mg : MG} {ou : Nat → Int64} {od : Nat → UInt64} {x1 : Int32} {x2 : Int32} {r : Int32 × (Fin 12 → SS) × (Nat → Int64)} (hf : fL_bestValve (ly (0 : Fin 2)) tp st ou x1 x2 = some r) : CTW k strs yL_bestValve cL_bestValve 5 (some .int) hhL_bestValve (rmD 7 1 6) 1 6 [.ref (k.b + (0)), .int x1, .int x2, .ref (k.b + (197))] (wAll k T R ly rc hn rp tp ee st w aside thought fresh mu th mp mf mh mg ou od) (some (.int r.1)) (wAll k T R ly rc hn rp tp ee r.2.1 w aside thought fresh mu th mp mf mh mg r.2.2 od) := by
  refine CTW.of (by decide) (Nat.le_of_ble_eq_true rfl) ?_
  intro z X hT hQ
  show VW k z 0 0 (wAll k T R ly rc hn rp tp ee st w aside thought fresh mu th mp mf mh mg ou od) 0 [some (.ref (k.b + (0))), some (.int x1), some (.int x2), some (.ref (k.b + (197))), none] []
  unfold fL_bestValve at hf
  obtain ⟨u, hu, hf⟩ := bdS hf
  refine r_aload_n X (x := k.b + (197)) dL_bestValve_0 rfl ?_
  refine r_iconst X (v := 0) dL_bestValve_1 rfl ?_
  refine r_aload_n X (x := k.b + (0)) dL_bestValve_2 rfl ?_
  refine r_iload_n X (x := x1) dL_bestValve_3 rfl ?_
  refine r_iload_n X (x := x2) dL_bestValve_4 rfl ?_
  refine r_callX X hT [.int x1, .int x2] [.int 0, .ref (k.b + (197))] (K9_bestValve hu) lkL_133 clsX9 rfl _ o_main (rle (by decide) (Nat.le_of_ble_eq_true rfl)) rfl rfl (Nat.le_of_ble_eq_true rfl) (Nat.le_of_ble_eq_true rfl) rfl rfl (Nat.le_of_ble_eq_true rfl) rfl dL_bestValve_5 ?_ ?_
  · intro e qx he he4
    rcases hu1 : u.1 with v | e1
    · rw [hu1] at he
      cases he
    · rw [hu1] at he hf
      cases he
      replace hf : (if e = 2 then some (1, u.2, ou) else if e = 1 then some (2, u.2, ou) else if e = 3 then some (3, u.2, ou) else none) = some r := hf
      by_cases c2 : e = 2
      · replace hf := ifT hf c2
        subst c2
        refine ⟨13, hxL_bestValve_2, ?_⟩
        refine r_astore X [some (.ref (k.b + (0))), some (.int x1), some (.int x2), some (.ref (k.b + (197))), some (.ref qx)] dL_bestValve_13 (Nat.le_of_ble_eq_true rfl) rfl ?_
        refine r_iconst X (v := 1) dL_bestValve_15 rfl ?_
        obtain rfl := Option.some.inj hf
        exact r_ireturn X hQ rfl rfl (Nat.le_of_ble_eq_true rfl) (Nat.le_of_ble_eq_true rfl) dL_bestValve_16
      replace hf := ifF hf c2
      by_cases c1 : e = 1
      · replace hf := ifT hf c1
        subst c1
        refine ⟨17, hxL_bestValve_1, ?_⟩
        refine r_astore X [some (.ref (k.b + (0))), some (.int x1), some (.int x2), some (.ref (k.b + (197))), some (.ref qx)] dL_bestValve_17 (Nat.le_of_ble_eq_true rfl) rfl ?_
        refine r_iconst X (v := 2) dL_bestValve_19 rfl ?_
        obtain rfl := Option.some.inj hf
        exact r_ireturn X hQ rfl rfl (Nat.le_of_ble_eq_true rfl) (Nat.le_of_ble_eq_true rfl) dL_bestValve_20
      replace hf := ifF hf c1
      by_cases c3 : e = 3
      · replace hf := ifT hf c3
        subst c3
        refine ⟨21, hxL_bestValve_3, ?_⟩
        refine r_astore X [some (.ref (k.b + (0))), some (.int x1), some (.int x2), some (.ref (k.b + (197))), some (.ref qx)] dL_bestValve_21 (Nat.le_of_ble_eq_true rfl) rfl ?_
        refine r_iconst X (v := 3) dL_bestValve_23 rfl ?_
        obtain rfl := Option.some.inj hf
        exact r_ireturn X hQ rfl rfl (Nat.le_of_ble_eq_true rfl) (Nat.le_of_ble_eq_true rfl) dL_bestValve_24
      replace hf := ifF hf c3
      cases hf
  · intro o ho
    rcases hu1 : u.1 with v | e1
    · rw [hu1] at ho hf
      cases ho
      replace hf : (some (0, u.2, vp_updL ou (ix 0) v.toInt64)) = some r := hf
      show VW k z 1 6 (wAll k T R ly rc hn rp tp ee u.2 w aside thought fresh mu th mp mf mh mg ou od) 8 [some (.ref (k.b + (0))), some (.int x1), some (.int x2), some (.ref (k.b + (197))), none] (.int v :: [.int 0, .ref (k.b + (197))])
      refine r_i2l X dL_bestValve_8 ?_
      refine r_lastore X (f := ou) (ws1 := wAll k T R ly rc hn rp tp ee u.2 w aside thought fresh mu th mp mf mh mg (vp_updL ou (ix 0) v.toInt64) od) _ a_m_ou (by decide) (s_ou (vp_updL ou (ix 0) v.toInt64)) dL_bestValve_9 ?_
      refine r_goto X 25 dL_bestValve_10 rfl ?_
      refine r_iconst X (v := 0) dL_bestValve_25 rfl ?_
      obtain rfl := Option.some.inj hf
      exact r_ireturn X hQ rfl rfl (Nat.le_of_ble_eq_true rfl) (Nat.le_of_ble_eq_true rfl) dL_bestValve_26
    · rw [hu1] at ho
      cases ho
def hhL_spray : List (Nat × Nat × Nat × Nat) := [(0, 9, 12, 19)]
theorem hxL_spray_1 : HX RL hhL_spray 4 1 12 := ⟨[], (0, 9, 12, 19), [], rfl, (fun z hz => by cases hz), by decide, by decide, clL_19, csT_1, rfl⟩
set_option maxRecDepth 100000 in
theorem lkL_spray : LKW RL 300 yL_spray cL_spray 4 (some .int) hhL_spray 3 := ⟨(gb6 43 (by decide +kernel) (by decide +kernel)), (gb6 45 rfl (by decide +kernel)), (gb1 0 (by decide +kernel) (by decide +kernel)), by decide, by decide +kernel, (gb6 44 (by decide +kernel) (by decide +kernel))⟩
set_option maxRecDepth 100000 in
set_option maxHeartbeats 4000000 in
theorem KL_spray {k : KT} {T : TT} {R : RR} {ly : Fin 2 → LL} {rc : RC} {hn : HN} {rp : RP} {tp : TP} {ee : EE} {st : Fin 12 → SS} {w : Nat → Int64} {aside : Nat → Int64} {thought : Nat → Int64} {fresh : Nat → Int64} {mu : MU} {th : Int32} {mp : MP} {mf : MF} {mh : MH} {mg : MG} {ou : Nat → Int64} {od : Nat → UInt64} {x1 : Int32} {r : Int32 × (Nat → Int64)} (hf : fL_spray (ly (0 : Fin 2)) tp st ou x1 = some r) : CTW k strs yL_spray cL_spray 4 (some .int) hhL_spray (rmD 7 1 6) 1 6 [.ref (k.b + (0)), .int x1, .ref (k.b + (197))] (wAll k T R ly rc hn rp tp ee st w aside thought fresh mu th mp mf mh mg ou od) (some (.int r.1)) (wAll k T R ly rc hn rp tp ee st w aside thought fresh mu th mp mf mh mg r.2 od) := by
  refine CTW.of (by decide) (Nat.le_of_ble_eq_true rfl) ?_
  intro z X hT hQ
  show VW k z 0 0 (wAll k T R ly rc hn rp tp ee st w aside thought fresh mu th mp mf mh mg ou od) 0 [some (.ref (k.b + (0))), some (.int x1), some (.ref (k.b + (197))), none] []
  unfold fL_spray at hf
  obtain ⟨u, hu, hf⟩ := bdS hf
  refine r_aload_n X (x := k.b + (197)) dL_spray_0 rfl ?_
  refine r_iconst X (v := 0) dL_spray_1 rfl ?_
  refine r_aload_n X (x := k.b + (0)) dL_spray_2 rfl ?_
  refine r_iload_n X (x := x1) dL_spray_3 rfl ?_
  refine r_callX X hT [.int x1] [.int 0, .ref (k.b + (197))] (K9_spray hu) lkL_136 clsX9 rfl _ o_main (rle (by decide) (Nat.le_of_ble_eq_true rfl)) rfl rfl (Nat.le_of_ble_eq_true rfl) (Nat.le_of_ble_eq_true rfl) rfl rfl (Nat.le_of_ble_eq_true rfl) rfl dL_spray_4 ?_ ?_
  · intro e qx he he4
    rcases hu1 : u with v | e1
    · rw [hu1] at he
      cases he
    · rw [hu1] at he hf
      cases he
      replace hf : (if e = 1 then some (1, ou) else none) = some r := hf
      by_cases c1 : e = 1
      · replace hf := ifT hf c1
        subst c1
        refine ⟨12, hxL_spray_1, ?_⟩
        refine r_astore_n X [some (.ref (k.b + (0))), some (.int x1), some (.ref (k.b + (197))), some (.ref qx)] dL_spray_12 (Nat.le_of_ble_eq_true rfl) rfl ?_
        refine r_iconst X (v := 1) dL_spray_13 rfl ?_
        obtain rfl := Option.some.inj hf
        exact r_ireturn X hQ rfl rfl (Nat.le_of_ble_eq_true rfl) (Nat.le_of_ble_eq_true rfl) dL_spray_14
      replace hf := ifF hf c1
      cases hf
  · intro o ho
    rcases hu1 : u with v | e1
    · rw [hu1] at ho hf
      cases ho
      replace hf : (some (0, vp_updL ou (ix 0) v.toInt64)) = some r := hf
      show VW k z 1 6 (wAll k T R ly rc hn rp tp ee st w aside thought fresh mu th mp mf mh mg ou od) 7 [some (.ref (k.b + (0))), some (.int x1), some (.ref (k.b + (197))), none] (.int v :: [.int 0, .ref (k.b + (197))])
      refine r_i2l X dL_spray_7 ?_
      refine r_lastore X (f := ou) (ws1 := wAll k T R ly rc hn rp tp ee st w aside thought fresh mu th mp mf mh mg (vp_updL ou (ix 0) v.toInt64) od) _ a_m_ou (by decide) (s_ou (vp_updL ou (ix 0) v.toInt64)) dL_spray_8 ?_
      refine r_goto X 15 dL_spray_9 rfl ?_
      refine r_iconst X (v := 0) dL_spray_15 rfl ?_
      obtain rfl := Option.some.inj hf
      exact r_ireturn X hQ rfl rfl (Nat.le_of_ble_eq_true rfl) (Nat.le_of_ble_eq_true rfl) dL_spray_16
    · rw [hu1] at ho
      cases ho
def hhL_sprays : List (Nat × Nat × Nat × Nat) := [(0, 10, 13, 24), (0, 10, 17, 19)]
theorem hxL_sprays_2 : HX RL hhL_sprays 5 2 13 := ⟨[], (0, 10, 13, 24), [(0, 10, 17, 19)], rfl, (fun z hz => by cases hz), by decide, by decide, clL_24, csT_2, rfl⟩
theorem hxL_sprays_1 : HX RL hhL_sprays 5 1 17 := ⟨[(0, 10, 13, 24)], (0, 10, 17, 19), [], rfl, (fun z hz => by
    rcases List.mem_singleton.mp hz with rfl
    exact Or.inr ⟨by decide, 2, by decide, by decide, clL_24⟩), by decide, by decide, clL_19, csT_1, rfl⟩
set_option maxRecDepth 100000 in
theorem lkL_sprays : LKW RL 303 yL_sprays cL_sprays 5 (some .int) hhL_sprays 4 := ⟨(gb6 54 (by decide +kernel) (by decide +kernel)), (gb6 56 rfl (by decide +kernel)), (gb1 0 (by decide +kernel) (by decide +kernel)), by decide, by decide +kernel, (gb6 55 (by decide +kernel) (by decide +kernel))⟩
set_option maxRecDepth 100000 in
set_option maxHeartbeats 4000000 in
theorem KL_sprays {k : KT} {T : TT} {R : RR} {ly : Fin 2 → LL} {rc : RC} {hn : HN} {rp : RP} {tp : TP} {ee : EE} {st : Fin 12 → SS} {w : Nat → Int64} {aside : Nat → Int64} {thought : Nat → Int64} {fresh : Nat → Int64} {mu : MU} {th : Int32} {mp : MP} {mf : MF} {mh : MH} {mg : MG} {ou : Nat → Int64} {od : Nat → UInt64} {x1 : Int32} {x2 : Int32} {r : Int32 × (HN) × (Nat → Int64)} (hf : fL_sprays (ly (0 : Fin 2)) tp st hn ou x1 x2 = some r) : CTW k strs yL_sprays cL_sprays 5 (some .int) hhL_sprays (rmD 7 1 6) 1 6 [.ref (k.b + (0)), .int x1, .int x2, .ref (k.b + (197))] (wAll k T R ly rc hn rp tp ee st w aside thought fresh mu th mp mf mh mg ou od) (some (.int r.1)) (wAll k T R ly rc r.2.1 rp tp ee st w aside thought fresh mu th mp mf mh mg r.2.2 od) := by
  refine CTW.of (by decide) (Nat.le_of_ble_eq_true rfl) ?_
  intro z X hT hQ
  show VW k z 0 0 (wAll k T R ly rc hn rp tp ee st w aside thought fresh mu th mp mf mh mg ou od) 0 [some (.ref (k.b + (0))), some (.int x1), some (.int x2), some (.ref (k.b + (197))), none] []
  unfold fL_sprays at hf
  obtain ⟨u, hu, hf⟩ := bdS hf
  refine r_aload_n X (x := k.b + (197)) dL_sprays_0 rfl ?_
  refine r_iconst X (v := 0) dL_sprays_1 rfl ?_
  refine r_aload_n X (x := k.b + (0)) dL_sprays_2 rfl ?_
  refine r_iload_n X (x := x1) dL_sprays_3 rfl ?_
  refine r_iload_n X (x := x2) dL_sprays_4 rfl ?_
  refine r_callX X hT [.int x1, .int x2] [.int 0, .ref (k.b + (197))] (K9_sprays hu) lkL_139 clsX9 rfl _ o_main (rle (by decide) (Nat.le_of_ble_eq_true rfl)) rfl rfl (Nat.le_of_ble_eq_true rfl) (Nat.le_of_ble_eq_true rfl) rfl rfl (Nat.le_of_ble_eq_true rfl) rfl dL_sprays_5 ?_ ?_
  · intro e qx he he4
    rcases hu1 : u.1 with v | e1
    · rw [hu1] at he
      cases he
    · rw [hu1] at he hf
      cases he
      replace hf : (if e = 2 then some (1, u.2, ou) else if e = 1 then some (2, u.2, ou) else none) = some r := hf
      by_cases c2 : e = 2
      · replace hf := ifT hf c2
        subst c2
        refine ⟨13, hxL_sprays_2, ?_⟩
        refine r_astore X [some (.ref (k.b + (0))), some (.int x1), some (.int x2), some (.ref (k.b + (197))), some (.ref qx)] dL_sprays_13 (Nat.le_of_ble_eq_true rfl) rfl ?_
        refine r_iconst X (v := 1) dL_sprays_15 rfl ?_
        obtain rfl := Option.some.inj hf
        exact r_ireturn X hQ rfl rfl (Nat.le_of_ble_eq_true rfl) (Nat.le_of_ble_eq_true rfl) dL_sprays_16
      replace hf := ifF hf c2
      by_cases c1 : e = 1
      · replace hf := ifT hf c1
        subst c1
        refine ⟨17, hxL_sprays_1, ?_⟩
        refine r_astore X [some (.ref (k.b + (0))), some (.int x1), some (.int x2), some (.ref (k.b + (197))), some (.ref qx)] dL_sprays_17 (Nat.le_of_ble_eq_true rfl) rfl ?_
        refine r_iconst X (v := 2) dL_sprays_19 rfl ?_
        obtain rfl := Option.some.inj hf
        exact r_ireturn X hQ rfl rfl (Nat.le_of_ble_eq_true rfl) (Nat.le_of_ble_eq_true rfl) dL_sprays_20
      replace hf := ifF hf c1
      cases hf
  · intro o ho
    rcases hu1 : u.1 with v | e1
    · rw [hu1] at ho hf
      cases ho
      replace hf : (some (0, u.2, vp_updL ou (ix 0) v.toInt64)) = some r := hf
      show VW k z 1 6 (wAll k T R ly rc u.2 rp tp ee st w aside thought fresh mu th mp mf mh mg ou od) 8 [some (.ref (k.b + (0))), some (.int x1), some (.int x2), some (.ref (k.b + (197))), none] (.int v :: [.int 0, .ref (k.b + (197))])
      refine r_i2l X dL_sprays_8 ?_
      refine r_lastore X (f := ou) (ws1 := wAll k T R ly rc u.2 rp tp ee st w aside thought fresh mu th mp mf mh mg (vp_updL ou (ix 0) v.toInt64) od) _ a_m_ou (by decide) (s_ou (vp_updL ou (ix 0) v.toInt64)) dL_sprays_9 ?_
      refine r_goto X 21 dL_sprays_10 rfl ?_
      refine r_iconst X (v := 0) dL_sprays_21 rfl ?_
      obtain rfl := Option.some.inj hf
      exact r_ireturn X hQ rfl rfl (Nat.le_of_ble_eq_true rfl) (Nat.le_of_ble_eq_true rfl) dL_sprays_22
    · rw [hu1] at ho
      cases ho
def hhL_found : List (Nat × Nat × Nat × Nat) := [(0, 10, 13, 24), (0, 10, 17, 19)]
theorem hxL_found_2 : HX RL hhL_found 5 2 13 := ⟨[], (0, 10, 13, 24), [(0, 10, 17, 19)], rfl, (fun z hz => by cases hz), by decide, by decide, clL_24, csT_2, rfl⟩
theorem hxL_found_1 : HX RL hhL_found 5 1 17 := ⟨[(0, 10, 13, 24)], (0, 10, 17, 19), [], rfl, (fun z hz => by
    rcases List.mem_singleton.mp hz with rfl
    exact Or.inr ⟨by decide, 2, by decide, by decide, clL_24⟩), by decide, by decide, clL_19, csT_1, rfl⟩
set_option maxRecDepth 100000 in
theorem lkL_found : LKW RL 306 yL_found cL_found 5 (some .int) hhL_found 4 := ⟨(gb6 77 (by decide +kernel) (by decide +kernel)), (gb6 79 rfl (by decide +kernel)), (gb1 0 (by decide +kernel) (by decide +kernel)), by decide, by decide +kernel, (gb6 78 (by decide +kernel) (by decide +kernel))⟩
set_option maxRecDepth 100000 in
set_option maxHeartbeats 4000000 in
theorem KL_found {k : KT} {T : TT} {R : RR} {ly : Fin 2 → LL} {rc : RC} {hn : HN} {rp : RP} {tp : TP} {ee : EE} {st : Fin 12 → SS} {w : Nat → Int64} {aside : Nat → Int64} {thought : Nat → Int64} {fresh : Nat → Int64} {mu : MU} {th : Int32} {mp : MP} {mf : MF} {mh : MH} {mg : MG} {ou : Nat → Int64} {od : Nat → UInt64} {x1 : Int32} {x2 : Int32} {r : Int32 × (HN) × (Nat → Int64)} (hf : fL_found (ly (0 : Fin 2)) tp st hn ou x1 x2 = some r) : CTW k strs yL_found cL_found 5 (some .int) hhL_found (rmD 7 1 6) 1 6 [.ref (k.b + (0)), .int x1, .int x2, .ref (k.b + (197))] (wAll k T R ly rc hn rp tp ee st w aside thought fresh mu th mp mf mh mg ou od) (some (.int r.1)) (wAll k T R ly rc r.2.1 rp tp ee st w aside thought fresh mu th mp mf mh mg r.2.2 od) := by
  refine CTW.of (by decide) (Nat.le_of_ble_eq_true rfl) ?_
  intro z X hT hQ
  show VW k z 0 0 (wAll k T R ly rc hn rp tp ee st w aside thought fresh mu th mp mf mh mg ou od) 0 [some (.ref (k.b + (0))), some (.int x1), some (.int x2), some (.ref (k.b + (197))), none] []
  unfold fL_found at hf
  obtain ⟨u, hu, hf⟩ := bdS hf
  refine r_aload_n X (x := k.b + (197)) dL_found_0 rfl ?_
  refine r_iconst X (v := 0) dL_found_1 rfl ?_
  refine r_aload_n X (x := k.b + (0)) dL_found_2 rfl ?_
  refine r_iload_n X (x := x1) dL_found_3 rfl ?_
  refine r_iload_n X (x := x2) dL_found_4 rfl ?_
  refine r_callX X hT [.int x1, .int x2] [.int 0, .ref (k.b + (197))] (K9_found hu) lkL_142 clsX9 rfl _ o_main (rle (by decide) (Nat.le_of_ble_eq_true rfl)) rfl rfl (Nat.le_of_ble_eq_true rfl) (Nat.le_of_ble_eq_true rfl) rfl rfl (Nat.le_of_ble_eq_true rfl) rfl dL_found_5 ?_ ?_
  · intro e qx he he4
    rcases hu1 : u.1 with v | e1
    · rw [hu1] at he
      cases he
    · rw [hu1] at he hf
      cases he
      replace hf : (if e = 2 then some (1, u.2, ou) else if e = 1 then some (2, u.2, ou) else none) = some r := hf
      by_cases c2 : e = 2
      · replace hf := ifT hf c2
        subst c2
        refine ⟨13, hxL_found_2, ?_⟩
        refine r_astore X [some (.ref (k.b + (0))), some (.int x1), some (.int x2), some (.ref (k.b + (197))), some (.ref qx)] dL_found_13 (Nat.le_of_ble_eq_true rfl) rfl ?_
        refine r_iconst X (v := 1) dL_found_15 rfl ?_
        obtain rfl := Option.some.inj hf
        exact r_ireturn X hQ rfl rfl (Nat.le_of_ble_eq_true rfl) (Nat.le_of_ble_eq_true rfl) dL_found_16
      replace hf := ifF hf c2
      by_cases c1 : e = 1
      · replace hf := ifT hf c1
        subst c1
        refine ⟨17, hxL_found_1, ?_⟩
        refine r_astore X [some (.ref (k.b + (0))), some (.int x1), some (.int x2), some (.ref (k.b + (197))), some (.ref qx)] dL_found_17 (Nat.le_of_ble_eq_true rfl) rfl ?_
        refine r_iconst X (v := 2) dL_found_19 rfl ?_
        obtain rfl := Option.some.inj hf
        exact r_ireturn X hQ rfl rfl (Nat.le_of_ble_eq_true rfl) (Nat.le_of_ble_eq_true rfl) dL_found_20
      replace hf := ifF hf c1
      cases hf
  · intro o ho
    rcases hu1 : u.1 with v | e1
    · rw [hu1] at ho hf
      cases ho
      replace hf : (some (0, u.2, vp_updL ou (ix 0) v.toInt64)) = some r := hf
      show VW k z 1 6 (wAll k T R ly rc u.2 rp tp ee st w aside thought fresh mu th mp mf mh mg ou od) 8 [some (.ref (k.b + (0))), some (.int x1), some (.int x2), some (.ref (k.b + (197))), none] (.int v :: [.int 0, .ref (k.b + (197))])
      refine r_i2l X dL_found_8 ?_
      refine r_lastore X (f := ou) (ws1 := wAll k T R ly rc u.2 rp tp ee st w aside thought fresh mu th mp mf mh mg (vp_updL ou (ix 0) v.toInt64) od) _ a_m_ou (by decide) (s_ou (vp_updL ou (ix 0) v.toInt64)) dL_found_9 ?_
      refine r_goto X 21 dL_found_10 rfl ?_
      refine r_iconst X (v := 0) dL_found_21 rfl ?_
      obtain rfl := Option.some.inj hf
      exact r_ireturn X hQ rfl rfl (Nat.le_of_ble_eq_true rfl) (Nat.le_of_ble_eq_true rfl) dL_found_22
    · rw [hu1] at ho
      cases ho
def hhL_worstFlange : List (Nat × Nat × Nat × Nat) := [(0, 8, 11, 112)]
theorem hxL_worstFlange_3 : HX RL hhL_worstFlange 3 3 11 := ⟨[], (0, 8, 11, 112), [], rfl, (fun z hz => by cases hz), by decide, by decide, clL_112, csT_3, rfl⟩
set_option maxRecDepth 100000 in
theorem lkL_worstFlange : LKW RL 309 yL_worstFlange cL_worstFlange 3 (some .int) hhL_worstFlange 2 := ⟨(gb6 84 (by decide +kernel) (by decide +kernel)), (gb6 86 rfl (by decide +kernel)), (gb1 0 (by decide +kernel) (by decide +kernel)), by decide, by decide +kernel, (gb6 85 (by decide +kernel) (by decide +kernel))⟩
set_option maxRecDepth 100000 in
set_option maxHeartbeats 4000000 in
theorem KL_worstFlange {k : KT} {T : TT} {R : RR} {ly : Fin 2 → LL} {rc : RC} {hn : HN} {rp : RP} {tp : TP} {ee : EE} {st : Fin 12 → SS} {w : Nat → Int64} {aside : Nat → Int64} {thought : Nat → Int64} {fresh : Nat → Int64} {mu : MU} {th : Int32} {mp : MP} {mf : MF} {mh : MH} {mg : MG} {ou : Nat → Int64} {od : Nat → UInt64}  {r : Int32 × (Nat → Int64)} (hf : fL_worstFlange (ly (0 : Fin 2)) tp st ou = some r) : CTW k strs yL_worstFlange cL_worstFlange 3 (some .int) hhL_worstFlange (rmD 7 1 6) 1 6 [.ref (k.b + (0)), .ref (k.b + (197))] (wAll k T R ly rc hn rp tp ee st w aside thought fresh mu th mp mf mh mg ou od) (some (.int r.1)) (wAll k T R ly rc hn rp tp ee st w aside thought fresh mu th mp mf mh mg r.2 od) := by
  refine CTW.of (by decide) (Nat.le_of_ble_eq_true rfl) ?_
  intro z X hT hQ
  show VW k z 0 0 (wAll k T R ly rc hn rp tp ee st w aside thought fresh mu th mp mf mh mg ou od) 0 [some (.ref (k.b + (0))), some (.ref (k.b + (197))), none] []
  unfold fL_worstFlange at hf
  obtain ⟨u, hu, hf⟩ := bdS hf
  refine r_aload_n X (x := k.b + (197)) dL_worstFlange_0 rfl ?_
  refine r_iconst X (v := 0) dL_worstFlange_1 rfl ?_
  refine r_aload_n X (x := k.b + (0)) dL_worstFlange_2 rfl ?_
  refine r_callX X hT [] [.int 0, .ref (k.b + (197))] (K9_worstFlange hu) lkL_145 clsX9 rfl _ o_main (rle (by decide) (Nat.le_of_ble_eq_true rfl)) rfl rfl (Nat.le_of_ble_eq_true rfl) (Nat.le_of_ble_eq_true rfl) rfl rfl (Nat.le_of_ble_eq_true rfl) rfl dL_worstFlange_3 ?_ ?_
  · intro e qx he he4
    rcases hu1 : u with v | e1
    · rw [hu1] at he
      cases he
    · rw [hu1] at he hf
      cases he
      replace hf : (if e = 3 then some (1, ou) else none) = some r := hf
      by_cases c3 : e = 3
      · replace hf := ifT hf c3
        subst c3
        refine ⟨11, hxL_worstFlange_3, ?_⟩
        refine r_astore_n X [some (.ref (k.b + (0))), some (.ref (k.b + (197))), some (.ref qx)] dL_worstFlange_11 (Nat.le_of_ble_eq_true rfl) rfl ?_
        refine r_iconst X (v := 1) dL_worstFlange_12 rfl ?_
        obtain rfl := Option.some.inj hf
        exact r_ireturn X hQ rfl rfl (Nat.le_of_ble_eq_true rfl) (Nat.le_of_ble_eq_true rfl) dL_worstFlange_13
      replace hf := ifF hf c3
      cases hf
  · intro o ho
    rcases hu1 : u with v | e1
    · rw [hu1] at ho hf
      cases ho
      replace hf : (some (0, vp_updL ou (ix 0) v.toInt64)) = some r := hf
      show VW k z 1 6 (wAll k T R ly rc hn rp tp ee st w aside thought fresh mu th mp mf mh mg ou od) 6 [some (.ref (k.b + (0))), some (.ref (k.b + (197))), none] (.int v :: [.int 0, .ref (k.b + (197))])
      refine r_i2l X dL_worstFlange_6 ?_
      refine r_lastore X (f := ou) (ws1 := wAll k T R ly rc hn rp tp ee st w aside thought fresh mu th mp mf mh mg (vp_updL ou (ix 0) v.toInt64) od) _ a_m_ou (by decide) (s_ou (vp_updL ou (ix 0) v.toInt64)) dL_worstFlange_7 ?_
      refine r_goto X 14 dL_worstFlange_8 rfl ?_
      refine r_iconst X (v := 0) dL_worstFlange_14 rfl ?_
      obtain rfl := Option.some.inj hf
      exact r_ireturn X hQ rfl rfl (Nat.le_of_ble_eq_true rfl) (Nat.le_of_ble_eq_true rfl) dL_worstFlange_15
    · rw [hu1] at ho
      cases ho
def hhL_reportByte : List (Nat × Nat × Nat × Nat) := [(0, 9, 12, 24)]
theorem hxL_reportByte_2 : HX RL hhL_reportByte 4 2 12 := ⟨[], (0, 9, 12, 24), [], rfl, (fun z hz => by cases hz), by decide, by decide, clL_24, csT_2, rfl⟩
set_option maxRecDepth 100000 in
theorem lkL_reportByte : LKW RL 316 yL_reportByte cL_reportByte 4 (some .int) hhL_reportByte 3 := ⟨(gb6 91 (by decide +kernel) (by decide +kernel)), (gb6 93 rfl (by decide +kernel)), (gb1 0 (by decide +kernel) (by decide +kernel)), by decide, by decide +kernel, (gb6 92 (by decide +kernel) (by decide +kernel))⟩
set_option maxRecDepth 100000 in
set_option maxHeartbeats 4000000 in
theorem KL_reportByte {k : KT} {T : TT} {R : RR} {ly : Fin 2 → LL} {rc : RC} {hn : HN} {rp : RP} {tp : TP} {ee : EE} {st : Fin 12 → SS} {w : Nat → Int64} {aside : Nat → Int64} {thought : Nat → Int64} {fresh : Nat → Int64} {mu : MU} {th : Int32} {mp : MP} {mf : MF} {mh : MH} {mg : MG} {ou : Nat → Int64} {od : Nat → UInt64} {x1 : Int32} {r : Int32 × (Nat → Int64)} (hf : fL_reportByte rp ou x1 = some r) : CTW k strs yL_reportByte cL_reportByte 4 (some .int) hhL_reportByte (rmD 7 1 6) 1 6 [.ref (k.b + (0)), .int x1, .ref (k.b + (197))] (wAll k T R ly rc hn rp tp ee st w aside thought fresh mu th mp mf mh mg ou od) (some (.int r.1)) (wAll k T R ly rc hn rp tp ee st w aside thought fresh mu th mp mf mh mg r.2 od) := by
  refine CTW.of (by decide) (Nat.le_of_ble_eq_true rfl) ?_
  intro z X hT hQ
  show VW k z 0 0 (wAll k T R ly rc hn rp tp ee st w aside thought fresh mu th mp mf mh mg ou od) 0 [some (.ref (k.b + (0))), some (.int x1), some (.ref (k.b + (197))), none] []
  unfold fL_reportByte at hf
  obtain ⟨u, hu, hf⟩ := bdS hf
  refine r_aload_n X (x := k.b + (197)) dL_reportByte_0 rfl ?_
  refine r_iconst X (v := 0) dL_reportByte_1 rfl ?_
  refine r_aload_n X (x := k.b + (0)) dL_reportByte_2 rfl ?_
  refine r_iload_n X (x := x1) dL_reportByte_3 rfl ?_
  refine r_callX X hT [.int x1] [.int 0, .ref (k.b + (197))] (K9_reportByte hu) lkL_148 clsX9 rfl _ o_main (rle (by decide) (Nat.le_of_ble_eq_true rfl)) rfl rfl (Nat.le_of_ble_eq_true rfl) (Nat.le_of_ble_eq_true rfl) rfl rfl (Nat.le_of_ble_eq_true rfl) rfl dL_reportByte_4 ?_ ?_
  · intro e qx he he4
    rcases hu1 : u with v | e1
    · rw [hu1] at he
      cases he
    · rw [hu1] at he hf
      cases he
      replace hf : (if e = 2 then some (1, ou) else none) = some r := hf
      by_cases c2 : e = 2
      · replace hf := ifT hf c2
        subst c2
        refine ⟨12, hxL_reportByte_2, ?_⟩
        refine r_astore_n X [some (.ref (k.b + (0))), some (.int x1), some (.ref (k.b + (197))), some (.ref qx)] dL_reportByte_12 (Nat.le_of_ble_eq_true rfl) rfl ?_
        refine r_iconst X (v := 1) dL_reportByte_13 rfl ?_
        obtain rfl := Option.some.inj hf
        exact r_ireturn X hQ rfl rfl (Nat.le_of_ble_eq_true rfl) (Nat.le_of_ble_eq_true rfl) dL_reportByte_14
      replace hf := ifF hf c2
      cases hf
  · intro o ho
    rcases hu1 : u with v | e1
    · rw [hu1] at ho hf
      cases ho
      replace hf : (some (0, vp_updL ou (ix 0) v.toInt64)) = some r := hf
      show VW k z 1 6 (wAll k T R ly rc hn rp tp ee st w aside thought fresh mu th mp mf mh mg ou od) 7 [some (.ref (k.b + (0))), some (.int x1), some (.ref (k.b + (197))), none] (.int v :: [.int 0, .ref (k.b + (197))])
      refine r_i2l X dL_reportByte_7 ?_
      refine r_lastore X (f := ou) (ws1 := wAll k T R ly rc hn rp tp ee st w aside thought fresh mu th mp mf mh mg (vp_updL ou (ix 0) v.toInt64) od) _ a_m_ou (by decide) (s_ou (vp_updL ou (ix 0) v.toInt64)) dL_reportByte_8 ?_
      refine r_goto X 15 dL_reportByte_9 rfl ?_
      refine r_iconst X (v := 0) dL_reportByte_15 rfl ?_
      obtain rfl := Option.some.inj hf
      exact r_ireturn X hQ rfl rfl (Nat.le_of_ble_eq_true rfl) (Nat.le_of_ble_eq_true rfl) dL_reportByte_16
    · rw [hu1] at ho
      cases ho
def hhL_undo : List (Nat × Nat × Nat × Nat) := [(0, 8, 11, 13)]
theorem hxL_undo_0 : HX RL hhL_undo 3 0 11 := ⟨[], (0, 8, 11, 13), [], rfl, (fun z hz => by cases hz), by decide, by decide, clL_13, csT_0, rfl⟩
set_option maxRecDepth 100000 in
theorem lkL_undo : LKW RL 319 yL_undo cL_undo 3 (some .int) hhL_undo 2 := ⟨(gb6 98 (by decide +kernel) (by decide +kernel)), (gb6 100 rfl (by decide +kernel)), (gb1 0 (by decide +kernel) (by decide +kernel)), by decide, by decide +kernel, (gb6 99 (by decide +kernel) (by decide +kernel))⟩
set_option maxRecDepth 100000 in
set_option maxHeartbeats 4000000 in
theorem KL_undo {k : KT} {T : TT} {R : RR} {ly : Fin 2 → LL} {rc : RC} {hn : HN} {rp : RP} {tp : TP} {ee : EE} {st : Fin 12 → SS} {w : Nat → Int64} {aside : Nat → Int64} {thought : Nat → Int64} {fresh : Nat → Int64} {mu : MU} {th : Int32} {mp : MP} {mf : MF} {mh : MH} {mg : MG} {ou : Nat → Int64} {od : Nat → UInt64}  {r : Int32 × (TP) × (Nat → Int64)} (hf : fL_undo tp ou = some r) : CTW k strs yL_undo cL_undo 3 (some .int) hhL_undo (rmD 7 1 6) 1 6 [.ref (k.b + (0)), .ref (k.b + (197))] (wAll k T R ly rc hn rp tp ee st w aside thought fresh mu th mp mf mh mg ou od) (some (.int r.1)) (wAll k T R ly rc hn rp r.2.1 ee st w aside thought fresh mu th mp mf mh mg r.2.2 od) := by
  refine CTW.of (by decide) (Nat.le_of_ble_eq_true rfl) ?_
  intro z X hT hQ
  show VW k z 0 0 (wAll k T R ly rc hn rp tp ee st w aside thought fresh mu th mp mf mh mg ou od) 0 [some (.ref (k.b + (0))), some (.ref (k.b + (197))), none] []
  unfold fL_undo at hf
  obtain ⟨u, hu, hf⟩ := bdS hf
  refine r_aload_n X (x := k.b + (197)) dL_undo_0 rfl ?_
  refine r_iconst X (v := 0) dL_undo_1 rfl ?_
  refine r_aload_n X (x := k.b + (0)) dL_undo_2 rfl ?_
  refine r_callX X hT [] [.int 0, .ref (k.b + (197))] (K9_undo hu) lkL_151 clsX9 rfl _ o_main (rle (by decide) (Nat.le_of_ble_eq_true rfl)) rfl rfl (Nat.le_of_ble_eq_true rfl) (Nat.le_of_ble_eq_true rfl) rfl rfl (Nat.le_of_ble_eq_true rfl) rfl dL_undo_3 ?_ ?_
  · intro e qx he he4
    rcases hu1 : u.1 with v | e1
    · rw [hu1] at he
      cases he
    · rw [hu1] at he hf
      cases he
      replace hf : (if e = 0 then some (1, u.2, ou) else none) = some r := hf
      by_cases c0 : e = 0
      · replace hf := ifT hf c0
        subst c0
        refine ⟨11, hxL_undo_0, ?_⟩
        refine r_astore_n X [some (.ref (k.b + (0))), some (.ref (k.b + (197))), some (.ref qx)] dL_undo_11 (Nat.le_of_ble_eq_true rfl) rfl ?_
        refine r_iconst X (v := 1) dL_undo_12 rfl ?_
        obtain rfl := Option.some.inj hf
        exact r_ireturn X hQ rfl rfl (Nat.le_of_ble_eq_true rfl) (Nat.le_of_ble_eq_true rfl) dL_undo_13
      replace hf := ifF hf c0
      cases hf
  · intro o ho
    rcases hu1 : u.1 with v | e1
    · rw [hu1] at ho hf
      cases ho
      replace hf : (some (0, u.2, vp_updL ou (ix 0) v.toInt64)) = some r := hf
      show VW k z 1 6 (wAll k T R ly rc hn rp u.2 ee st w aside thought fresh mu th mp mf mh mg ou od) 6 [some (.ref (k.b + (0))), some (.ref (k.b + (197))), none] (.int v :: [.int 0, .ref (k.b + (197))])
      refine r_i2l X dL_undo_6 ?_
      refine r_lastore X (f := ou) (ws1 := wAll k T R ly rc hn rp u.2 ee st w aside thought fresh mu th mp mf mh mg (vp_updL ou (ix 0) v.toInt64) od) _ a_m_ou (by decide) (s_ou (vp_updL ou (ix 0) v.toInt64)) dL_undo_7 ?_
      refine r_goto X 14 dL_undo_8 rfl ?_
      refine r_iconst X (v := 0) dL_undo_14 rfl ?_
      obtain rfl := Option.some.inj hf
      exact r_ireturn X hQ rfl rfl (Nat.le_of_ble_eq_true rfl) (Nat.le_of_ble_eq_true rfl) dL_undo_15
    · rw [hu1] at ho
      cases ho
