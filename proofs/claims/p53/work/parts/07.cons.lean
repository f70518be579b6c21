/-! constructors: the judgement that knows where the next cell lies -/
def VN (k : KT) (z : ZT) (n n' : Nat) (ws : va_W) (pc : Nat) (lo : List (Option Value)) (st : List Value) : Prop :=
  ∀ (H : Heap) (L : List Loc) (la : Array Slot), va_P k.D clS ws H → va_D (kA k) ws → va_S (kA k) (zS z).heap H L → H.size = k.b + ws.length → lvH la lo → ZW k z H L n n' (F0 (zM z) pc la st)
theorem VN.of {k : KT} {z : ZT} {n n' : Nat} {ws : va_W} {pc : Nat} {lo : List (Option Value)} {st : List Value} (h : VW k z n n' ws pc lo st) : VN k z n n' ws pc lo st := fun H L la hP hD hS _ hl => h H L la hP hD hS hl
theorem VN.foc {k : KT} {z : ZT} {n n' : Nat} {ws ws' : va_W} {pc : Nat} {lo : List (Option Value)} {st : List Value} (h : ws = ws') (kk : VN k z n n' ws' pc lo st) : VN k z n n' ws pc lo st := h ▸ kk
def XN (k : KT) (strs : List ST) (z : ZT) (own : String) (cc : ByteArray) (nL : Nat) (R0 : Room) : Prop := XX k strs z own cc nL none R0 ∧ (zH z).name = "<init>" ∧ va_AO RX5 (zS z)
def PN (k : KT) (strs : List ST) (ws : va_W) (U : State) : Prop := PW k strs ws U ∧ U.heap.size = k.b + ws.length ∧ va_AO RX5 U
def QN (k : KT) (ws : va_W) : Array Value → State → Outcome → State → Prop := fun _ st oc t => (oc = .returned none ∧ va_P k.D clS ws t.heap ∧ va_D (kA k) ws ∧ va_F (kA k) st t) ∧ t.heap.size = k.b + ws.length
/-- the contract of a constructor -/
def CN (k : KT) (strs : List ST) (y : MethodName) (cc : ByteArray) (nL : Nat) (R0 : Room) (mc ms : Nat) (args : List Value) (ws ws' : va_W) : Prop :=
  Met k.l y (.code y cc nL none :: bigw) R0 (va_Pc args (PN k strs ws)) (QN k ws') mc ms (kA k)
theorem PN.blind {k : KT} {strs : List ST} {ws : va_W} {args : List Value} : FrameBlind (va_Pc args (PN k strs ws)) := by
  intro a U g mk h
  obtain ⟨h1, ⟨h2, h3, h4, h5⟩, h6, h7⟩ := h
  exact ⟨h1, ⟨h2, h3, h4.same rfl, h5⟩, h6, h7⟩
theorem CN.of {k : KT} {strs : List ST} {y : MethodName} {cc : ByteArray} {nL : Nat} {R0 : Room} {mc ms : Nat} {args : List Value} {ws ws' : va_W} (hy : plainName y.cls = true) (hyn : y.name = "<init>") (hn : (lg_sl args).length ≤ nL)
    (body : ∀ z : ZT, XN k strs z y.cls cc nL R0 → zQ z = MQ (zB z) (QN k ws') (zA z) (zS z) mc ms (kA k) → VN k z 0 0 ws 0 (loOf (lg_sl args ++ List.replicate (nL - (lg_sl args).length) Slot.unset)) []) : CN k strs y cc nL R0 mc ms args ws ws' := by
  refine Met.ofW (cc := cc) (maxL := nL) (ret := none) hy rfl ?_
  intro p e s m as below meth c s₁ B hml hv
  obtain ⟨rfl, ⟨hP, hD, hF, hb0⟩, hz, hao⟩ := hv
  have hts : ∀ w ∈ bigw, w.before args.toArray s = true := fun w hw => atoms_spec (ws := .code y cc nL none :: bigw) B.pre w (List.mem_cons_of_mem _ hw)
  have K := body (p, e, R0, s, m, args.toArray, below, meth, c, MQ below (QN k ws') args.toArray s mc ms (kA k)) ⟨⟨B.exec, B.bytes, hml, B.returns, rfl, B.notSynchronized, findClass_of_methodNamed B.named, hts, hF, hb0⟩, ((name_of_methodNamed B.named B.method).1).trans hyn, hao⟩ rfl
  rw [lg_entry_eq]
  exact K s.heap [] _ hP hD va_S.rf hz (lvH.of_args (lv_entry args hn))
section NROWS
variable {k : KT} {strs : List ST} {z : ZT} {own : String} {cc : ByteArray} {nL : Nat} {R0 : Room} {n n' pc pc' : Nat} {ws : va_W} {lo : List (Option Value)} {st : List Value}
theorem n_iconst (X : XN k strs z own cc nL R0) {i : Int} {v : Int32} (d : DEC cc pc 1 pc' (.iconst i)) (hv : Int32.ofInt i = v) (kk : VN k z n n' ws pc' lo (.int v :: st)) : VN k z n n' ws pc lo st := by
  obtain ⟨d, rfl⟩ := d
  exact fun H L la hP hD hS hz hl => lv_iconst X.1.1 X.1.2.1 d hv (kk H L la hP hD hS hz hl)
theorem n_bipush (X : XN k strs z own cc nL R0) {i : Int} {v : Int32} (d : DEC cc pc 2 pc' (.bipush i)) (hv : (Int8.ofInt i).toInt32 = v) (kk : VN k z n n' ws pc' lo (.int v :: st)) : VN k z n n' ws pc lo st := by
  obtain ⟨d, rfl⟩ := d
  exact fun H L la hP hD hS hz hl => lv_bipush X.1.1 X.1.2.1 d hv (kk H L la hP hD hS hz hl)
theorem n_ldc (X : XN k strs z own cc nL R0) {ix : Nat} {v : Int32} (w : .constant own ix v ∈ bigw) (d : DEC cc pc 2 pc' (.ldc ix)) (kk : VN k z n n' ws pc' lo (.int v :: st)) : VN k z n n' ws pc lo st := by
  obtain ⟨d, rfl⟩ := d
  exact fun H L la hP hD hS hz hl => lv_ldc X.1.1 X.1.2.1 X.1.own1 (X.1.ts _ w) d (kk H L la hP hD hS hz hl)
theorem n_sipush (X : XN k strs z own cc nL R0) {i : Int} {v : Int32} (d : DEC cc pc 3 pc' (.sipush i)) (hv : (Int16.ofInt i).toInt32 = v) (kk : VN k z n n' ws pc' lo (.int v :: st)) : VN k z n n' ws pc lo st := by
  obtain ⟨d, rfl⟩ := d
  exact fun H L la hP hD hS hz hl => lv_sipush X.1.1 X.1.2.1 d hv (kk H L la hP hD hS hz hl)
theorem n_aload_n (X : XN k strs z own cc nL R0) {i : Fin 4} {x : Nat} (d : DEC cc pc 1 pc' (.aload_n i)) (hv : lo[(i : Nat)]? = some (some (.ref x))) (kk : VN k z n n' ws pc' lo (.ref x :: st)) : VN k z n n' ws pc lo st := by
  obtain ⟨d, rfl⟩ := d
  exact fun H L la hP hD hS hz hl => lv_aload_n X.1.1 X.1.2.1 d rfl (hl.at hv) (kk H L la hP hD hS hz hl)
theorem n_iload_n (X : XN k strs z own cc nL R0) {i : Fin 4} {x : Int32} (d : DEC cc pc 1 pc' (.iload_n i)) (hv : lo[(i : Nat)]? = some (some (.int x))) (kk : VN k z n n' ws pc' lo (.int x :: st)) : VN k z n n' ws pc lo st := by
  obtain ⟨d, rfl⟩ := d
  exact fun H L la hP hD hS hz hl => lv_iload_n X.1.1 X.1.2.1 d rfl (hl.at hv) (kk H L la hP hD hS hz hl)
theorem n_istore_n (X : XN k strs z own cc nL R0) {i : Fin 4} {x : Int32} (lo' : List (Option Value)) (d : DEC cc pc 1 pc' (.istore_n i)) (hi : (i : Nat) < lo.length) (hlo : setL lo (i : Nat) (.int x) = lo') (kk : VN k z n n' ws pc' lo' st) : VN k z n n' ws pc lo (.int x :: st) := by
  obtain ⟨d, rfl⟩ := d
  subst hlo
  exact fun H L la hP hD hS hz hl => lv_istore_n X.1.1 X.1.2.1 d rfl hl.has hi rfl fun la' h => kk H L la' hP hD hS hz (setL_sub hi h)
theorem n_iinc (X : XN k strs z own cc nL R0) {i : Nat} {c : Int} {x v : Int32} (lo' : List (Option Value)) (d : DEC cc pc 3 pc' (.iinc i c)) (hx : lo[i]? = some (some (.int x))) (hv : x + Int32.ofInt c = v) (hlo : setL lo i (.int v) = lo') (kk : VN k z n n' ws pc' lo' st) : VN k z n n' ws pc lo st := by
  obtain ⟨d, rfl⟩ := d
  subst hlo
  have hi : i < lo.length := (List.getElem?_eq_some_iff.mp hx).1
  obtain ⟨j, hj⟩ := List.getElem?_of_mem (prs_mem.mpr hx)
  exact fun H L la hP hD hS hz hl => lv_iinc X.1.1 X.1.2.1 d hl.has hj hv hi rfl fun la' h => kk H L la' hP hD hS hz (setL_sub hi h)
theorem n_dup (X : XN k strs z own cc nL R0) {v : Value} (d : DEC cc pc 1 pc' .dup) (h : v.category = 1) (kk : VN k z n n' ws pc' lo (v :: v :: st)) : VN k z n n' ws pc lo (v :: st) := by
  obtain ⟨d, rfl⟩ := d
  exact fun H L la hP hD hS hz hl => lv_dup X.1.1 X.1.2.1 d h (kk H L la hP hD hS hz hl)
theorem n_goto (X : XN k strs z own cc nL R0) {off : Int} (tgt : Nat) (d : DEC cc pc 3 pc' (.goto off)) (ht : (pc : Int) + off = (tgt : Int)) (kk : VN k z n n' ws tgt lo st) : VN k z n n' ws pc lo st := by
  obtain ⟨d, rfl⟩ := d
  exact fun H L la hP hD hS hz hl => lv_goto X.1.1 X.1.2.1 d ht (kk H L la hP hD hS hz hl)
theorem n_getfield (X : XN k strs z own cc nL R0) {ci N ix : Nat} {C : String} {T : u_T} {ty : Nat → FieldType} {a f : Nat} {fs : List Value} {v : Value} (c : CLS ci C T N ty) (w : FL own ix T f) (hf : f < N) (q : Nat) (he : ws[q]? = some (a, .inr (ci, fs))) (hv : fs[f]? = some v) (d : DEC cc pc 3 pc' (.getfield ix)) (kk : VN k z n n' ws pc' lo (v :: st)) : VN k z n n' ws pc lo (.ref a :: st) := by
  obtain ⟨d, rfl⟩ := d
  exact fun H L la hP hD hS hz hl => va_get X.1.1 X.1.2.1 X.1.ts c.2.1 X.1.own1 X.1.K hP q he c.1 f hf (X.1.ts _ w) (fun _ h => h) hv d (kk H L la hP hD hS hz hl)
/-- a write that leaves the heap as long as it was -/
theorem va_putSz {p : Program} {l : Launch} {e : Env} {R : Room} {s : State} {m : MethodId} {args : Array Value} {below : List Frame} {meth : Method} {c : Code} {H : Heap} {locs : List Loc} {cells slots : Nat} {Q : State → Prop} {cc : ByteArray} {pc : Nat} {ls : Array Slot} {rest : List Value} {D : va_G} {cl : List vw_C} {A : Nat → Prop} {a : Nat} {tys : List (ClassId × FieldType)} {ws : va_W} {H0 : Heap}
    (hexec : p.tables.exec = Jvm.exec) (hb : c.code = cc) {own ref C : String} {T : u_T} {N ci index : Nat} {Ts : List Cond} (hts : ∀ w ∈ Ts, w.before args s = true) (hin : ∀ w ∈ u_ws C T N, w ∈ Ts) (ty0 : Nat → FieldType) (hty : ∀ k, k < N → parseFieldDescriptor (T k).2.2.1 = some (ty0 k)) (hnm : ∀ a, a < N → ∀ b, b < N → a ≠ b → (T a).2.1 ≠ (T b).2.1) (hown : s.vm.findClass own = some m.cls) (hK : va_K D cl tys s) (hP : va_P D cl ws H) (hD : va_D A ws) (hS0 : va_S A H0 H locs) (q0 : Nat) {fs : List Value} (he : ws[q0]? = some (a, .inr (ci, fs))) (hc : cl[ci]? = some (C, T, N)) (k : Nat) (hk : k < N) (hlink : (Cond.fieldLink own index ref (T k).2.1 (T k).2.2.1).before args s = true) (hsame : ∀ x, s.fieldFound? (T k).1 (T k).2.1 (T k).2.2.1 = some x → s.fieldFound? ref (T k).2.1 (T k).2.2.1 = some x) (hfin : (T k).2.2.2 = false ∨ (meth.name = "<init>" ∧ (T k).1 = own)) {ty : FieldType} {v : Value} (hd : parseFieldDescriptor (T k).2.2.1 = some ty) (hn : narrow ty v = v) (hfit : fits ty v = true) (hl : k < fs.length)
    (hdg : decode cc pc = .ok (.putfield index, 3)) (kk : ∀ (H1 : Heap) (locs1 : List Loc), va_P D cl (ws.set q0 (a, .inr (ci, fs.set k v))) H1 → va_D A (ws.set q0 (a, .inr (ci, fs.set k v))) → va_S A H0 H1 locs1 → H1.size = H.size → W p l e R s m args below meth c H1 locs1 cells slots Q (F0 m (pc + 3) ls rest)) : W p l e R s m args below meth c H locs cells slots Q (F0 m pc ls (v :: .ref a :: rest)) := by
  have hap := va_apart (own := own) hts hin ty0 hty hnm hK hc
  obtain ⟨r, h1, cell, q1, q2, q3, q4⟩ := hP q0 _ he
  have hr : r = (C, T, N) := Option.some.inj (h1.symm.trans hc)
  subst hr
  obtain ⟨hS, hfc, kC, hkC, hkind⟩ := hK.1 ci _ hc
  obtain ⟨cf, kf, fi, f, hi, hsl⟩ := hS k hk
  have hlay := hts _ (hin _ (u_in_lay hk))
  unfold u_lay at hlay
  have hst := (u_facts hfc hkC (u_lays hts hin hk) hi).1
  by_cases hf : (T k).2.2.2 = false
  · rw [if_neg (by rw [hf]; decide)] at hlay
    have h6 := u_store hfc hkC hkind hlay hi hd hn hfit
    refine W.putK hexec hb (f := f) ⟨hown, hlink, ⟨_, _, _, hsame _ hi⟩, hst⟩ (by rw [q2]; exact h6) q1 q3 (by rw [hsl]; exact k2_hasslot (q4 k hk)) rfl rfl hdg fun H' e1 e2 e3 => ?_
    rw [hsl] at e1 ⊢
    exact kk H' _ (hP.set hD he ⟨_, hc, t_OB.to (V := updV (vp_V fs) k v) ⟨_, e1, q2, q3, t_set q4 hap hk v⟩ (fun j _ => vp_updV_set hl v j)⟩ e3) (hD.set he) (hS0.put e2 e3 (hD.2 q0 _ he)) e2
  · have hf1 : (T k).2.2.2 = true := by
      cases h : (T k).2.2.2 with
      | true => rfl
      | false => exact absurd h hf
    obtain ⟨hin2, hdecl⟩ := hfin.resolve_left hf
    rw [if_pos hf1] at hlay
    have hcf : m.cls = cf := by
      obtain ⟨_, _, c', _, _, _, -, -, hf', -, -, -, hown2, -⟩ := Cond.laysFinal_spec hlay
      have e1 : c' = cf := by have := hi.symm.trans hf'; simp at this; exact this.1.symm
      rw [hdecl] at hown2
      rw [← e1]; exact Option.some.inj (hown.symm.trans hown2)
    have h6 := u_fits hfc hkC hkind (Or.inr hlay) hi hd hn hfit
    refine W.putFinK hexec hb hown hlink (hsame _ hi) hst hcf hin2 (by rw [q2]; exact h6) q1 q3 (by rw [hsl]; exact k2_hasslot (q4 k hk)) rfl rfl hdg fun H' e1 e2 e3 => ?_
    rw [hsl] at e1 ⊢
    exact kk H' _ (hP.set hD he ⟨_, hc, t_OB.to (V := updV (vp_V fs) k v) ⟨_, e1, q2, q3, t_set q4 hap hk v⟩ (fun j _ => vp_updV_set hl v j)⟩ e3) (hD.set he) (hS0.put e2 e3 (hD.2 q0 _ he)) e2
theorem n_putfield (X : XN k strs z own cc nL R0) {ci N ix : Nat} {C : String} {T : u_T} {ty : Nat → FieldType} {a f : Nat} {fs : List Value} {v : Value} {ws1 : va_W} (c : CLS ci C T N ty) (w : FL own ix T f) (hf : f < N) (hdecl : (T f).1 = own) (hn : narrow (ty f) v = v) (hfit : fits (ty f) v = true) (q : Nat) (he : ws[q]? = some (a, .inr (ci, fs))) (hl0 : f < fs.length) (hws : ws.set q (a, .inr (ci, fs.set f v)) = ws1) (d : DEC cc pc 3 pc' (.putfield ix)) (kk : VN k z n n' ws1 pc' lo st) : VN k z n n' ws pc lo (v :: .ref a :: st) := by
  obtain ⟨d, rfl⟩ := d
  subst hws
  exact fun H L la hP hD hS hz hl => va_putSz X.1.1 X.1.2.1 X.1.ts c.2.1 ty c.2.2.1 c.2.2.2 X.1.own1 X.1.K hP hD hS q he c.1 f hf (X.1.ts _ w) (fun _ h => h) (Or.inr ⟨X.2.1, hdecl⟩) (c.2.2.1 f hf) hn hfit hl0 d (fun H1 L1 hP hD hS hz1 => kk H1 L1 la hP hD hS (by rw [hz1, hz, List.length_set]) hl)
theorem n_iastore (X : XN k strs z own cc nL R0) {a N : Nat} {f : Nat → Int32} {i : Int32} {x : Int32} {ws1 : va_W} (q : Nat) (he : ws[q]? = some (a, .inl (k.c 0, (N, .inl f)))) (hi : inb i N = true) (hws : ws.set q (a, .inl (k.c 0, (N, .inl (upd f (ix i) x)))) = ws1) (d : DEC cc pc 1 pc' .iastore) (kk : VN k z n n' ws1 pc' lo st) : VN k z n n' ws pc lo (.int x :: .int i :: .ref a :: st) := by
  obtain ⟨d, rfl⟩ := d
  subst hws
  intro H L la hP hD hS hz hl
  refine W.iast X.1.1 X.1.2.1 (hP q _ he) ((X.1.K.2 0 _ rfl).1 N (fun j => .int (f j))) (fun q => by cases q) (by show ¬ (i < 0 ∨ (arrV _ _ _).slots.size ≤ _); rw [arrV_size]; exact inb_vp hi) rfl rfl d fun H1 e z1 oq => ?_
  refine kk H1 _ la (hP.set hD he ?_ oq) (hD.set he) (hS.put z1 oq (hD.2 q _ he)) (by rw [z1, hz, List.length_set]) hl
  show H1[a]? = some (vp_cell _ _)
  rw [e]
  rw [vp_cell_i, vp_cell_i, arrV_store]
  congr 2
  funext q
  by_cases hq : q = i.toNatClampNeg
  · subst hq
    simp [updV, upd]
  · simp [updV, upd, hq]
theorem n_aastore (X : XN k strs z own cc nL R0) {a N v : Nat} {vs : List Value} {f : Nat → Option Nat} {i : Int32} {ws1 : va_W} (q qk : Nat) (he : ws[q]? = some (a, .inl (k.c 4, (N, .inr (.inr (.inr (.inr f))))))) (hk : ws[qk]? = some (v, .inr (5, vs))) (hi : inb i N = true) (hws : ws.set q (a, .inl (k.c 4, (N, .inr (.inr (.inr (.inr (va_up f (ix i) (some v)))))))) = ws1) (d : DEC cc pc 1 pc' .aastore) (kk : VN k z n n' ws1 pc' lo st) : VN k z n n' ws pc lo (.ref v :: .int i :: .ref a :: st) := by
  obtain ⟨d, rfl⟩ := d
  subst hws
  intro H L la hP hD hS hz hl
  have hlt : i.toNatClampNeg < N := Nat.not_le.mp fun q => (inb_vp hi) (Or.inr q)
  have h0 : ¬ i < 0 := fun q => (inb_vp hi) (Or.inl q)
  obtain ⟨r', hr', cellV, g1, g2, g3, -⟩ := hP qk _ hk
  have hcls := (X.1.K.1 5 (RX5, TX5, 13) rfl).2
  obtain ⟨kA, comp, k1, k2, k3, -⟩ := (X.1.K.2 4 (k.c 4, .object RX5) rfl).2
  have hcomp : comp = k.D.1 5 := Option.some.inj (k3.symm.trans hcls.1)
  subst hcomp
  obtain ⟨kC, hkC, -⟩ := hcls.2
  refine W.aast X.1.1 X.1.2.1 (hP q _ he) (fun q h => by cases h) (fun h => by cases h) k1 k2 rfl hkC ⟨h0, by show _ < (arrV _ _ _).slots.size; rw [arrV_size]; exact hlt⟩ g1 (fun q h => by rw [g3] at h; cases h) (by rw [g2]; exact hkC) (by rw [g2]; exact va_assign hcls) rfl rfl d fun H1 e z1 oq => ?_
  refine kk H1 _ la (hP.set hD he ?_ oq) (hD.set he) (hS.put z1 oq (hD.2 q _ he)) (by rw [z1, hz, List.length_set]) hl
  show H1[a]? = some (vp_cell _ _)
  rw [e]
  rw [vp_cell_q, vp_cell_q, arrV_store]
  congr 2
  funext q
  by_cases hq : q = i.toNatClampNeg
  · subst hq
    simp [updV, va_up, va_rf]
  · simp [updV, va_up, hq]
/-- new C -/
def NWC (own : String) (ix : Nat) (C : String) (N : Nat) : Prop := .classLink own ix C ∈ bigw ∧ .instantiable C N ∈ bigw ∧ .initialized C ∈ bigw
theorem n_new (X : XN k strs z own cc nL R0) {ci N ix q : Nat} {C : String} {T : u_T} {ty : Nat → FieldType} {fs : List Value} {ws1 : va_W} (c : CLS ci C T N ty) (w : NWC own ix C N) (hfs : ∀ j, j < N → defaultValue (ty j) = vp_V fs j) (hq : ws.length = q) (hws : ws ++ [(k.b + q, .inr (ci, fs))] = ws1) (hc : n + 1 ≤ R0.cells) (hs : n' + N ≤ R0.slots) (d : DEC cc pc 3 pc' (.new ix)) (kk : VN k z (n + 1) (n' + N) ws1 pc' lo (.ref (k.b + q) :: st)) : VN k z n n' ws pc lo st := by
  obtain ⟨d, rfl⟩ := d
  subst hq; subst hws
  intro H L la hP hD hS hz hl
  have hKn := X.1.K.1 ci _ c.1
  refine W.newcK X.1.1 X.1.2.1 X.1.own1 (X.1.ts _ w.1) (X.1.ts _ w.2.1) (X.1.ts _ w.2.2) rfl d (by rw [X.1.R]; exact hc) (by rw [X.1.R]; exact hs) hKn.2.1 hz fun H1 kC hkC e1 z1 o1 => ?_
  have hk : ∀ (k : Nat) (x : Nat × va_E), ws[k]? = some x → H1[x.1]? = H[x.1]? := fun k x hx => o1 x.1 (by rw [← hz]; exact (hP k x hx).lt)
  have hA : kA k (k.b + ws.length) := Nat.le_add_right _ _
  refine kk H1 L la ((hP.kept hk).app (fun kq x hx => ?_)) (hD.push hP hz.symm hA) ⟨Nat.le_trans hS.1 (by omega), fun x h1 h2 => (o1 x (by rw [← hz]; exact Nat.lt_of_lt_of_le h1 hS.1)).trans (hS.2.1 x h1 h2), hS.2.2⟩ (by rw [z1, List.length_append]; rfl) hl
  have hz : kq < 1 := (List.getElem?_eq_some_iff.mp hx).1
  rw [show kq = 0 by omega] at hx
  cases hx
  exact ⟨_, c.1, (u_born ty X.1.ts c.2.1 hKn hkC e1 c.2.2.1).to hfs⟩
theorem n_newa (X : XN k strs z own cc nL R0) {atype : ArrayType} {ty : FieldType} {t0 : Nat} {v : Int32} {N' q : Nat} {a0 : vp_A} {ws1 : va_W} (hty : newarray.typeOf atype = ty) (hw : .arrayClass ty ∈ bigw) (ht : (tysOf k)[t0]? = some (k.c t0, ty)) (ha : ∀ cA : ClassId, vp_cell cA a0 = arrV cA N' (fun _ => defaultValue ty)) (hn : ¬ v < 0) (hN : v.toNatClampNeg = N') (hbytes : N' * componentBytes ty ≤ 536870912) (hq : ws.length = q) (hws : ws ++ [(k.b + q, .inl (k.c t0, a0))] = ws1) (hc : n + 1 ≤ R0.cells) (hs : n' + N' ≤ R0.slots) (d : DEC cc pc 2 pc' (.newarray atype)) (kk : VN k z (n + 1) (n' + N') ws1 pc' lo (.ref (k.b + q) :: st)) : VN k z n n' ws pc lo (.int v :: st) := by
  obtain ⟨d, rfl⟩ := d
  subst hq; subst hws; subst hty
  intro H L la hP hD hS hz hl
  refine va_newaK X.1.1 X.1.2.1 (X.1.ts _ hw) rfl d rfl hn hN hbytes (by rw [X.1.R]; exact hc) (by rw [X.1.R]; exact hs) hz fun H1 cA e1 z1 o1 hAr hNm => ?_
  have hcA : cA = k.c t0 := by
    have h2 := (X.1.K.2 t0 _ ht).2
    cases atype <;> exact Option.some.inj (hNm.symm.trans h2)
  subst hcA
  have hk : ∀ (k : Nat) (x : Nat × va_E), ws[k]? = some x → H1[x.1]? = H[x.1]? := fun k x hx => o1 x.1 (by rw [← hz]; exact (hP k x hx).lt)
  have hA : kA k (k.b + ws.length) := Nat.le_add_right _ _
  refine kk H1 L la ((hP.kept hk).app (fun kq x hx => ?_)) (hD.push hP hz.symm hA) ⟨Nat.le_trans hS.1 (by omega), fun x h1 h2 => (o1 x (by rw [← hz]; exact Nat.lt_of_lt_of_le h1 hS.1)).trans (hS.2.1 x h1 h2), hS.2.2⟩ (by rw [z1, List.length_append]; rfl) hl
  have hz : kq < 1 := (List.getElem?_eq_some_iff.mp hx).1
  rw [show kq = 0 by omega] at hx
  cases hx
  show H1[k.b + ws.length]? = some (vp_cell _ _)
  rw [ha]
  exact e1
theorem n_newq (X : XN k strs z own cc nL R0) {ix : Nat} {v : Int32} {N' q : Nat} {ws1 : va_W} (w : .classLink own ix RX5 ∈ bigw) (hn : ¬ v < 0) (hN : v.toNatClampNeg = N') (hbytes : N' * 4 ≤ 536870912) (hq : ws.length = q) (hws : ws ++ [(k.b + q, .inl (k.c 4, (N', .inr (.inr (.inr (.inr (fun _ => none)))))))] = ws1) (hc : n + 1 ≤ R0.cells) (hs : n' + N' ≤ R0.slots) (d : DEC cc pc 3 pc' (.anewarray ix)) (kk : VN k z (n + 1) (n' + N') ws1 pc' lo (.ref (k.b + q) :: st)) : VN k z n n' ws pc lo (.int v :: st) := by
  obtain ⟨d, rfl⟩ := d
  subst hq; subst hws; subst hN
  intro H L la hP hD hS hz hl
  refine W.anew X.1.1 X.1.2.1 X.1.own1 (X.1.ts _ w) (va_AO.use X.2.2) rfl d rfl hn hbytes (by rw [X.1.R]; exact hc) (by rw [X.1.R]; exact hs) fun cA kA1 comp f1 f2 f3 f4 => ?_
  have hcA : cA = k.c 4 := by
    obtain ⟨kA2, comp2, g1, g2, g3, g4⟩ := (X.1.K.2 4 (k.c 4, .object RX5) rfl).2
    exact Option.some.inj (f1.symm.trans g4)
  subst hcA
  generalize hH1 : H.push ({ cls := k.c 4, slots := Array.replicate v.toNatClampNeg .null, vm := .none } : Cell) = H1
  have z1 : H1.size = H.size + 1 := by rw [← hH1, Array.size_push]
  have e1 : H1[H.size]? = some (arrV (k.c 4) v.toNatClampNeg (fun _ => .null)) := by rw [← hH1, Array.getElem?_push_size, ← arrV_new]
  have o1 : ∀ q : Nat, q < H.size → H1[q]? = H[q]? := fun q hq => by rw [← hH1, Array.getElem?_push, if_neg (Nat.ne_of_lt hq)]
  have hk : ∀ (k : Nat) (x : Nat × va_E), ws[k]? = some x → H1[x.1]? = H[x.1]? := fun k x hx => o1 x.1 ((hP k x hx).lt)
  have hA : kA k (k.b + ws.length) := Nat.le_add_right _ _
  rw [hz]
  refine kk H1 L la ((hP.kept hk).app (fun kq x hx => ?_)) (hD.push hP hz.symm hA) ⟨Nat.le_trans hS.1 (by omega), fun x h1 h2 => (o1 x (Nat.lt_of_lt_of_le h1 hS.1)).trans (hS.2.1 x h1 h2), hS.2.2⟩ (by rw [z1, hz, List.length_append]; rfl) hl
  have hz1 : kq < 1 := (List.getElem?_eq_some_iff.mp hx).1
  rw [show kq = 0 by omega] at hx
  cases hx
  show H1[k.b + ws.length]? = some (vp_cell _ _)
  rw [vp_cell_q, ← hz]
  exact e1
theorem n_return (X : XN k strs z own cc nL R0) {mc ms : Nat} {ws' : va_W} (hQ : zQ z = MQ (zB z) (QN k ws') (zA z) (zS z) mc ms (kA k)) (hw : ws = ws') (hc : n ≤ mc) (hs : n' ≤ ms) (d : DEC cc pc 1 pc' .return_) : VN k z n n' ws pc lo [] := by
  intro H L la hP hD hS hz hl
  subst hw
  obtain ⟨d, rfl⟩ := d
  unfold ZW
  rw [hQ]
  exact W.widen hc hs (W.vret X.1.1 X.1.2.1 X.1.ret1 (fun t ht _ => ⟨⟨rfl, by rw [ht]; exact hP, hD, hS.F ht⟩, by rw [ht]; exact hz⟩) hS.2.2 d X.1.locks)
theorem pre_ofN (X : XN k strs z own cc nL R0) {H : Heap} {L : List Loc} {As : List Value} (hP : va_P k.D clS ws H) (hD : va_D (kA k) ws) (hS : va_S (kA k) (zS z).heap H L) (hz : H.size = k.b + ws.length) : PreS (zS z) H (va_Pc As (PN k strs ws)) As :=
  ⟨PN.blind, fun U hU hW => ⟨rfl, ⟨by rw [hU]; exact hP, hD, by rw [hU]; exact X.1.F.call hW hS.2.1, by rw [hU]; exact Nat.le_trans X.1.2.2.2.2.2.2.2.2.2 hS.1⟩, by rw [hU]; exact hz, va_AO.moved hW.alike X.2.2⟩⟩
theorem run_onN {R1 : Room} {ret : Option FieldType} {H : Heap} {L : List Loc} {la : Array Slot} {a : Array Value} {mc ms : Nat} {ws' : va_W} {st0 : List Value} (hS : va_S (kA k) (zS z).heap H L) (hl : lvH la lo)
    (hr : va_Run (zP z) k.l (zE z) (zR z) (zS z) (zM z) (zA z) (zB z) (zH z) (zC z) H L n n' mc ms (F0 (zM z) pc la st0) st (QN k ws' a) (kA k))
    (kk : VN k z (n + mc) (n' + ms) ws' (pc + 3) lo st) : ZW k z H L n n' (F0 (zM z) pc la st0) := by
  intro T hT Y
  obtain ⟨v, st₀, t, T', L1, h0, Y', hL, e1, e2, ⟨⟨hv, hP1, hD1, hz, hk⟩, hz1⟩, sg⟩ := hr T hT Y
  cases hv
  rw [h0] at hz hk
  have hS1 : va_S (kA k) (zS z).heap T'.heap (L ++ L1) := by
    refine ⟨Nat.le_trans hS.1 (by rw [e1]; exact hz), fun q h1 h2 => ?_, fun q hq => ?_⟩
    · rw [e1, hk q (Nat.lt_of_lt_of_le h1 hS.1) h2]; exact hS.2.1 q h1 h2
    · rcases List.mem_append.mp hq with h | h
      · exact hS.2.2 q h
      · exact hL q h
  obtain ⟨t2, a1, b1⟩ := kk T'.heap (L ++ L1) la (by rw [e1]; exact hP1) hD1 hS1 (by rw [e1]; exact hz1) hl T' rfl Y'
  exact ⟨t2, sg t2 a1, b1⟩
def LKI (own : String) (ix : Nat) (y : MethodName) (bytes : ByteArray) (maxL na : Nat) : Prop := LKB own ix y bytes maxL none na ∧ y.name = "<init>" ∧ .instanceMethod y ∈ bigw
def LKIN (own : String) (ix : Nat) (y : MethodName) (host : String) (bytes : ByteArray) (maxL na : Nat) : Prop := (.methodLinkNest own ix y host ∈ lw_tbl ∧ .code y bytes maxL none ∈ bigw ∧ .initialized y.cls ∈ bigw ∧ (y.cls ≠ "java/lang/invoke/MethodHandle" ∧ y.cls ≠ "java/lang/invoke/VarHandle") ∧ (parseMethodDescriptor y.desc).map (fun d => d.parameters.length) = some na) ∧ y.name = "<init>" ∧ .instanceMethod y ∈ bigw
theorem n_callI (X : XN k strs z own cc nL R0) {ix maxL na mc ms a : Nat} {y : MethodName} {bytes : ByteArray} {R1 : Room} {ws' : va_W} {st0 : List Value}
    (As : List Value) (st : List Value) (hM : CN k strs y bytes maxL R1 mc ms (.ref a :: As) ws ws') (w : LKI own ix y bytes maxL na) (hR : RLE maxL R1 R0) (hmc : R1.cells = mc) (hms : R1.slots = ms) (hc : n + mc ≤ R0.cells) (hs : n' + ms ≤ R0.slots)
    (hst : st0 = As.reverse ++ .ref a :: st) (hna : As.length = na) (hcat : (st.map fun v => v.category).sum ≤ 8) (hlo : lo.length = nL) (d : DEC cc pc 3 pc' (.invokespecial ix)) (kk : VN k z (n + mc) (n' + ms) ws' pc' lo st) : VN k z n n' ws pc lo st0 := by
  subst hst
  obtain ⟨d, rfl⟩ := d
  intro H L la hP hD hS hz hl
  exact run_onN (R1 := R1) (ret := none) hS hl (va_runI (n := na) (nL := nL) (As := As) (rest := st) ⟨X.1.1, X.1.2.1, X.1.ml, X.1.own1, X.1.ts⟩ hM ⟨cb_of X.1 w.1 hR hmc hms, w.2.1, X.1.ts _ w.2.2⟩ (pre_ofN X hP hD hS hz) rfl hna (hl.1.trans hlo) rfl (lv_room hcat) d ⟨by rw [X.1.R]; exact hc, by rw [X.1.R]; exact hs⟩) kk
theorem n_callIN (X : XN k strs z own cc nL R0) {ix maxL na mc ms a : Nat} {y : MethodName} {host : String} {bytes : ByteArray} {R1 : Room} {ws' : va_W} {st0 : List Value}
    (As : List Value) (st : List Value) (hM : CN k strs y bytes maxL R1 mc ms (.ref a :: As) ws ws') (w : LKIN own ix y host bytes maxL na) (hR : RLE maxL R1 R0) (hmc : R1.cells = mc) (hms : R1.slots = ms) (hc : n + mc ≤ R0.cells) (hs : n' + ms ≤ R0.slots)
    (hst : st0 = As.reverse ++ .ref a :: st) (hna : As.length = na) (hcat : (st.map fun v => v.category).sum ≤ 8) (hlo : lo.length = nL) (d : DEC cc pc 3 pc' (.invokespecial ix)) (kk : VN k z (n + mc) (n' + ms) ws' pc' lo st) : VN k z n n' ws pc lo st0 := by
  subst hst
  obtain ⟨d, rfl⟩ := d
  intro H L la hP hD hS hz hl
  exact run_onN (R1 := R1) (ret := none) hS hl (va_runIN (n := na) (nL := nL) (As := As) (rest := st) ⟨X.1.1, X.1.2.1, X.1.ml, X.1.own1, X.1.ts⟩ hM ⟨⟨⟨hmc, hms, by rw [X.1.R]; exact hR.1, by rw [X.1.R]; exact hR.2, big_all X.1 w.1.2.1, List.mem_cons_self⟩, X.1.ts _ w.1.2.1, X.1.ts _ w.1.2.2.1, w.1.2.2.2.1, lkn w.1.2.2.2.2, va_Nw.use rfl (X.1.F.2.2.2.2.1 _ _ _ _ w.1.1)⟩, w.2.1, X.1.ts _ w.2.2⟩ (pre_ofN X hP hD hS hz) rfl hna (hl.1.trans hlo) rfl (lv_room hcat) d ⟨by rw [X.1.R]; exact hc, by rw [X.1.R]; exact hs⟩) kk
def LKO (own : String) (ix : Nat) : Prop := .methodLink own ix Lib.objectInit ∈ bigw ∧ .instanceMethod Lib.objectInit ∈ bigw ∧ .code Lib.objectInit ⟨#[0xb1]⟩ 1 none ∈ bigw
theorem n_objInit (X : XN k strs z own cc nL R0) {ix a : Nat} (w : LKO own ix) (hlo : lo.length = nL) (hR : 1 ≤ R0.frames ∧ (st.map fun v => v.category).sum + 12 ≤ R0.locals) (d : DEC cc pc 3 pc' (.invokespecial ix)) (kk : VN k z n n' ws pc' lo st) : VN k z n n' ws pc lo (.ref a :: st) := by
  obtain ⟨d, rfl⟩ := d
  exact fun H L la hP hD hS hz hl => W.objInit X.1.1 X.1.2.1 X.1.own1 (X.1.ts _ w.1) (X.1.ts _ w.2.1) (X.1.ts _ w.2.2) rfl (hl.1.trans (hlo.trans X.1.ml.symm)) rfl d (by rw [X.1.R]; exact hR.1) (by rw [X.1.R]; exact (Nat.zero_add _).symm ▸ hR.2) (kk H L la hP hD hS hz hl)
theorem n_icmp_ge (X : XN k strs z own cc nL R0) {x y : Int32} {off : Int} (tgt : Nat) (d : DEC cc pc 3 pc' (.if_icmp .ge off)) (ht : (pc : Int) + off = (tgt : Int)) (kt : y ≤ x → VN k z n n' ws tgt lo st) (kf : ¬ y ≤ x → VN k z n n' ws pc' lo st) : VN k z n n' ws pc lo (.int y :: .int x :: st) := by
  obtain ⟨d, rfl⟩ := d
  exact fun H L la hP hD hS hz hl => lv_icmp_ge X.1.1 X.1.2.1 d ht (fun h => kt h H L la hP hD hS hz hl) (fun h => kf h H L la hP hD hS hz hl)
end NROWS

theorem gx {P C : va_W} {p i : Nat} {c : Nat × va_E} (hp : P.length = p) (h : C[i]? = some c) : (P ++ C)[p + i]? = some c := by
  rw [List.getElem?_append_right (by omega), hp, Nat.add_sub_cancel_left]
  exact h
theorem sx {P C C1 : va_W} {p i : Nat} {c : Nat × va_E} (hp : P.length = p) (h : C.set i c = C1) : (P ++ C).set (p + i) c = P ++ C1 := by
  rw [List.set_append_right _ _ (by omega), hp, Nat.add_sub_cancel_left, h]
theorem apA (P A B C : va_W) (h : A ++ B = C) : P ++ C = (P ++ A) ++ B := by rw [List.append_assoc, h]
theorem gl {P C : va_W} {i : Nat} {c : Nat × va_E} (h : P[i]? = some c) : (P ++ C)[i]? = some c := by
  rw [List.getElem?_append_left (List.getElem?_eq_some_iff.mp h).1]
  exact h
theorem sl {P P1 C : va_W} {i n : Nat} {c : Nat × va_E} (hl : P.length = n) (hi : i < n) (h : P.set i c = P1) : (P ++ C).set i c = P1 ++ C := by
  rw [List.set_append_left _ _ (by omega), h]
theorem lxx {P C : va_W} {p i q : Nat} (hp : P.length = p) (h : C.length = i) (e : p + i = q) : (P ++ C).length = q := by rw [List.length_append, hp, h, e]
theorem lxa {P C D : va_W} {p i q : Nat} (hp : (P ++ C).length = p) (h : D.length = i) (e : p + i = q) : (P ++ (C ++ D)).length = q := by rw [← List.append_assoc, List.length_append, hp, h, e]
theorem lx {P C : va_W} {p i : Nat} (hp : P.length = p) (h : C.length = i) : (P ++ C).length = p + i := by rw [List.length_append, hp, h]
theorem nwL_18 : NWC RL 18 RX9 14 := ⟨(gb1 25 (by decide +kernel) (by decide +kernel)), (gb1 26 (by decide +kernel) (by decide +kernel)), (gb1 1 (by decide +kernel) (by decide +kernel))⟩
theorem nwX9_9 : NWC RX9 9 RX8 2 := ⟨(gb1 33 (by decide +kernel) (by decide +kernel)), (gb1 34 (by decide +kernel) (by decide +kernel)), (gb1 2 (by decide +kernel) (by decide +kernel))⟩
theorem nwX9_16 : NWC RX9 16 RX2 7 := ⟨(gb1 49 (by decide +kernel) (by decide +kernel)), (gb1 50 (by decide +kernel) (by decide +kernel)), (gb1 3 (by decide +kernel) (by decide +kernel))⟩
theorem nwX9_25 : NWC RX9 25 RX1 19 := ⟨(gb1 82 (by decide +kernel) (by decide +kernel)), (gb1 83 (by decide +kernel) (by decide +kernel)), (gb1 4 (by decide +kernel) (by decide +kernel))⟩
theorem nwX9_32 : NWC RX9 32 RX6 2 := ⟨(gb1 188 (by decide +kernel) (by decide +kernel)), (gb1 189 (by decide +kernel) (by decide +kernel)), (gb1 5 (by decide +kernel) (by decide +kernel))⟩
theorem nwX6_9 : NWC RX6 9 RX1 19 := ⟨(gb1 194 (by decide +kernel) (by decide +kernel)), (gb1 83 (by decide +kernel) (by decide +kernel)), (gb1 4 (by decide +kernel) (by decide +kernel))⟩
theorem nwX9_41 : NWC RX9 41 RX3 4 := ⟨(gb1 204 (by decide +kernel) (by decide +kernel)), (gb1 205 (by decide +kernel) (by decide +kernel)), (gb1 6 (by decide +kernel) (by decide +kernel))⟩
theorem nwX9_50 : NWC RX9 50 RX0 6 := ⟨(gb1 223 (by decide +kernel) (by decide +kernel)), (gb1 224 (by decide +kernel) (by decide +kernel)), (gb1 7 (by decide +kernel) (by decide +kernel))⟩
theorem nwX9_57 : NWC RX9 57 RX4 2 := ⟨(gb2 10 (by decide +kernel) (by decide +kernel)), (gb2 11 (by decide +kernel) (by decide +kernel)), (gb1 8 (by decide +kernel) (by decide +kernel))⟩
theorem cl9_64 : .classLink RX9 64 RX5 ∈ bigw := (gb2 24 (by decide +kernel) (by decide +kernel))
theorem nwX9_64 : NWC RX9 64 RX5 13 := ⟨(gb2 24 (by decide +kernel) (by decide +kernel)), (gb2 26 (by decide +kernel) (by decide +kernel)), (gb1 9 (by decide +kernel) (by decide +kernel))⟩
theorem nwX5_47 : NWC RX5 47 RX7 4 := ⟨(gb2 31 (by decide +kernel) (by decide +kernel)), (gb2 32 (by decide +kernel) (by decide +kernel)), (gb1 10 (by decide +kernel) (by decide +kernel))⟩
theorem ac_byte : .arrayClass .byte ∈ bigw := (gb1 48 (by decide +kernel) (by decide +kernel))
theorem ac_int : .arrayClass .int ∈ bigw := (gb1 187 (by decide +kernel) (by decide +kernel))
theorem ac_long : .arrayClass .long ∈ bigw := (gb2 52 (by decide +kernel) (by decide +kernel))
def dfX0 : List Value := [.null, .null, .null, .int 0, .int 0, .int 0]
theorem dfX0_ok : ∀ j, j < 6 → defaultValue (tyX0 j) = vp_V dfX0 j := by decide +kernel
def dfX1 : List Value := [.int 0, .int 0, .int 0, .int 0, .null, .null, .null, .null, .null, .null, .null, .null, .null, .null, .null, .null, .null, .null, .null]
theorem dfX1_ok : ∀ j, j < 19 → defaultValue (tyX1 j) = vp_V dfX1 j := by decide +kernel
def dfX2 : List Value := [.null, .int 0, .int 0, .int 0, .int 0, .int 0, .int 0]
theorem dfX2_ok : ∀ j, j < 7 → defaultValue (tyX2 j) = vp_V dfX2 j := by decide +kernel
def dfX3 : List Value := [.null, .null, .int 0, .int 0]
theorem dfX3_ok : ∀ j, j < 4 → defaultValue (tyX3 j) = vp_V dfX3 j := by decide +kernel
def dfX4 : List Value := [.null, .int 0]
theorem dfX4_ok : ∀ j, j < 2 → defaultValue (tyX4 j) = vp_V dfX4 j := by decide +kernel
def dfX5 : List Value := [.null, .int 0, .int 0, .int 0, .null, .null, .null, .null, .null, .null, .null, .null, .null]
theorem dfX5_ok : ∀ j, j < 13 → defaultValue (tyX5 j) = vp_V dfX5 j := by decide +kernel
def dfX6 : List Value := [.null, .null]
theorem dfX6_ok : ∀ j, j < 2 → defaultValue (tyX6 j) = vp_V dfX6 j := by decide +kernel
def dfX7 : List Value := [.int 0, .int 0, .null, .null]
theorem dfX7_ok : ∀ j, j < 4 → defaultValue (tyX7 j) = vp_V dfX7 j := by decide +kernel
def dfX8 : List Value := [.null, .int 0]
theorem dfX8_ok : ∀ j, j < 2 → defaultValue (tyX8 j) = vp_V dfX8 j := by decide +kernel
def dfX9 : List Value := [.null, .null, .null, .null, .null, .null, .null, .null, .null, .null, .int 0, .int 0, .int 0, .int 0]
theorem dfX9_ok : ∀ j, j < 14 → defaultValue (tyX9 j) = vp_V dfX9 j := by decide +kernel
set_option maxRecDepth 100000 in
theorem mc_Obj : .code Lib.objectInit ⟨#[0xb1]⟩ 1 none ∈ bigw := (gb1 32 rfl (by decide +kernel))
theorem mn_Obj : .instanceMethod Lib.objectInit ∈ bigw := (gb1 31 (by decide +kernel) (by decide +kernel))
set_option maxRecDepth 100000 in
theorem mc_X0_init : .code yX0_init cX0_init 1 none ∈ bigw := (gb1 227 rfl (by decide +kernel))
theorem mi_X0_init : .initialized yX0_init.cls ∈ bigw := (gb1 7 (by decide +kernel) (by decide +kernel))
theorem mn_X0_init : .instanceMethod yX0_init ∈ bigw := (gb1 226 (by decide +kernel) (by decide +kernel))
set_option maxRecDepth 100000 in
theorem mc_X1_init : .code yX1_init cX1_init 1 none ∈ bigw := (gb1 86 rfl (by decide +kernel))
theorem mi_X1_init : .initialized yX1_init.cls ∈ bigw := (gb1 4 (by decide +kernel) (by decide +kernel))
theorem mn_X1_init : .instanceMethod yX1_init ∈ bigw := (gb1 85 (by decide +kernel) (by decide +kernel))
set_option maxRecDepth 100000 in
theorem mc_X2_init : .code yX2_init cX2_init 2 none ∈ bigw := (gb1 53 rfl (by decide +kernel))
theorem mi_X2_init : .initialized yX2_init.cls ∈ bigw := (gb1 3 (by decide +kernel) (by decide +kernel))
theorem mn_X2_init : .instanceMethod yX2_init ∈ bigw := (gb1 52 (by decide +kernel) (by decide +kernel))
set_option maxRecDepth 100000 in
theorem mc_X3_init : .code yX3_init cX3_init 3 none ∈ bigw := (gb1 208 rfl (by decide +kernel))
theorem mi_X3_init : .initialized yX3_init.cls ∈ bigw := (gb1 6 (by decide +kernel) (by decide +kernel))
theorem mn_X3_init : .instanceMethod yX3_init ∈ bigw := (gb1 207 (by decide +kernel) (by decide +kernel))
set_option maxRecDepth 100000 in
theorem mc_X4_init : .code yX4_init cX4_init 1 none ∈ bigw := (gb2 14 rfl (by decide +kernel))
theorem mi_X4_init : .initialized yX4_init.cls ∈ bigw := (gb1 8 (by decide +kernel) (by decide +kernel))
theorem mn_X4_init : .instanceMethod yX4_init ∈ bigw := (gb2 13 (by decide +kernel) (by decide +kernel))
set_option maxRecDepth 100000 in
theorem mc_X5_init : .code yX5_init cX5_init 2 none ∈ bigw := (gb2 29 rfl (by decide +kernel))
theorem mi_X5_init : .initialized yX5_init.cls ∈ bigw := (gb1 9 (by decide +kernel) (by decide +kernel))
theorem mn_X5_init : .instanceMethod yX5_init ∈ bigw := (gb2 28 (by decide +kernel) (by decide +kernel))
set_option maxRecDepth 100000 in
theorem mc_X6_init : .code yX6_init cX6_init 2 none ∈ bigw := (gb1 192 rfl (by decide +kernel))
theorem mi_X6_init : .initialized yX6_init.cls ∈ bigw := (gb1 5 (by decide +kernel) (by decide +kernel))
theorem mn_X6_init : .instanceMethod yX6_init ∈ bigw := (gb1 191 (by decide +kernel) (by decide +kernel))
set_option maxRecDepth 100000 in
theorem mc_X7_init : .code yX7_init cX7_init 1 none ∈ bigw := (gb2 35 rfl (by decide +kernel))
theorem mi_X7_init : .initialized yX7_init.cls ∈ bigw := (gb1 10 (by decide +kernel) (by decide +kernel))
theorem mn_X7_init : .instanceMethod yX7_init ∈ bigw := (gb2 34 (by decide +kernel) (by decide +kernel))
set_option maxRecDepth 100000 in
theorem mc_X8_init : .code yX8_init cX8_init 1 none ∈ bigw := (gb1 37 rfl (by decide +kernel))
theorem mi_X8_init : .initialized yX8_init.cls ∈ bigw := (gb1 2 (by decide +kernel) (by decide +kernel))
theorem mn_X8_init : .instanceMethod yX8_init ∈ bigw := (gb1 36 (by decide +kernel) (by decide +kernel))
set_option maxRecDepth 100000 in
theorem mc_X9_init : .code yX9_init cX9_init 2 none ∈ bigw := (gb1 29 rfl (by decide +kernel))
theorem mi_X9_init : .initialized yX9_init.cls ∈ bigw := (gb1 1 (by decide +kernel) (by decide +kernel))
theorem mn_X9_init : .instanceMethod yX9_init ∈ bigw := (gb1 28 (by decide +kernel) (by decide +kernel))
theorem liL_102 : LKI RL 102 yX9_init cX9_init 2 0 := ⟨⟨(gb1 27 (by decide +kernel) (by decide +kernel)), mc_X9_init, mi_X9_init, by decide, by decide +kernel⟩, rfl, mn_X9_init⟩
theorem liX9_3 : LKO RX9 3 := ⟨(gb1 30 (by decide +kernel) (by decide +kernel)), mn_Obj, mc_Obj⟩
theorem liX8_3 : LKO RX8 3 := ⟨(gb1 38 (by decide +kernel) (by decide +kernel)), mn_Obj, mc_Obj⟩
theorem liX9_18 : LKI RX9 18 yX2_init cX2_init 2 1 := ⟨⟨(gb1 51 (by decide +kernel) (by decide +kernel)), mc_X2_init, mi_X2_init, by decide, by decide +kernel⟩, rfl, mn_X2_init⟩
theorem liX2_3 : LKO RX2 3 := ⟨(gb1 54 (by decide +kernel) (by decide +kernel)), mn_Obj, mc_Obj⟩
theorem liX1_3 : LKO RX1 3 := ⟨(gb1 87 (by decide +kernel) (by decide +kernel)), mn_Obj, mc_Obj⟩
theorem liX9_34 : LKI RX9 34 yX6_init cX6_init 2 1 := ⟨⟨(gb1 190 (by decide +kernel) (by decide +kernel)), mc_X6_init, mi_X6_init, by decide, by decide +kernel⟩, rfl, mn_X6_init⟩
theorem liX6_3 : LKO RX6 3 := ⟨(gb1 193 (by decide +kernel) (by decide +kernel)), mn_Obj, mc_Obj⟩
theorem liX9_43 : LKI RX9 43 yX3_init cX3_init 3 2 := ⟨⟨(gb1 206 (by decide +kernel) (by decide +kernel)), mc_X3_init, mi_X3_init, by decide, by decide +kernel⟩, rfl, mn_X3_init⟩
theorem liX3_3 : LKO RX3 3 := ⟨(gb1 209 (by decide +kernel) (by decide +kernel)), mn_Obj, mc_Obj⟩
theorem liX0_3 : LKO RX0 3 := ⟨(gb1 228 (by decide +kernel) (by decide +kernel)), mn_Obj, mc_Obj⟩
theorem liX4_1 : LKO RX4 1 := ⟨(gb2 15 (by decide +kernel) (by decide +kernel)), mn_Obj, mc_Obj⟩
theorem liX9_70 : LKI RX9 70 yX5_init cX5_init 2 1 := ⟨⟨(gb2 27 (by decide +kernel) (by decide +kernel)), mc_X5_init, mi_X5_init, by decide, by decide +kernel⟩, rfl, mn_X5_init⟩
theorem liX5_3 : LKO RX5 3 := ⟨(gb2 30 (by decide +kernel) (by decide +kernel)), mn_Obj, mc_Obj⟩
theorem liX7_1 : LKO RX7 1 := ⟨(gb2 36 (by decide +kernel) (by decide +kernel)), mn_Obj, mc_Obj⟩
theorem liX9_11 : LKIN RX9 11 yX8_init "VacuumSequencer" cX8_init 1 0 := ⟨⟨(gt1 35 (by decide +kernel)), mc_X8_init, mi_X8_init, by decide, by decide +kernel⟩, rfl, mn_X8_init⟩
theorem liX9_27 : LKIN RX9 27 yX1_init "VacuumSequencer" cX1_init 1 0 := ⟨⟨(gt1 84 (by decide +kernel)), mc_X1_init, mi_X1_init, by decide, by decide +kernel⟩, rfl, mn_X1_init⟩
theorem liX6_11 : LKIN RX6 11 yX1_init "VacuumSequencer" cX1_init 1 0 := ⟨⟨(gt1 195 (by decide +kernel)), mc_X1_init, mi_X1_init, by decide, by decide +kernel⟩, rfl, mn_X1_init⟩
theorem liX9_52 : LKIN RX9 52 yX0_init "VacuumSequencer" cX0_init 1 0 := ⟨⟨(gt1 225 (by decide +kernel)), mc_X0_init, mi_X0_init, by decide, by decide +kernel⟩, rfl, mn_X0_init⟩
theorem liX9_59 : LKIN RX9 59 yX4_init "VacuumSequencer" cX4_init 1 0 := ⟨⟨(gt2 12 (by decide +kernel)), mc_X4_init, mi_X4_init, by decide, by decide +kernel⟩, rfl, mn_X4_init⟩
theorem liX5_49 : LKIN RX5 49 yX7_init "VacuumSequencer" cX7_init 1 0 := ⟨⟨(gt2 33 (by decide +kernel)), mc_X7_init, mi_X7_init, by decide, by decide +kernel⟩, rfl, mn_X7_init⟩
def L00 : LL := (0, 0, 0, 0, (fun _ => 0), (fun _ => 0), (fun _ => 0), (fun _ => 0), (fun _ => 0), (fun _ => 0), (fun _ => 0), (fun _ => 0), (fun _ => 0), (fun _ => 0), (fun _ => 0), (fun _ => 0), (fun _ => 0), (fun _ => 0), (fun _ => 0))
def S00 : SS := (0, 0, 0, (fun _ => 0), (upd (fun _ => 0) 8 1000000), (fun _ => 0), (fun _ => 0), (fun _ => 0), (fun _ => 0), (fun _ => 0), (fun _ => 0), 0, 0, (fun _ => 0), (fun _ => 0))
set_option maxRecDepth 100000 in
set_option maxHeartbeats 4000000 in
theorem kC_X7 {k : KT} {P : va_W} {j : Fin 12} (hp : P.length = 45 + 12 * j.val + 9) : CN k strs yX7_init cX7_init 1 (rmD 1 2 60) 2 60 [.ref (k.b + (45 + 12 * j.val + 9))] (P ++ [(k.b + (45 + 12 * j.val + 9), .inr (7, [.int 0, .int 0, .null, .null]))]) (P ++ [(k.b + (45 + 12 * j.val + 9), .inr (7, fTl k j S00)), (k.b + (45 + 12 * j.val + 10), .inl (k.c 0, (40, .inl ((fun _ => 0))))), (k.b + (45 + 12 * j.val + 11), .inl (k.c 1, (20, .inr (.inl ((fun _ => 0))))))]) := by
  refine CN.of (by decide) rfl (Nat.le_of_ble_eq_true rfl) ?_
  intro z X hQ
  show VN k z 0 0 (P ++ [(k.b + (45 + 12 * j.val + 9), .inr (7, [.int 0, .int 0, .null, .null]))]) 0 [some (.ref (k.b + (45 + 12 * j.val + 9)))] []
  refine n_aload_n X (x := k.b + (45 + 12 * j.val + 9)) dX7_init_0 rfl ?_
  refine n_objInit X liX7_1 rfl ⟨(Nat.le_of_ble_eq_true rfl), (Nat.le_of_ble_eq_true rfl)⟩ dX7_init_1 ?_
  refine n_aload_n X (x := k.b + (45 + 12 * j.val + 9)) dX7_init_4 rfl ?_
  refine n_iconst X (v := 0) dX7_init_5 rfl ?_
  refine n_putfield X (ws1 := P ++ [(k.b + (45 + 12 * j.val + 9), .inr (7, [.int 0, .int 0, .null, .null]))]) clsX7 flX7_7 (Nat.le_of_ble_eq_true rfl) rfl rfl rfl _ (gx (i := 0) hp rfl) (Nat.le_of_ble_eq_true rfl) (sx (i := 0) hp rfl) dX7_init_6 ?_
  refine n_aload_n X (x := k.b + (45 + 12 * j.val + 9)) dX7_init_9 rfl ?_
  refine n_iconst X (v := 0) dX7_init_10 rfl ?_
  refine n_putfield X (ws1 := P ++ [(k.b + (45 + 12 * j.val + 9), .inr (7, [.int 0, .int 0, .null, .null]))]) clsX7 flX7_13 (Nat.le_of_ble_eq_true rfl) rfl rfl rfl _ (gx (i := 0) hp rfl) (Nat.le_of_ble_eq_true rfl) (sx (i := 0) hp rfl) dX7_init_11 ?_
  refine n_aload_n X (x := k.b + (45 + 12 * j.val + 9)) dX7_init_14 rfl ?_
  refine n_bipush X (v := 40) dX7_init_15 rfl ?_
  refine n_newa X (atype := .int) (t0 := 0) (q := (45 + 12 * j.val + 9 + 1)) (N' := 40) (a0 := (40, .inl ((fun _ => 0)))) (ws1 := P ++ [(k.b + (45 + 12 * j.val + 9), .inr (7, [.int 0, .int 0, .null, .null])), (k.b + (45 + 12 * j.val + 9 + 1), .inl (k.c 0, (40, .inl ((fun _ => 0)))))]) rfl ac_int rfl (fun _ => rfl) (by decide) rfl (by decide) (lx hp rfl) (List.append_assoc _ _ _) (Nat.le_of_ble_eq_true rfl) (Nat.le_of_ble_eq_true rfl) dX7_init_17 ?_
  refine n_putfield X (ws1 := P ++ [(k.b + (45 + 12 * j.val + 9), .inr (7, [.int 0, .int 0, .ref (k.b + (45 + 12 * j.val + 9 + 1)), .null])), (k.b + (45 + 12 * j.val + 9 + 1), .inl (k.c 0, (40, .inl ((fun _ => 0)))))]) clsX7 flX7_16 (Nat.le_of_ble_eq_true rfl) rfl rfl rfl _ (gx (i := 0) hp rfl) (Nat.le_of_ble_eq_true rfl) (sx (i := 0) hp rfl) dX7_init_19 ?_
  refine n_aload_n X (x := k.b + (45 + 12 * j.val + 9)) dX7_init_22 rfl ?_
  refine n_bipush X (v := 20) dX7_init_23 rfl ?_
  refine n_newa X (atype := .long) (t0 := 1) (q := (45 + 12 * j.val + 9 + 2)) (N' := 20) (a0 := (20, .inr (.inl ((fun _ => 0))))) (ws1 := P ++ [(k.b + (45 + 12 * j.val + 9), .inr (7, [.int 0, .int 0, .ref (k.b + (45 + 12 * j.val + 9 + 1)), .null])), (k.b + (45 + 12 * j.val + 9 + 1), .inl (k.c 0, (40, .inl ((fun _ => 0))))), (k.b + (45 + 12 * j.val + 9 + 2), .inl (k.c 1, (20, .inr (.inl ((fun _ => 0))))))]) rfl ac_long rfl (fun _ => rfl) (by decide) rfl (by decide) (lx hp rfl) (List.append_assoc _ _ _) (Nat.le_of_ble_eq_true rfl) (Nat.le_of_ble_eq_true rfl) dX7_init_25 ?_
  refine n_putfield X (ws1 := P ++ [(k.b + (45 + 12 * j.val + 9), .inr (7, [.int 0, .int 0, .ref (k.b + (45 + 12 * j.val + 9 + 1)), .ref (k.b + (45 + 12 * j.val + 9 + 2))])), (k.b + (45 + 12 * j.val + 9 + 1), .inl (k.c 0, (40, .inl ((fun _ => 0))))), (k.b + (45 + 12 * j.val + 9 + 2), .inl (k.c 1, (20, .inr (.inl ((fun _ => 0))))))]) clsX7 flX7_20 (Nat.le_of_ble_eq_true rfl) rfl rfl rfl _ (gx (i := 0) hp rfl) (Nat.le_of_ble_eq_true rfl) (sx (i := 0) hp rfl) dX7_init_27 ?_
  exact n_return X hQ rfl (Nat.le_of_ble_eq_true rfl) (Nat.le_of_ble_eq_true rfl) dX7_init_30
set_option maxRecDepth 100000 in
set_option maxHeartbeats 4000000 in
theorem kC_X5 {k : KT} {P : va_W} {j : Fin 12} (hp : P.length = 45 + 12 * j.val) : CN k strs yX5_init cX5_init 2 (rmD 2 11 147) 11 147 [.ref (k.b + (45 + 12 * j.val)), .ref (k.b + (4))] (P ++ [(k.b + (45 + 12 * j.val), .inr (5, [.null, .int 0, .int 0, .int 0, .null, .null, .null, .null, .null, .null, .null, .null, .null]))]) (P ++ cSt k j S00) := by
  refine CN.of (by decide) rfl (Nat.le_of_ble_eq_true rfl) ?_
  intro z X hQ
  show VN k z 0 0 (P ++ [(k.b + (45 + 12 * j.val), .inr (5, [.null, .int 0, .int 0, .int 0, .null, .null, .null, .null, .null, .null, .null, .null, .null]))]) 0 [some (.ref (k.b + (45 + 12 * j.val))), some (.ref (k.b + (4)))] []
  refine n_aload_n X (x := k.b + (45 + 12 * j.val)) dX5_init_0 rfl ?_
  refine n_objInit X liX5_3 rfl ⟨(Nat.le_of_ble_eq_true rfl), (Nat.le_of_ble_eq_true rfl)⟩ dX5_init_1 ?_
  refine n_aload_n X (x := k.b + (45 + 12 * j.val)) dX5_init_4 rfl ?_
  refine n_iconst X (v := 0) dX5_init_5 rfl ?_
  refine n_putfield X (ws1 := P ++ [(k.b + (45 + 12 * j.val), .inr (5, [.null, .int 0, .int 0, .int 0, .null, .null, .null, .null, .null, .null, .null, .null, .null]))]) clsX5 flX5_9 (Nat.le_of_ble_eq_true rfl) rfl rfl rfl _ (gx (i := 0) hp rfl) (Nat.le_of_ble_eq_true rfl) (sx (i := 0) hp rfl) dX5_init_6 ?_
  refine n_aload_n X (x := k.b + (45 + 12 * j.val)) dX5_init_9 rfl ?_
  refine n_iconst X (v := 0) dX5_init_10 rfl ?_
  refine n_putfield X (ws1 := P ++ [(k.b + (45 + 12 * j.val), .inr (5, [.null, .int 0, .int 0, .int 0, .null, .null, .null, .null, .null, .null, .null, .null, .null]))]) clsX5 flX5_15 (Nat.le_of_ble_eq_true rfl) rfl rfl rfl _ (gx (i := 0) hp rfl) (Nat.le_of_ble_eq_true rfl) (sx (i := 0) hp rfl) dX5_init_11 ?_
  refine n_aload_n X (x := k.b + (45 + 12 * j.val)) dX5_init_14 rfl ?_
  refine n_iconst X (v := 0) dX5_init_15 rfl ?_
  refine n_putfield X (ws1 := P ++ [(k.b + (45 + 12 * j.val), .inr (5, [.null, .int 0, .int 0, .int 0, .null, .null, .null, .null, .null, .null, .null, .null, .null]))]) clsX5 flX5_18 (Nat.le_of_ble_eq_true rfl) rfl rfl rfl _ (gx (i := 0) hp rfl) (Nat.le_of_ble_eq_true rfl) (sx (i := 0) hp rfl) dX5_init_16 ?_
  refine n_aload_n X (x := k.b + (45 + 12 * j.val)) dX5_init_19 rfl ?_
  refine n_bipush X (v := 8) dX5_init_20 rfl ?_
  refine n_newa X (atype := .long) (t0 := 1) (q := (45 + 12 * j.val + 1)) (N' := 8) (a0 := (8, .inr (.inl ((fun _ => 0))))) (ws1 := P ++ [(k.b + (45 + 12 * j.val), .inr (5, [.null, .int 0, .int 0, .int 0, .null, .null, .null, .null, .null, .null, .null, .null, .null])), (k.b + (45 + 12 * j.val + 1), .inl (k.c 1, (8, .inr (.inl ((fun _ => 0))))))]) rfl ac_long rfl (fun _ => rfl) (by decide) rfl (by decide) (lx hp rfl) (List.append_assoc _ _ _) (Nat.le_of_ble_eq_true rfl) (Nat.le_of_ble_eq_true rfl) dX5_init_22 ?_
  refine n_putfield X (ws1 := P ++ [(k.b + (45 + 12 * j.val), .inr (5, [.null, .int 0, .int 0, .int 0, .ref (k.b + (45 + 12 * j.val + 1)), .null, .null, .null, .null, .null, .null, .null, .null])), (k.b + (45 + 12 * j.val + 1), .inl (k.c 1, (8, .inr (.inl ((fun _ => 0))))))]) clsX5 flX5_21 (Nat.le_of_ble_eq_true rfl) rfl rfl rfl _ (gx (i := 0) hp rfl) (Nat.le_of_ble_eq_true rfl) (sx (i := 0) hp rfl) dX5_init_24 ?_
  refine n_aload_n X (x := k.b + (45 + 12 * j.val)) dX5_init_27 rfl ?_
  refine n_bipush X (v := 9) dX5_init_28 rfl ?_
  refine n_newa X (atype := .int) (t0 := 0) (q := (45 + 12 * j.val + 2)) (N' := 9) (a0 := (9, .inl ((fun _ => 0)))) (ws1 := P ++ [(k.b + (45 + 12 * j.val), .inr (5, [.null, .int 0, .int 0, .int 0, .ref (k.b + (45 + 12 * j.val + 1)), .null, .null, .null, .null, .null, .null, .null, .null])), (k.b + (45 + 12 * j.val + 1), .inl (k.c 1, (8, .inr (.inl ((fun _ => 0)))))), (k.b + (45 + 12 * j.val + 2), .inl (k.c 0, (9, .inl ((fun _ => 0)))))]) rfl ac_int rfl (fun _ => rfl) (by decide) rfl (by decide) (lx hp rfl) (List.append_assoc _ _ _) (Nat.le_of_ble_eq_true rfl) (Nat.le_of_ble_eq_true rfl) dX5_init_30 ?_
  refine n_putfield X (ws1 := P ++ [(k.b + (45 + 12 * j.val), .inr (5, [.null, .int 0, .int 0, .int 0, .ref (k.b + (45 + 12 * j.val + 1)), .ref (k.b + (45 + 12 * j.val + 2)), .null, .null, .null, .null, .null, .null, .null])), (k.b + (45 + 12 * j.val + 1), .inl (k.c 1, (8, .inr (.inl ((fun _ => 0)))))), (k.b + (45 + 12 * j.val + 2), .inl (k.c 0, (9, .inl ((fun _ => 0)))))]) clsX5 flX5_25 (Nat.le_of_ble_eq_true rfl) rfl rfl rfl _ (gx (i := 0) hp rfl) (Nat.le_of_ble_eq_true rfl) (sx (i := 0) hp rfl) dX5_init_32 ?_
  refine n_aload_n X (x := k.b + (45 + 12 * j.val)) dX5_init_35 rfl ?_
  refine n_bipush X (v := 8) dX5_init_36 rfl ?_
  refine n_newa X (atype := .int) (t0 := 0) (q := (45 + 12 * j.val + 3)) (N' := 8) (a0 := (8, .inl ((fun _ => 0)))) (ws1 := P ++ [(k.b + (45 + 12 * j.val), .inr (5, [.null, .int 0, .int 0, .int 0, .ref (k.b + (45 + 12 * j.val + 1)), .ref (k.b + (45 + 12 * j.val + 2)), .null, .null, .null, .null, .null, .null, .null])), (k.b + (45 + 12 * j.val + 1), .inl (k.c 1, (8, .inr (.inl ((fun _ => 0)))))), (k.b + (45 + 12 * j.val + 2), .inl (k.c 0, (9, .inl ((fun _ => 0))))), (k.b + (45 + 12 * j.val + 3), .inl (k.c 0, (8, .inl ((fun _ => 0)))))]) rfl ac_int rfl (fun _ => rfl) (by decide) rfl (by decide) (lx hp rfl) (List.append_assoc _ _ _) (Nat.le_of_ble_eq_true rfl) (Nat.le_of_ble_eq_true rfl) dX5_init_38 ?_
  refine n_putfield X (ws1 := P ++ [(k.b + (45 + 12 * j.val), .inr (5, [.null, .int 0, .int 0, .int 0, .ref (k.b + (45 + 12 * j.val + 1)), .ref (k.b + (45 + 12 * j.val + 2)), .ref (k.b + (45 + 12 * j.val + 3)), .null, .null, .null, .null, .null, .null])), (k.b + (45 + 12 * j.val + 1), .inl (k.c 1, (8, .inr (.inl ((fun _ => 0)))))), (k.b + (45 + 12 * j.val + 2), .inl (k.c 0, (9, .inl ((fun _ => 0))))), (k.b + (45 + 12 * j.val + 3), .inl (k.c 0, (8, .inl ((fun _ => 0)))))]) clsX5 flX5_29 (Nat.le_of_ble_eq_true rfl) rfl rfl rfl _ (gx (i := 0) hp rfl) (Nat.le_of_ble_eq_true rfl) (sx (i := 0) hp rfl) dX5_init_40 ?_
  refine n_aload_n X (x := k.b + (45 + 12 * j.val)) dX5_init_43 rfl ?_
  refine n_bipush X (v := 8) dX5_init_44 rfl ?_
  refine n_newa X (atype := .int) (t0 := 0) (q := (45 + 12 * j.val + 4)) (N' := 8) (a0 := (8, .inl ((fun _ => 0)))) (ws1 := P ++ [(k.b + (45 + 12 * j.val), .inr (5, [.null, .int 0, .int 0, .int 0, .ref (k.b + (45 + 12 * j.val + 1)), .ref (k.b + (45 + 12 * j.val + 2)), .ref (k.b + (45 + 12 * j.val + 3)), .null, .null, .null, .null, .null, .null])), (k.b + (45 + 12 * j.val + 1), .inl (k.c 1, (8, .inr (.inl ((fun _ => 0)))))), (k.b + (45 + 12 * j.val + 2), .inl (k.c 0, (9, .inl ((fun _ => 0))))), (k.b + (45 + 12 * j.val + 3), .inl (k.c 0, (8, .inl ((fun _ => 0))))), (k.b + (45 + 12 * j.val + 4), .inl (k.c 0, (8, .inl ((fun _ => 0)))))]) rfl ac_int rfl (fun _ => rfl) (by decide) rfl (by decide) (lx hp rfl) (List.append_assoc _ _ _) (Nat.le_of_ble_eq_true rfl) (Nat.le_of_ble_eq_true rfl) dX5_init_46 ?_
  refine n_putfield X (ws1 := P ++ [(k.b + (45 + 12 * j.val), .inr (5, [.null, .int 0, .int 0, .int 0, .ref (k.b + (45 + 12 * j.val + 1)), .ref (k.b + (45 + 12 * j.val + 2)), .ref (k.b + (45 + 12 * j.val + 3)), .ref (k.b + (45 + 12 * j.val + 4)), .null, .null, .null, .null, .null])), (k.b + (45 + 12 * j.val + 1), .inl (k.c 1, (8, .inr (.inl ((fun _ => 0)))))), (k.b + (45 + 12 * j.val + 2), .inl (k.c 0, (9, .inl ((fun _ => 0))))), (k.b + (45 + 12 * j.val + 3), .inl (k.c 0, (8, .inl ((fun _ => 0))))), (k.b + (45 + 12 * j.val + 4), .inl (k.c 0, (8, .inl ((fun _ => 0)))))]) clsX5 flX5_32 (Nat.le_of_ble_eq_true rfl) rfl rfl rfl _ (gx (i := 0) hp rfl) (Nat.le_of_ble_eq_true rfl) (sx (i := 0) hp rfl) dX5_init_48 ?_
  refine n_aload_n X (x := k.b + (45 + 12 * j.val)) dX5_init_51 rfl ?_
  refine n_bipush X (v := 10) dX5_init_52 rfl ?_
  refine n_newa X (atype := .int) (t0 := 0) (q := (45 + 12 * j.val + 5)) (N' := 10) (a0 := (10, .inl ((fun _ => 0)))) (ws1 := P ++ [(k.b + (45 + 12 * j.val), .inr (5, [.null, .int 0, .int 0, .int 0, .ref (k.b + (45 + 12 * j.val + 1)), .ref (k.b + (45 + 12 * j.val + 2)), .ref (k.b + (45 + 12 * j.val + 3)), .ref (k.b + (45 + 12 * j.val + 4)), .null, .null, .null, .null, .null])), (k.b + (45 + 12 * j.val + 1), .inl (k.c 1, (8, .inr (.inl ((fun _ => 0)))))), (k.b + (45 + 12 * j.val + 2), .inl (k.c 0, (9, .inl ((fun _ => 0))))), (k.b + (45 + 12 * j.val + 3), .inl (k.c 0, (8, .inl ((fun _ => 0))))), (k.b + (45 + 12 * j.val + 4), .inl (k.c 0, (8, .inl ((fun _ => 0))))), (k.b + (45 + 12 * j.val + 5), .inl (k.c 0, (10, .inl ((fun _ => 0)))))]) rfl ac_int rfl (fun _ => rfl) (by decide) rfl (by decide) (lx hp rfl) (List.append_assoc _ _ _) (Nat.le_of_ble_eq_true rfl) (Nat.le_of_ble_eq_true rfl) dX5_init_54 ?_
  refine n_putfield X (ws1 := P ++ [(k.b + (45 + 12 * j.val), .inr (5, [.null, .int 0, .int 0, .int 0, .ref (k.b + (45 + 12 * j.val + 1)), .ref (k.b + (45 + 12 * j.val + 2)), .ref (k.b + (45 + 12 * j.val + 3)), .ref (k.b + (45 + 12 * j.val + 4)), .ref (k.b + (45 + 12 * j.val + 5)), .null, .null, .null, .null])), (k.b + (45 + 12 * j.val + 1), .inl (k.c 1, (8, .inr (.inl ((fun _ => 0)))))), (k.b + (45 + 12 * j.val + 2), .inl (k.c 0, (9, .inl ((fun _ => 0))))), (k.b + (45 + 12 * j.val + 3), .inl (k.c 0, (8, .inl ((fun _ => 0))))), (k.b + (45 + 12 * j.val + 4), .inl (k.c 0, (8, .inl ((fun _ => 0))))), (k.b + (45 + 12 * j.val + 5), .inl (k.c 0, (10, .inl ((fun _ => 0)))))]) clsX5 flX5_35 (Nat.le_of_ble_eq_true rfl) rfl rfl rfl _ (gx (i := 0) hp rfl) (Nat.le_of_ble_eq_true rfl) (sx (i := 0) hp rfl) dX5_init_56 ?_
  refine n_aload_n X (x := k.b + (45 + 12 * j.val)) dX5_init_59 rfl ?_
  refine n_bipush X (v := 10) dX5_init_60 rfl ?_
  refine n_newa X (atype := .int) (t0 := 0) (q := (45 + 12 * j.val + 6)) (N' := 10) (a0 := (10, .inl ((fun _ => 0)))) (ws1 := P ++ [(k.b + (45 + 12 * j.val), .inr (5, [.null, .int 0, .int 0, .int 0, .ref (k.b + (45 + 12 * j.val + 1)), .ref (k.b + (45 + 12 * j.val + 2)), .ref (k.b + (45 + 12 * j.val + 3)), .ref (k.b + (45 + 12 * j.val + 4)), .ref (k.b + (45 + 12 * j.val + 5)), .null, .null, .null, .null])), (k.b + (45 + 12 * j.val + 1), .inl (k.c 1, (8, .inr (.inl ((fun _ => 0)))))), (k.b + (45 + 12 * j.val + 2), .inl (k.c 0, (9, .inl ((fun _ => 0))))), (k.b + (45 + 12 * j.val + 3), .inl (k.c 0, (8, .inl ((fun _ => 0))))), (k.b + (45 + 12 * j.val + 4), .inl (k.c 0, (8, .inl ((fun _ => 0))))), (k.b + (45 + 12 * j.val + 5), .inl (k.c 0, (10, .inl ((fun _ => 0))))), (k.b + (45 + 12 * j.val + 6), .inl (k.c 0, (10, .inl ((fun _ => 0)))))]) rfl ac_int rfl (fun _ => rfl) (by decide) rfl (by decide) (lx hp rfl) (List.append_assoc _ _ _) (Nat.le_of_ble_eq_true rfl) (Nat.le_of_ble_eq_true rfl) dX5_init_62 ?_
  refine n_putfield X (ws1 := P ++ [(k.b + (45 + 12 * j.val), .inr (5, [.null, .int 0, .int 0, .int 0, .ref (k.b + (45 + 12 * j.val + 1)), .ref (k.b + (45 + 12 * j.val + 2)), .ref (k.b + (45 + 12 * j.val + 3)), .ref (k.b + (45 + 12 * j.val + 4)), .ref (k.b + (45 + 12 * j.val + 5)), .ref (k.b + (45 + 12 * j.val + 6)), .null, .null, .null])), (k.b + (45 + 12 * j.val + 1), .inl (k.c 1, (8, .inr (.inl ((fun _ => 0)))))), (k.b + (45 + 12 * j.val + 2), .inl (k.c 0, (9, .inl ((fun _ => 0))))), (k.b + (45 + 12 * j.val + 3), .inl (k.c 0, (8, .inl ((fun _ => 0))))), (k.b + (45 + 12 * j.val + 4), .inl (k.c 0, (8, .inl ((fun _ => 0))))), (k.b + (45 + 12 * j.val + 5), .inl (k.c 0, (10, .inl ((fun _ => 0))))), (k.b + (45 + 12 * j.val + 6), .inl (k.c 0, (10, .inl ((fun _ => 0)))))]) clsX5 flX5_38 (Nat.le_of_ble_eq_true rfl) rfl rfl rfl _ (gx (i := 0) hp rfl) (Nat.le_of_ble_eq_true rfl) (sx (i := 0) hp rfl) dX5_init_64 ?_
  refine n_aload_n X (x := k.b + (45 + 12 * j.val)) dX5_init_67 rfl ?_
  refine n_bipush X (v := 6) dX5_init_68 rfl ?_
  refine n_newa X (atype := .int) (t0 := 0) (q := (45 + 12 * j.val + 7)) (N' := 6) (a0 := (6, .inl ((fun _ => 0)))) (ws1 := P ++ [(k.b + (45 + 12 * j.val), .inr (5, [.null, .int 0, .int 0, .int 0, .ref (k.b + (45 + 12 * j.val + 1)), .ref (k.b + (45 + 12 * j.val + 2)), .ref (k.b + (45 + 12 * j.val + 3)), .ref (k.b + (45 + 12 * j.val + 4)), .ref (k.b + (45 + 12 * j.val + 5)), .ref (k.b + (45 + 12 * j.val + 6)), .null, .null, .null])), (k.b + (45 + 12 * j.val + 1), .inl (k.c 1, (8, .inr (.inl ((fun _ => 0)))))), (k.b + (45 + 12 * j.val + 2), .inl (k.c 0, (9, .inl ((fun _ => 0))))), (k.b + (45 + 12 * j.val + 3), .inl (k.c 0, (8, .inl ((fun _ => 0))))), (k.b + (45 + 12 * j.val + 4), .inl (k.c 0, (8, .inl ((fun _ => 0))))), (k.b + (45 + 12 * j.val + 5), .inl (k.c 0, (10, .inl ((fun _ => 0))))), (k.b + (45 + 12 * j.val + 6), .inl (k.c 0, (10, .inl ((fun _ => 0))))), (k.b + (45 + 12 * j.val + 7), .inl (k.c 0, (6, .inl ((fun _ => 0)))))]) rfl ac_int rfl (fun _ => rfl) (by decide) rfl (by decide) (lx hp rfl) (List.append_assoc _ _ _) (Nat.le_of_ble_eq_true rfl) (Nat.le_of_ble_eq_true rfl) dX5_init_70 ?_
  refine n_putfield X (ws1 := P ++ [(k.b + (45 + 12 * j.val), .inr (5, [.null, .int 0, .int 0, .int 0, .ref (k.b + (45 + 12 * j.val + 1)), .ref (k.b + (45 + 12 * j.val + 2)), .ref (k.b + (45 + 12 * j.val + 3)), .ref (k.b + (45 + 12 * j.val + 4)), .ref (k.b + (45 + 12 * j.val + 5)), .ref (k.b + (45 + 12 * j.val + 6)), .ref (k.b + (45 + 12 * j.val + 7)), .null, .null])), (k.b + (45 + 12 * j.val + 1), .inl (k.c 1, (8, .inr (.inl ((fun _ => 0)))))), (k.b + (45 + 12 * j.val + 2), .inl (k.c 0, (9, .inl ((fun _ => 0))))), (k.b + (45 + 12 * j.val + 3), .inl (k.c 0, (8, .inl ((fun _ => 0))))), (k.b + (45 + 12 * j.val + 4), .inl (k.c 0, (8, .inl ((fun _ => 0))))), (k.b + (45 + 12 * j.val + 5), .inl (k.c 0, (10, .inl ((fun _ => 0))))), (k.b + (45 + 12 * j.val + 6), .inl (k.c 0, (10, .inl ((fun _ => 0))))), (k.b + (45 + 12 * j.val + 7), .inl (k.c 0, (6, .inl ((fun _ => 0)))))]) clsX5 flX5_41 (Nat.le_of_ble_eq_true rfl) rfl rfl rfl _ (gx (i := 0) hp rfl) (Nat.le_of_ble_eq_true rfl) (sx (i := 0) hp rfl) dX5_init_72 ?_
  refine n_aload_n X (x := k.b + (45 + 12 * j.val)) dX5_init_75 rfl ?_
  refine n_bipush X (v := 24) dX5_init_76 rfl ?_
  refine n_newa X (atype := .int) (t0 := 0) (q := (45 + 12 * j.val + 8)) (N' := 24) (a0 := (24, .inl ((fun _ => 0)))) (ws1 := P ++ [(k.b + (45 + 12 * j.val), .inr (5, [.null, .int 0, .int 0, .int 0, .ref (k.b + (45 + 12 * j.val + 1)), .ref (k.b + (45 + 12 * j.val + 2)), .ref (k.b + (45 + 12 * j.val + 3)), .ref (k.b + (45 + 12 * j.val + 4)), .ref (k.b + (45 + 12 * j.val + 5)), .ref (k.b + (45 + 12 * j.val + 6)), .ref (k.b + (45 + 12 * j.val + 7)), .null, .null])), (k.b + (45 + 12 * j.val + 1), .inl (k.c 1, (8, .inr (.inl ((fun _ => 0)))))), (k.b + (45 + 12 * j.val + 2), .inl (k.c 0, (9, .inl ((fun _ => 0))))), (k.b + (45 + 12 * j.val + 3), .inl (k.c 0, (8, .inl ((fun _ => 0))))), (k.b + (45 + 12 * j.val + 4), .inl (k.c 0, (8, .inl ((fun _ => 0))))), (k.b + (45 + 12 * j.val + 5), .inl (k.c 0, (10, .inl ((fun _ => 0))))), (k.b + (45 + 12 * j.val + 6), .inl (k.c 0, (10, .inl ((fun _ => 0))))), (k.b + (45 + 12 * j.val + 7), .inl (k.c 0, (6, .inl ((fun _ => 0))))), (k.b + (45 + 12 * j.val + 8), .inl (k.c 0, (24, .inl ((fun _ => 0)))))]) rfl ac_int rfl (fun _ => rfl) (by decide) rfl (by decide) (lx hp rfl) (List.append_assoc _ _ _) (Nat.le_of_ble_eq_true rfl) (Nat.le_of_ble_eq_true rfl) dX5_init_78 ?_
  refine n_putfield X (ws1 := P ++ [(k.b + (45 + 12 * j.val), .inr (5, [.null, .int 0, .int 0, .int 0, .ref (k.b + (45 + 12 * j.val + 1)), .ref (k.b + (45 + 12 * j.val + 2)), .ref (k.b + (45 + 12 * j.val + 3)), .ref (k.b + (45 + 12 * j.val + 4)), .ref (k.b + (45 + 12 * j.val + 5)), .ref (k.b + (45 + 12 * j.val + 6)), .ref (k.b + (45 + 12 * j.val + 7)), .ref (k.b + (45 + 12 * j.val + 8)), .null])), (k.b + (45 + 12 * j.val + 1), .inl (k.c 1, (8, .inr (.inl ((fun _ => 0)))))), (k.b + (45 + 12 * j.val + 2), .inl (k.c 0, (9, .inl ((fun _ => 0))))), (k.b + (45 + 12 * j.val + 3), .inl (k.c 0, (8, .inl ((fun _ => 0))))), (k.b + (45 + 12 * j.val + 4), .inl (k.c 0, (8, .inl ((fun _ => 0))))), (k.b + (45 + 12 * j.val + 5), .inl (k.c 0, (10, .inl ((fun _ => 0))))), (k.b + (45 + 12 * j.val + 6), .inl (k.c 0, (10, .inl ((fun _ => 0))))), (k.b + (45 + 12 * j.val + 7), .inl (k.c 0, (6, .inl ((fun _ => 0))))), (k.b + (45 + 12 * j.val + 8), .inl (k.c 0, (24, .inl ((fun _ => 0)))))]) clsX5 flX5_44 (Nat.le_of_ble_eq_true rfl) rfl rfl rfl _ (gx (i := 0) hp rfl) (Nat.le_of_ble_eq_true rfl) (sx (i := 0) hp rfl) dX5_init_80 ?_
  refine n_aload_n X (x := k.b + (45 + 12 * j.val)) dX5_init_83 rfl ?_
  refine n_new X (q := (45 + 12 * j.val + 9)) (fs := dfX7) (ws1 := P ++ [(k.b + (45 + 12 * j.val), .inr (5, [.null, .int 0, .int 0, .int 0, .ref (k.b + (45 + 12 * j.val + 1)), .ref (k.b + (45 + 12 * j.val + 2)), .ref (k.b + (45 + 12 * j.val + 3)), .ref (k.b + (45 + 12 * j.val + 4)), .ref (k.b + (45 + 12 * j.val + 5)), .ref (k.b + (45 + 12 * j.val + 6)), .ref (k.b + (45 + 12 * j.val + 7)), .ref (k.b + (45 + 12 * j.val + 8)), .null])), (k.b + (45 + 12 * j.val + 1), .inl (k.c 1, (8, .inr (.inl ((fun _ => 0)))))), (k.b + (45 + 12 * j.val + 2), .inl (k.c 0, (9, .inl ((fun _ => 0))))), (k.b + (45 + 12 * j.val + 3), .inl (k.c 0, (8, .inl ((fun _ => 0))))), (k.b + (45 + 12 * j.val + 4), .inl (k.c 0, (8, .inl ((fun _ => 0))))), (k.b + (45 + 12 * j.val + 5), .inl (k.c 0, (10, .inl ((fun _ => 0))))), (k.b + (45 + 12 * j.val + 6), .inl (k.c 0, (10, .inl ((fun _ => 0))))), (k.b + (45 + 12 * j.val + 7), .inl (k.c 0, (6, .inl ((fun _ => 0))))), (k.b + (45 + 12 * j.val + 8), .inl (k.c 0, (24, .inl ((fun _ => 0))))), (k.b + (45 + 12 * j.val + 9), .inr (7, [.int 0, .int 0, .null, .null]))]) clsX7 nwX5_47 dfX7_ok (lx hp rfl) (List.append_assoc _ _ _) (Nat.le_of_ble_eq_true rfl) (Nat.le_of_ble_eq_true rfl) dX5_init_84 ?_
  refine n_dup X dX5_init_87 rfl ?_
  refine VN.foc (ws' := (P ++ [(k.b + (45 + 12 * j.val), .inr (5, [.null, .int 0, .int 0, .int 0, .ref (k.b + (45 + 12 * j.val + 1)), .ref (k.b + (45 + 12 * j.val + 2)), .ref (k.b + (45 + 12 * j.val + 3)), .ref (k.b + (45 + 12 * j.val + 4)), .ref (k.b + (45 + 12 * j.val + 5)), .ref (k.b + (45 + 12 * j.val + 6)), .ref (k.b + (45 + 12 * j.val + 7)), .ref (k.b + (45 + 12 * j.val + 8)), .null])), (k.b + (45 + 12 * j.val + 1), .inl (k.c 1, (8, .inr (.inl ((fun _ => 0)))))), (k.b + (45 + 12 * j.val + 2), .inl (k.c 0, (9, .inl ((fun _ => 0))))), (k.b + (45 + 12 * j.val + 3), .inl (k.c 0, (8, .inl ((fun _ => 0))))), (k.b + (45 + 12 * j.val + 4), .inl (k.c 0, (8, .inl ((fun _ => 0))))), (k.b + (45 + 12 * j.val + 5), .inl (k.c 0, (10, .inl ((fun _ => 0))))), (k.b + (45 + 12 * j.val + 6), .inl (k.c 0, (10, .inl ((fun _ => 0))))), (k.b + (45 + 12 * j.val + 7), .inl (k.c 0, (6, .inl ((fun _ => 0))))), (k.b + (45 + 12 * j.val + 8), .inl (k.c 0, (24, .inl ((fun _ => 0)))))]) ++ [(k.b + (45 + 12 * j.val + 9), .inr (7, [.int 0, .int 0, .null, .null]))]) (apA _ _ _ _ rfl) ?_
  refine n_callIN X [] [.ref (k.b + (45 + 12 * j.val + 9)), .ref (k.b + (45 + 12 * j.val))] (kC_X7 (j := j) (P := (P ++ [(k.b + (45 + 12 * j.val), .inr (5, [.null, .int 0, .int 0, .int 0, .ref (k.b + (45 + 12 * j.val + 1)), .ref (k.b + (45 + 12 * j.val + 2)), .ref (k.b + (45 + 12 * j.val + 3)), .ref (k.b + (45 + 12 * j.val + 4)), .ref (k.b + (45 + 12 * j.val + 5)), .ref (k.b + (45 + 12 * j.val + 6)), .ref (k.b + (45 + 12 * j.val + 7)), .ref (k.b + (45 + 12 * j.val + 8)), .null])), (k.b + (45 + 12 * j.val + 1), .inl (k.c 1, (8, .inr (.inl ((fun _ => 0)))))), (k.b + (45 + 12 * j.val + 2), .inl (k.c 0, (9, .inl ((fun _ => 0))))), (k.b + (45 + 12 * j.val + 3), .inl (k.c 0, (8, .inl ((fun _ => 0))))), (k.b + (45 + 12 * j.val + 4), .inl (k.c 0, (8, .inl ((fun _ => 0))))), (k.b + (45 + 12 * j.val + 5), .inl (k.c 0, (10, .inl ((fun _ => 0))))), (k.b + (45 + 12 * j.val + 6), .inl (k.c 0, (10, .inl ((fun _ => 0))))), (k.b + (45 + 12 * j.val + 7), .inl (k.c 0, (6, .inl ((fun _ => 0))))), (k.b + (45 + 12 * j.val + 8), .inl (k.c 0, (24, .inl ((fun _ => 0)))))])) (lxx (p := 45 + 12 * j.val) (i := 9) hp rfl rfl)) liX5_49 (rle (by decide) (Nat.le_of_ble_eq_true rfl)) rfl rfl (Nat.le_of_ble_eq_true rfl) (Nat.le_of_ble_eq_true rfl) rfl rfl (Nat.le_of_ble_eq_true rfl) rfl dX5_init_88 ?_
  refine VN.foc (ws' := P ++ [(k.b + (45 + 12 * j.val), .inr (5, [.null, .int 0, .int 0, .int 0, .ref (k.b + (45 + 12 * j.val + 1)), .ref (k.b + (45 + 12 * j.val + 2)), .ref (k.b + (45 + 12 * j.val + 3)), .ref (k.b + (45 + 12 * j.val + 4)), .ref (k.b + (45 + 12 * j.val + 5)), .ref (k.b + (45 + 12 * j.val + 6)), .ref (k.b + (45 + 12 * j.val + 7)), .ref (k.b + (45 + 12 * j.val + 8)), .null])), (k.b + (45 + 12 * j.val + 1), .inl (k.c 1, (8, .inr (.inl ((fun _ => 0)))))), (k.b + (45 + 12 * j.val + 2), .inl (k.c 0, (9, .inl ((fun _ => 0))))), (k.b + (45 + 12 * j.val + 3), .inl (k.c 0, (8, .inl ((fun _ => 0))))), (k.b + (45 + 12 * j.val + 4), .inl (k.c 0, (8, .inl ((fun _ => 0))))), (k.b + (45 + 12 * j.val + 5), .inl (k.c 0, (10, .inl ((fun _ => 0))))), (k.b + (45 + 12 * j.val + 6), .inl (k.c 0, (10, .inl ((fun _ => 0))))), (k.b + (45 + 12 * j.val + 7), .inl (k.c 0, (6, .inl ((fun _ => 0))))), (k.b + (45 + 12 * j.val + 8), .inl (k.c 0, (24, .inl ((fun _ => 0))))), (k.b + (45 + 12 * j.val + 9), .inr (7, [.int 0, .int 0, .ref (k.b + (45 + 12 * j.val + 10)), .ref (k.b + (45 + 12 * j.val + 11))])), (k.b + (45 + 12 * j.val + 10), .inl (k.c 0, (40, .inl ((fun _ => 0))))), (k.b + (45 + 12 * j.val + 11), .inl (k.c 1, (20, .inr (.inl ((fun _ => 0))))))]) (apA _ _ _ _ rfl).symm ?_
  refine n_putfield X (ws1 := P ++ [(k.b + (45 + 12 * j.val), .inr (5, [.null, .int 0, .int 0, .int 0, .ref (k.b + (45 + 12 * j.val + 1)), .ref (k.b + (45 + 12 * j.val + 2)), .ref (k.b + (45 + 12 * j.val + 3)), .ref (k.b + (45 + 12 * j.val + 4)), .ref (k.b + (45 + 12 * j.val + 5)), .ref (k.b + (45 + 12 * j.val + 6)), .ref (k.b + (45 + 12 * j.val + 7)), .ref (k.b + (45 + 12 * j.val + 8)), .ref (k.b + (45 + 12 * j.val + 9))])), (k.b + (45 + 12 * j.val + 1), .inl (k.c 1, (8, .inr (.inl ((fun _ => 0)))))), (k.b + (45 + 12 * j.val + 2), .inl (k.c 0, (9, .inl ((fun _ => 0))))), (k.b + (45 + 12 * j.val + 3), .inl (k.c 0, (8, .inl ((fun _ => 0))))), (k.b + (45 + 12 * j.val + 4), .inl (k.c 0, (8, .inl ((fun _ => 0))))), (k.b + (45 + 12 * j.val + 5), .inl (k.c 0, (10, .inl ((fun _ => 0))))), (k.b + (45 + 12 * j.val + 6), .inl (k.c 0, (10, .inl ((fun _ => 0))))), (k.b + (45 + 12 * j.val + 7), .inl (k.c 0, (6, .inl ((fun _ => 0))))), (k.b + (45 + 12 * j.val + 8), .inl (k.c 0, (24, .inl ((fun _ => 0))))), (k.b + (45 + 12 * j.val + 9), .inr (7, [.int 0, .int 0, .ref (k.b + (45 + 12 * j.val + 10)), .ref (k.b + (45 + 12 * j.val + 11))])), (k.b + (45 + 12 * j.val + 10), .inl (k.c 0, (40, .inl ((fun _ => 0))))), (k.b + (45 + 12 * j.val + 11), .inl (k.c 1, (20, .inr (.inl ((fun _ => 0))))))]) clsX5 flX5_50 (Nat.le_of_ble_eq_true rfl) rfl rfl rfl _ (gx (i := 0) hp rfl) (Nat.le_of_ble_eq_true rfl) (sx (i := 0) hp rfl) dX5_init_91 ?_
  refine n_aload_n X (x := k.b + (45 + 12 * j.val)) dX5_init_94 rfl ?_
  refine n_aload_n X (x := k.b + (4)) dX5_init_95 rfl ?_
  refine n_putfield X (ws1 := P ++ [(k.b + (45 + 12 * j.val), .inr (5, [.ref (k.b + (4)), .int 0, .int 0, .int 0, .ref (k.b + (45 + 12 * j.val + 1)), .ref (k.b + (45 + 12 * j.val + 2)), .ref (k.b + (45 + 12 * j.val + 3)), .ref (k.b + (45 + 12 * j.val + 4)), .ref (k.b + (45 + 12 * j.val + 5)), .ref (k.b + (45 + 12 * j.val + 6)), .ref (k.b + (45 + 12 * j.val + 7)), .ref (k.b + (45 + 12 * j.val + 8)), .ref (k.b + (45 + 12 * j.val + 9))])), (k.b + (45 + 12 * j.val + 1), .inl (k.c 1, (8, .inr (.inl ((fun _ => 0)))))), (k.b + (45 + 12 * j.val + 2), .inl (k.c 0, (9, .inl ((fun _ => 0))))), (k.b + (45 + 12 * j.val + 3), .inl (k.c 0, (8, .inl ((fun _ => 0))))), (k.b + (45 + 12 * j.val + 4), .inl (k.c 0, (8, .inl ((fun _ => 0))))), (k.b + (45 + 12 * j.val + 5), .inl (k.c 0, (10, .inl ((fun _ => 0))))), (k.b + (45 + 12 * j.val + 6), .inl (k.c 0, (10, .inl ((fun _ => 0))))), (k.b + (45 + 12 * j.val + 7), .inl (k.c 0, (6, .inl ((fun _ => 0))))), (k.b + (45 + 12 * j.val + 8), .inl (k.c 0, (24, .inl ((fun _ => 0))))), (k.b + (45 + 12 * j.val + 9), .inr (7, [.int 0, .int 0, .ref (k.b + (45 + 12 * j.val + 10)), .ref (k.b + (45 + 12 * j.val + 11))])), (k.b + (45 + 12 * j.val + 10), .inl (k.c 0, (40, .inl ((fun _ => 0))))), (k.b + (45 + 12 * j.val + 11), .inl (k.c 1, (20, .inr (.inl ((fun _ => 0))))))]) clsX5 flX5_54 (Nat.le_of_ble_eq_true rfl) rfl rfl rfl _ (gx (i := 0) hp rfl) (Nat.le_of_ble_eq_true rfl) (sx (i := 0) hp rfl) dX5_init_96 ?_
  refine n_aload_n X (x := k.b + (45 + 12 * j.val)) dX5_init_99 rfl ?_
  refine n_getfield X (v := .ref (k.b + (45 + 12 * j.val + 2))) clsX5 flX5_25 (Nat.le_of_ble_eq_true rfl) _ (gx (i := 0) hp rfl) rfl dX5_init_100 ?_
  refine n_bipush X (v := 8) dX5_init_103 rfl ?_
  refine n_ldc X (v := 1000000) coX5_58 dX5_init_105 ?_
  refine n_iastore X (ws1 := P ++ [(k.b + (45 + 12 * j.val), .inr (5, [.ref (k.b + (4)), .int 0, .int 0, .int 0, .ref (k.b + (45 + 12 * j.val + 1)), .ref (k.b + (45 + 12 * j.val + 2)), .ref (k.b + (45 + 12 * j.val + 3)), .ref (k.b + (45 + 12 * j.val + 4)), .ref (k.b + (45 + 12 * j.val + 5)), .ref (k.b + (45 + 12 * j.val + 6)), .ref (k.b + (45 + 12 * j.val + 7)), .ref (k.b + (45 + 12 * j.val + 8)), .ref (k.b + (45 + 12 * j.val + 9))])), (k.b + (45 + 12 * j.val + 1), .inl (k.c 1, (8, .inr (.inl ((fun _ => 0)))))), (k.b + (45 + 12 * j.val + 2), .inl (k.c 0, (9, .inl (upd (fun _ => 0) (ix 8) 1000000)))), (k.b + (45 + 12 * j.val + 3), .inl (k.c 0, (8, .inl ((fun _ => 0))))), (k.b + (45 + 12 * j.val + 4), .inl (k.c 0, (8, .inl ((fun _ => 0))))), (k.b + (45 + 12 * j.val + 5), .inl (k.c 0, (10, .inl ((fun _ => 0))))), (k.b + (45 + 12 * j.val + 6), .inl (k.c 0, (10, .inl ((fun _ => 0))))), (k.b + (45 + 12 * j.val + 7), .inl (k.c 0, (6, .inl ((fun _ => 0))))), (k.b + (45 + 12 * j.val + 8), .inl (k.c 0, (24, .inl ((fun _ => 0))))), (k.b + (45 + 12 * j.val + 9), .inr (7, [.int 0, .int 0, .ref (k.b + (45 + 12 * j.val + 10)), .ref (k.b + (45 + 12 * j.val + 11))])), (k.b + (45 + 12 * j.val + 10), .inl (k.c 0, (40, .inl ((fun _ => 0))))), (k.b + (45 + 12 * j.val + 11), .inl (k.c 1, (20, .inr (.inl ((fun _ => 0))))))]) _ (gx (i := 2) hp rfl) (by decide) (sx (i := 2) hp rfl) dX5_init_107 ?_
  exact n_return X hQ rfl (Nat.le_of_ble_eq_true rfl) (Nat.le_of_ble_eq_true rfl) dX5_init_108
set_option maxRecDepth 100000 in
set_option maxHeartbeats 4000000 in
theorem kC_X1 {k : KT} {P : va_W} {i : Fin 2} (hp : P.length = 4 + 17 * i.val) : CN k strs yX1_init cX1_init 1 (rmD 1 15 148) 15 148 [.ref (k.b + (4 + 17 * i.val))] (P ++ [(k.b + (4 + 17 * i.val), .inr (1, [.int 0, .int 0, .int 0, .int 0, .null, .null, .null, .null, .null, .null, .null, .null, .null, .null, .null, .null, .null, .null, .null]))]) (P ++ cLay k i L00) := by
  refine CN.of (by decide) rfl (Nat.le_of_ble_eq_true rfl) ?_
  intro z X hQ
  show VN k z 0 0 (P ++ [(k.b + (4 + 17 * i.val), .inr (1, [.int 0, .int 0, .int 0, .int 0, .null, .null, .null, .null, .null, .null, .null, .null, .null, .null, .null, .null, .null, .null, .null]))]) 0 [some (.ref (k.b + (4 + 17 * i.val)))] []
  refine n_aload_n X (x := k.b + (4 + 17 * i.val)) dX1_init_0 rfl ?_
  refine n_objInit X liX1_3 rfl ⟨(Nat.le_of_ble_eq_true rfl), (Nat.le_of_ble_eq_true rfl)⟩ dX1_init_1 ?_
  refine n_aload_n X (x := k.b + (4 + 17 * i.val)) dX1_init_4 rfl ?_
  refine n_iconst X (v := 0) dX1_init_5 rfl ?_
  refine n_putfield X (ws1 := P ++ [(k.b + (4 + 17 * i.val), .inr (1, [.int 0, .int 0, .int 0, .int 0, .null, .null, .null, .null, .null, .null, .null, .null, .null, .null, .null, .null, .null, .null, .null]))]) clsX1 flX1_9 (Nat.le_of_ble_eq_true rfl) rfl rfl rfl _ (gx (i := 0) hp rfl) (Nat.le_of_ble_eq_true rfl) (sx (i := 0) hp rfl) dX1_init_6 ?_
  refine n_aload_n X (x := k.b + (4 + 17 * i.val)) dX1_init_9 rfl ?_
  refine n_iconst X (v := 0) dX1_init_10 rfl ?_
  refine n_putfield X (ws1 := P ++ [(k.b + (4 + 17 * i.val), .inr (1, [.int 0, .int 0, .int 0, .int 0, .null, .null, .null, .null, .null, .null, .null, .null, .null, .null, .null, .null, .null, .null, .null]))]) clsX1 flX1_15 (Nat.le_of_ble_eq_true rfl) rfl rfl rfl _ (gx (i := 0) hp rfl) (Nat.le_of_ble_eq_true rfl) (sx (i := 0) hp rfl) dX1_init_11 ?_
  refine n_aload_n X (x := k.b + (4 + 17 * i.val)) dX1_init_14 rfl ?_
  refine n_iconst X (v := 0) dX1_init_15 rfl ?_
  refine n_putfield X (ws1 := P ++ [(k.b + (4 + 17 * i.val), .inr (1, [.int 0, .int 0, .int 0, .int 0, .null, .null, .null, .null, .null, .null, .null, .null, .null, .null, .null, .null, .null, .null, .null]))]) clsX1 flX1_18 (Nat.le_of_ble_eq_true rfl) rfl rfl rfl _ (gx (i := 0) hp rfl) (Nat.le_of_ble_eq_true rfl) (sx (i := 0) hp rfl) dX1_init_16 ?_
  refine n_aload_n X (x := k.b + (4 + 17 * i.val)) dX1_init_19 rfl ?_
  refine n_iconst X (v := 0) dX1_init_20 rfl ?_
  refine n_putfield X (ws1 := P ++ [(k.b + (4 + 17 * i.val), .inr (1, [.int 0, .int 0, .int 0, .int 0, .null, .null, .null, .null, .null, .null, .null, .null, .null, .null, .null, .null, .null, .null, .null]))]) clsX1 flX1_21 (Nat.le_of_ble_eq_true rfl) rfl rfl rfl _ (gx (i := 0) hp rfl) (Nat.le_of_ble_eq_true rfl) (sx (i := 0) hp rfl) dX1_init_21 ?_
  refine n_aload_n X (x := k.b + (4 + 17 * i.val)) dX1_init_24 rfl ?_
  refine n_bipush X (v := 8) dX1_init_25 rfl ?_
  refine n_newa X (atype := .int) (t0 := 0) (q := (4 + 17 * i.val + 1)) (N' := 8) (a0 := (8, .inl ((fun _ => 0)))) (ws1 := P ++ [(k.b + (4 + 17 * i.val), .inr (1, [.int 0, .int 0, .int 0, .int 0, .null, .null, .null, .null, .null, .null, .null, .null, .null, .null, .null, .null, .null, .null, .null])), (k.b + (4 + 17 * i.val + 1), .inl (k.c 0, (8, .inl ((fun _ => 0)))))]) rfl ac_int rfl (fun _ => rfl) (by decide) rfl (by decide) (lx hp rfl) (List.append_assoc _ _ _) (Nat.le_of_ble_eq_true rfl) (Nat.le_of_ble_eq_true rfl) dX1_init_27 ?_
  refine n_putfield X (ws1 := P ++ [(k.b + (4 + 17 * i.val), .inr (1, [.int 0, .int 0, .int 0, .int 0, .ref (k.b + (4 + 17 * i.val + 1)), .null, .null, .null, .null, .null, .null, .null, .null, .null, .null, .null, .null, .null, .null])), (k.b + (4 + 17 * i.val + 1), .inl (k.c 0, (8, .inl ((fun _ => 0)))))]) clsX1 flX1_24 (Nat.le_of_ble_eq_true rfl) rfl rfl rfl _ (gx (i := 0) hp rfl) (Nat.le_of_ble_eq_true rfl) (sx (i := 0) hp rfl) dX1_init_29 ?_
  refine n_aload_n X (x := k.b + (4 + 17 * i.val)) dX1_init_32 rfl ?_
  refine n_bipush X (v := 8) dX1_init_33 rfl ?_
  refine n_newa X (atype := .int) (t0 := 0) (q := (4 + 17 * i.val + 2)) (N' := 8) (a0 := (8, .inl ((fun _ => 0)))) (ws1 := P ++ [(k.b + (4 + 17 * i.val), .inr (1, [.int 0, .int 0, .int 0, .int 0, .ref (k.b + (4 + 17 * i.val + 1)), .null, .null, .null, .null, .null, .null, .null, .null, .null, .null, .null, .null, .null, .null])), (k.b + (4 + 17 * i.val + 1), .inl (k.c 0, (8, .inl ((fun _ => 0))))), (k.b + (4 + 17 * i.val + 2), .inl (k.c 0, (8, .inl ((fun _ => 0)))))]) rfl ac_int rfl (fun _ => rfl) (by decide) rfl (by decide) (lx hp rfl) (List.append_assoc _ _ _) (Nat.le_of_ble_eq_true rfl) (Nat.le_of_ble_eq_true rfl) dX1_init_35 ?_
  refine n_putfield X (ws1 := P ++ [(k.b + (4 + 17 * i.val), .inr (1, [.int 0, .int 0, .int 0, .int 0, .ref (k.b + (4 + 17 * i.val + 1)), .ref (k.b + (4 + 17 * i.val + 2)), .null, .null, .null, .null, .null, .null, .null, .null, .null, .null, .null, .null, .null])), (k.b + (4 + 17 * i.val + 1), .inl (k.c 0, (8, .inl ((fun _ => 0))))), (k.b + (4 + 17 * i.val + 2), .inl (k.c 0, (8, .inl ((fun _ => 0)))))]) clsX1 flX1_28 (Nat.le_of_ble_eq_true rfl) rfl rfl rfl _ (gx (i := 0) hp rfl) (Nat.le_of_ble_eq_true rfl) (sx (i := 0) hp rfl) dX1_init_37 ?_
  refine n_aload_n X (x := k.b + (4 + 17 * i.val)) dX1_init_40 rfl ?_
  refine n_bipush X (v := 8) dX1_init_41 rfl ?_
  refine n_newa X (atype := .int) (t0 := 0) (q := (4 + 17 * i.val + 3)) (N' := 8) (a0 := (8, .inl ((fun _ => 0)))) (ws1 := P ++ [(k.b + (4 + 17 * i.val), .inr (1, [.int 0, .int 0, .int 0, .int 0, .ref (k.b + (4 + 17 * i.val + 1)), .ref (k.b + (4 + 17 * i.val + 2)), .null, .null, .null, .null, .null, .null, .null, .null, .null, .null, .null, .null, .null])), (k.b + (4 + 17 * i.val + 1), .inl (k.c 0, (8, .inl ((fun _ => 0))))), (k.b + (4 + 17 * i.val + 2), .inl (k.c 0, (8, .inl ((fun _ => 0))))), (k.b + (4 + 17 * i.val + 3), .inl (k.c 0, (8, .inl ((fun _ => 0)))))]) rfl ac_int rfl (fun _ => rfl) (by decide) rfl (by decide) (lx hp rfl) (List.append_assoc _ _ _) (Nat.le_of_ble_eq_true rfl) (Nat.le_of_ble_eq_true rfl) dX1_init_43 ?_
  refine n_putfield X (ws1 := P ++ [(k.b + (4 + 17 * i.val), .inr (1, [.int 0, .int 0, .int 0, .int 0, .ref (k.b + (4 + 17 * i.val + 1)), .ref (k.b + (4 + 17 * i.val + 2)), .ref (k.b + (4 + 17 * i.val + 3)), .null, .null, .null, .null, .null, .null, .null, .null, .null, .null, .null, .null])), (k.b + (4 + 17 * i.val + 1), .inl (k.c 0, (8, .inl ((fun _ => 0))))), (k.b + (4 + 17 * i.val + 2), .inl (k.c 0, (8, .inl ((fun _ => 0))))), (k.b + (4 + 17 * i.val + 3), .inl (k.c 0, (8, .inl ((fun _ => 0)))))]) clsX1 flX1_31 (Nat.le_of_ble_eq_true rfl) rfl rfl rfl _ (gx (i := 0) hp rfl) (Nat.le_of_ble_eq_true rfl) (sx (i := 0) hp rfl) dX1_init_45 ?_
  refine n_aload_n X (x := k.b + (4 + 17 * i.val)) dX1_init_48 rfl ?_
  refine n_bipush X (v := 6) dX1_init_49 rfl ?_
  refine n_newa X (atype := .int) (t0 := 0) (q := (4 + 17 * i.val + 4)) (N' := 6) (a0 := (6, .inl ((fun _ => 0)))) (ws1 := P ++ [(k.b + (4 + 17 * i.val), .inr (1, [.int 0, .int 0, .int 0, .int 0, .ref (k.b + (4 + 17 * i.val + 1)), .ref (k.b + (4 + 17 * i.val + 2)), .ref (k.b + (4 + 17 * i.val + 3)), .null, .null, .null, .null, .null, .null, .null, .null, .null, .null, .null, .null])), (k.b + (4 + 17 * i.val + 1), .inl (k.c 0, (8, .inl ((fun _ => 0))))), (k.b + (4 + 17 * i.val + 2), .inl (k.c 0, (8, .inl ((fun _ => 0))))), (k.b + (4 + 17 * i.val + 3), .inl (k.c 0, (8, .inl ((fun _ => 0))))), (k.b + (4 + 17 * i.val + 4), .inl (k.c 0, (6, .inl ((fun _ => 0)))))]) rfl ac_int rfl (fun _ => rfl) (by decide) rfl (by decide) (lx hp rfl) (List.append_assoc _ _ _) (Nat.le_of_ble_eq_true rfl) (Nat.le_of_ble_eq_true rfl) dX1_init_51 ?_
  refine n_putfield X (ws1 := P ++ [(k.b + (4 + 17 * i.val), .inr (1, [.int 0, .int 0, .int 0, .int 0, .ref (k.b + (4 + 17 * i.val + 1)), .ref (k.b + (4 + 17 * i.val + 2)), .ref (k.b + (4 + 17 * i.val + 3)), .ref (k.b + (4 + 17 * i.val + 4)), .null, .null, .null, .null, .null, .null, .null, .null, .null, .null, .null])), (k.b + (4 + 17 * i.val + 1), .inl (k.c 0, (8, .inl ((fun _ => 0))))), (k.b + (4 + 17 * i.val + 2), .inl (k.c 0, (8, .inl ((fun _ => 0))))), (k.b + (4 + 17 * i.val + 3), .inl (k.c 0, (8, .inl ((fun _ => 0))))), (k.b + (4 + 17 * i.val + 4), .inl (k.c 0, (6, .inl ((fun _ => 0)))))]) clsX1 flX1_34 (Nat.le_of_ble_eq_true rfl) rfl rfl rfl _ (gx (i := 0) hp rfl) (Nat.le_of_ble_eq_true rfl) (sx (i := 0) hp rfl) dX1_init_53 ?_
  refine n_aload_n X (x := k.b + (4 + 17 * i.val)) dX1_init_56 rfl ?_
  refine n_bipush X (v := 6) dX1_init_57 rfl ?_
  refine n_newa X (atype := .int) (t0 := 0) (q := (4 + 17 * i.val + 5)) (N' := 6) (a0 := (6, .inl ((fun _ => 0)))) (ws1 := P ++ [(k.b + (4 + 17 * i.val), .inr (1, [.int 0, .int 0, .int 0, .int 0, .ref (k.b + (4 + 17 * i.val + 1)), .ref (k.b + (4 + 17 * i.val + 2)), .ref (k.b + (4 + 17 * i.val + 3)), .ref (k.b + (4 + 17 * i.val + 4)), .null, .null, .null, .null, .null, .null, .null, .null, .null, .null, .null])), (k.b + (4 + 17 * i.val + 1), .inl (k.c 0, (8, .inl ((fun _ => 0))))), (k.b + (4 + 17 * i.val + 2), .inl (k.c 0, (8, .inl ((fun _ => 0))))), (k.b + (4 + 17 * i.val + 3), .inl (k.c 0, (8, .inl ((fun _ => 0))))), (k.b + (4 + 17 * i.val + 4), .inl (k.c 0, (6, .inl ((fun _ => 0))))), (k.b + (4 + 17 * i.val + 5), .inl (k.c 0, (6, .inl ((fun _ => 0)))))]) rfl ac_int rfl (fun _ => rfl) (by decide) rfl (by decide) (lx hp rfl) (List.append_assoc _ _ _) (Nat.le_of_ble_eq_true rfl) (Nat.le_of_ble_eq_true rfl) dX1_init_59 ?_
  refine n_putfield X (ws1 := P ++ [(k.b + (4 + 17 * i.val), .inr (1, [.int 0, .int 0, .int 0, .int 0, .ref (k.b + (4 + 17 * i.val + 1)), .ref (k.b + (4 + 17 * i.val + 2)), .ref (k.b + (4 + 17 * i.val + 3)), .ref (k.b + (4 + 17 * i.val + 4)), .ref (k.b + (4 + 17 * i.val + 5)), .null, .null, .null, .null, .null, .null, .null, .null, .null, .null])), (k.b + (4 + 17 * i.val + 1), .inl (k.c 0, (8, .inl ((fun _ => 0))))), (k.b + (4 + 17 * i.val + 2), .inl (k.c 0, (8, .inl ((fun _ => 0))))), (k.b + (4 + 17 * i.val + 3), .inl (k.c 0, (8, .inl ((fun _ => 0))))), (k.b + (4 + 17 * i.val + 4), .inl (k.c 0, (6, .inl ((fun _ => 0))))), (k.b + (4 + 17 * i.val + 5), .inl (k.c 0, (6, .inl ((fun _ => 0)))))]) clsX1 flX1_37 (Nat.le_of_ble_eq_true rfl) rfl rfl rfl _ (gx (i := 0) hp rfl) (Nat.le_of_ble_eq_true rfl) (sx (i := 0) hp rfl) dX1_init_61 ?_
  refine n_aload_n X (x := k.b + (4 + 17 * i.val)) dX1_init_64 rfl ?_
  refine n_bipush X (v := 6) dX1_init_65 rfl ?_
  refine n_newa X (atype := .int) (t0 := 0) (q := (4 + 17 * i.val + 6)) (N' := 6) (a0 := (6, .inl ((fun _ => 0)))) (ws1 := P ++ [(k.b + (4 + 17 * i.val), .inr (1, [.int 0, .int 0, .int 0, .int 0, .ref (k.b + (4 + 17 * i.val + 1)), .ref (k.b + (4 + 17 * i.val + 2)), .ref (k.b + (4 + 17 * i.val + 3)), .ref (k.b + (4 + 17 * i.val + 4)), .ref (k.b + (4 + 17 * i.val + 5)), .null, .null, .null, .null, .null, .null, .null, .null, .null, .null])), (k.b + (4 + 17 * i.val + 1), .inl (k.c 0, (8, .inl ((fun _ => 0))))), (k.b + (4 + 17 * i.val + 2), .inl (k.c 0, (8, .inl ((fun _ => 0))))), (k.b + (4 + 17 * i.val + 3), .inl (k.c 0, (8, .inl ((fun _ => 0))))), (k.b + (4 + 17 * i.val + 4), .inl (k.c 0, (6, .inl ((fun _ => 0))))), (k.b + (4 + 17 * i.val + 5), .inl (k.c 0, (6, .inl ((fun _ => 0))))), (k.b + (4 + 17 * i.val + 6), .inl (k.c 0, (6, .inl ((fun _ => 0)))))]) rfl ac_int rfl (fun _ => rfl) (by decide) rfl (by decide) (lx hp rfl) (List.append_assoc _ _ _) (Nat.le_of_ble_eq_true rfl) (Nat.le_of_ble_eq_true rfl) dX1_init_67 ?_
  refine n_putfield X (ws1 := P ++ [(k.b + (4 + 17 * i.val), .inr (1, [.int 0, .int 0, .int 0, .int 0, .ref (k.b + (4 + 17 * i.val + 1)), .ref (k.b + (4 + 17 * i.val + 2)), .ref (k.b + (4 + 17 * i.val + 3)), .ref (k.b + (4 + 17 * i.val + 4)), .ref (k.b + (4 + 17 * i.val + 5)), .ref (k.b + (4 + 17 * i.val + 6)), .null, .null, .null, .null, .null, .null, .null, .null, .null])), (k.b + (4 + 17 * i.val + 1), .inl (k.c 0, (8, .inl ((fun _ => 0))))), (k.b + (4 + 17 * i.val + 2), .inl (k.c 0, (8, .inl ((fun _ => 0))))), (k.b + (4 + 17 * i.val + 3), .inl (k.c 0, (8, .inl ((fun _ => 0))))), (k.b + (4 + 17 * i.val + 4), .inl (k.c 0, (6, .inl ((fun _ => 0))))), (k.b + (4 + 17 * i.val + 5), .inl (k.c 0, (6, .inl ((fun _ => 0))))), (k.b + (4 + 17 * i.val + 6), .inl (k.c 0, (6, .inl ((fun _ => 0)))))]) clsX1 flX1_40 (Nat.le_of_ble_eq_true rfl) rfl rfl rfl _ (gx (i := 0) hp rfl) (Nat.le_of_ble_eq_true rfl) (sx (i := 0) hp rfl) dX1_init_69 ?_
  refine n_aload_n X (x := k.b + (4 + 17 * i.val)) dX1_init_72 rfl ?_
  refine n_bipush X (v := 6) dX1_init_73 rfl ?_
  refine n_newa X (atype := .int) (t0 := 0) (q := (4 + 17 * i.val + 7)) (N' := 6) (a0 := (6, .inl ((fun _ => 0)))) (ws1 := P ++ [(k.b + (4 + 17 * i.val), .inr (1, [.int 0, .int 0, .int 0, .int 0, .ref (k.b + (4 + 17 * i.val + 1)), .ref (k.b + (4 + 17 * i.val + 2)), .ref (k.b + (4 + 17 * i.val + 3)), .ref (k.b + (4 + 17 * i.val + 4)), .ref (k.b + (4 + 17 * i.val + 5)), .ref (k.b + (4 + 17 * i.val + 6)), .null, .null, .null, .null, .null, .null, .null, .null, .null])), (k.b + (4 + 17 * i.val + 1), .inl (k.c 0, (8, .inl ((fun _ => 0))))), (k.b + (4 + 17 * i.val + 2), .inl (k.c 0, (8, .inl ((fun _ => 0))))), (k.b + (4 + 17 * i.val + 3), .inl (k.c 0, (8, .inl ((fun _ => 0))))), (k.b + (4 + 17 * i.val + 4), .inl (k.c 0, (6, .inl ((fun _ => 0))))), (k.b + (4 + 17 * i.val + 5), .inl (k.c 0, (6, .inl ((fun _ => 0))))), (k.b + (4 + 17 * i.val + 6), .inl (k.c 0, (6, .inl ((fun _ => 0))))), (k.b + (4 + 17 * i.val + 7), .inl (k.c 0, (6, .inl ((fun _ => 0)))))]) rfl ac_int rfl (fun _ => rfl) (by decide) rfl (by decide) (lx hp rfl) (List.append_assoc _ _ _) (Nat.le_of_ble_eq_true rfl) (Nat.le_of_ble_eq_true rfl) dX1_init_75 ?_
  refine n_putfield X (ws1 := P ++ [(k.b + (4 + 17 * i.val), .inr (1, [.int 0, .int 0, .int 0, .int 0, .ref (k.b + (4 + 17 * i.val + 1)), .ref (k.b + (4 + 17 * i.val + 2)), .ref (k.b + (4 + 17 * i.val + 3)), .ref (k.b + (4 + 17 * i.val + 4)), .ref (k.b + (4 + 17 * i.val + 5)), .ref (k.b + (4 + 17 * i.val + 6)), .ref (k.b + (4 + 17 * i.val + 7)), .null, .null, .null, .null, .null, .null, .null, .null])), (k.b + (4 + 17 * i.val + 1), .inl (k.c 0, (8, .inl ((fun _ => 0))))), (k.b + (4 + 17 * i.val + 2), .inl (k.c 0, (8, .inl ((fun _ => 0))))), (k.b + (4 + 17 * i.val + 3), .inl (k.c 0, (8, .inl ((fun _ => 0))))), (k.b + (4 + 17 * i.val + 4), .inl (k.c 0, (6, .inl ((fun _ => 0))))), (k.b + (4 + 17 * i.val + 5), .inl (k.c 0, (6, .inl ((fun _ => 0))))), (k.b + (4 + 17 * i.val + 6), .inl (k.c 0, (6, .inl ((fun _ => 0))))), (k.b + (4 + 17 * i.val + 7), .inl (k.c 0, (6, .inl ((fun _ => 0)))))]) clsX1 flX1_43 (Nat.le_of_ble_eq_true rfl) rfl rfl rfl _ (gx (i := 0) hp rfl) (Nat.le_of_ble_eq_true rfl) (sx (i := 0) hp rfl) dX1_init_77 ?_
  refine n_aload_n X (x := k.b + (4 + 17 * i.val)) dX1_init_80 rfl ?_
  refine n_bipush X (v := 6) dX1_init_81 rfl ?_
  refine n_newa X (atype := .int) (t0 := 0) (q := (4 + 17 * i.val + 8)) (N' := 6) (a0 := (6, .inl ((fun _ => 0)))) (ws1 := P ++ [(k.b + (4 + 17 * i.val), .inr (1, [.int 0, .int 0, .int 0, .int 0, .ref (k.b + (4 + 17 * i.val + 1)), .ref (k.b + (4 + 17 * i.val + 2)), .ref (k.b + (4 + 17 * i.val + 3)), .ref (k.b + (4 + 17 * i.val + 4)), .ref (k.b + (4 + 17 * i.val + 5)), .ref (k.b + (4 + 17 * i.val + 6)), .ref (k.b + (4 + 17 * i.val + 7)), .null, .null, .null, .null, .null, .null, .null, .null])), (k.b + (4 + 17 * i.val + 1), .inl (k.c 0, (8, .inl ((fun _ => 0))))), (k.b + (4 + 17 * i.val + 2), .inl (k.c 0, (8, .inl ((fun _ => 0))))), (k.b + (4 + 17 * i.val + 3), .inl (k.c 0, (8, .inl ((fun _ => 0))))), (k.b + (4 + 17 * i.val + 4), .inl (k.c 0, (6, .inl ((fun _ => 0))))), (k.b + (4 + 17 * i.val + 5), .inl (k.c 0, (6, .inl ((fun _ => 0))))), (k.b + (4 + 17 * i.val + 6), .inl (k.c 0, (6, .inl ((fun _ => 0))))), (k.b + (4 + 17 * i.val + 7), .inl (k.c 0, (6, .inl ((fun _ => 0))))), (k.b + (4 + 17 * i.val + 8), .inl (k.c 0, (6, .inl ((fun _ => 0)))))]) rfl ac_int rfl (fun _ => rfl) (by decide) rfl (by decide) (lx hp rfl) (List.append_assoc _ _ _) (Nat.le_of_ble_eq_true rfl) (Nat.le_of_ble_eq_true rfl) dX1_init_83 ?_
  refine n_putfield X (ws1 := P ++ [(k.b + (4 + 17 * i.val), .inr (1, [.int 0, .int 0, .int 0, .int 0, .ref (k.b + (4 + 17 * i.val + 1)), .ref (k.b + (4 + 17 * i.val + 2)), .ref (k.b + (4 + 17 * i.val + 3)), .ref (k.b + (4 + 17 * i.val + 4)), .ref (k.b + (4 + 17 * i.val + 5)), .ref (k.b + (4 + 17 * i.val + 6)), .ref (k.b + (4 + 17 * i.val + 7)), .ref (k.b + (4 + 17 * i.val + 8)), .null, .null, .null, .null, .null, .null, .null])), (k.b + (4 + 17 * i.val + 1), .inl (k.c 0, (8, .inl ((fun _ => 0))))), (k.b + (4 + 17 * i.val + 2), .inl (k.c 0, (8, .inl ((fun _ => 0))))), (k.b + (4 + 17 * i.val + 3), .inl (k.c 0, (8, .inl ((fun _ => 0))))), (k.b + (4 + 17 * i.val + 4), .inl (k.c 0, (6, .inl ((fun _ => 0))))), (k.b + (4 + 17 * i.val + 5), .inl (k.c 0, (6, .inl ((fun _ => 0))))), (k.b + (4 + 17 * i.val + 6), .inl (k.c 0, (6, .inl ((fun _ => 0))))), (k.b + (4 + 17 * i.val + 7), .inl (k.c 0, (6, .inl ((fun _ => 0))))), (k.b + (4 + 17 * i.val + 8), .inl (k.c 0, (6, .inl ((fun _ => 0)))))]) clsX1 flX1_46 (Nat.le_of_ble_eq_true rfl) rfl rfl rfl _ (gx (i := 0) hp rfl) (Nat.le_of_ble_eq_true rfl) (sx (i := 0) hp rfl) dX1_init_85 ?_
  refine n_aload_n X (x := k.b + (4 + 17 * i.val)) dX1_init_88 rfl ?_
  refine n_bipush X (v := 6) dX1_init_89 rfl ?_
  refine n_newa X (atype := .int) (t0 := 0) (q := (4 + 17 * i.val + 9)) (N' := 6) (a0 := (6, .inl ((fun _ => 0)))) (ws1 := P ++ [(k.b + (4 + 17 * i.val), .inr (1, [.int 0, .int 0, .int 0, .int 0, .ref (k.b + (4 + 17 * i.val + 1)), .ref (k.b + (4 + 17 * i.val + 2)), .ref (k.b + (4 + 17 * i.val + 3)), .ref (k.b + (4 + 17 * i.val + 4)), .ref (k.b + (4 + 17 * i.val + 5)), .ref (k.b + (4 + 17 * i.val + 6)), .ref (k.b + (4 + 17 * i.val + 7)), .ref (k.b + (4 + 17 * i.val + 8)), .null, .null, .null, .null, .null, .null, .null])), (k.b + (4 + 17 * i.val + 1), .inl (k.c 0, (8, .inl ((fun _ => 0))))), (k.b + (4 + 17 * i.val + 2), .inl (k.c 0, (8, .inl ((fun _ => 0))))), (k.b + (4 + 17 * i.val + 3), .inl (k.c 0, (8, .inl ((fun _ => 0))))), (k.b + (4 + 17 * i.val + 4), .inl (k.c 0, (6, .inl ((fun _ => 0))))), (k.b + (4 + 17 * i.val + 5), .inl (k.c 0, (6, .inl ((fun _ => 0))))), (k.b + (4 + 17 * i.val + 6), .inl (k.c 0, (6, .inl ((fun _ => 0))))), (k.b + (4 + 17 * i.val + 7), .inl (k.c 0, (6, .inl ((fun _ => 0))))), (k.b + (4 + 17 * i.val + 8), .inl (k.c 0, (6, .inl ((fun _ => 0))))), (k.b + (4 + 17 * i.val + 9), .inl (k.c 0, (6, .inl ((fun _ => 0)))))]) rfl ac_int rfl (fun _ => rfl) (by decide) rfl (by decide) (lx hp rfl) (List.append_assoc _ _ _) (Nat.le_of_ble_eq_true rfl) (Nat.le_of_ble_eq_true rfl) dX1_init_91 ?_
  refine n_putfield X (ws1 := P ++ [(k.b + (4 + 17 * i.val), .inr (1, [.int 0, .int 0, .int 0, .int 0, .ref (k.b + (4 + 17 * i.val + 1)), .ref (k.b + (4 + 17 * i.val + 2)), .ref (k.b + (4 + 17 * i.val + 3)), .ref (k.b + (4 + 17 * i.val + 4)), .ref (k.b + (4 + 17 * i.val + 5)), .ref (k.b + (4 + 17 * i.val + 6)), .ref (k.b + (4 + 17 * i.val + 7)), .ref (k.b + (4 + 17 * i.val + 8)), .ref (k.b + (4 + 17 * i.val + 9)), .null, .null, .null, .null, .null, .null])), (k.b + (4 + 17 * i.val + 1), .inl (k.c 0, (8, .inl ((fun _ => 0))))), (k.b + (4 + 17 * i.val + 2), .inl (k.c 0, (8, .inl ((fun _ => 0))))), (k.b + (4 + 17 * i.val + 3), .inl (k.c 0, (8, .inl ((fun _ => 0))))), (k.b + (4 + 17 * i.val + 4), .inl (k.c 0, (6, .inl ((fun _ => 0))))), (k.b + (4 + 17 * i.val + 5), .inl (k.c 0, (6, .inl ((fun _ => 0))))), (k.b + (4 + 17 * i.val + 6), .inl (k.c 0, (6, .inl ((fun _ => 0))))), (k.b + (4 + 17 * i.val + 7), .inl (k.c 0, (6, .inl ((fun _ => 0))))), (k.b + (4 + 17 * i.val + 8), .inl (k.c 0, (6, .inl ((fun _ => 0))))), (k.b + (4 + 17 * i.val + 9), .inl (k.c 0, (6, .inl ((fun _ => 0)))))]) clsX1 flX1_49 (Nat.le_of_ble_eq_true rfl) rfl rfl rfl _ (gx (i := 0) hp rfl) (Nat.le_of_ble_eq_true rfl) (sx (i := 0) hp rfl) dX1_init_93 ?_
  refine n_aload_n X (x := k.b + (4 + 17 * i.val)) dX1_init_96 rfl ?_
  refine n_bipush X (v := 10) dX1_init_97 rfl ?_
  refine n_newa X (atype := .int) (t0 := 0) (q := (4 + 17 * i.val + 10)) (N' := 10) (a0 := (10, .inl ((fun _ => 0)))) (ws1 := P ++ [(k.b + (4 + 17 * i.val), .inr (1, [.int 0, .int 0, .int 0, .int 0, .ref (k.b + (4 + 17 * i.val + 1)), .ref (k.b + (4 + 17 * i.val + 2)), .ref (k.b + (4 + 17 * i.val + 3)), .ref (k.b + (4 + 17 * i.val + 4)), .ref (k.b + (4 + 17 * i.val + 5)), .ref (k.b + (4 + 17 * i.val + 6)), .ref (k.b + (4 + 17 * i.val + 7)), .ref (k.b + (4 + 17 * i.val + 8)), .ref (k.b + (4 + 17 * i.val + 9)), .null, .null, .null, .null, .null, .null])), (k.b + (4 + 17 * i.val + 1), .inl (k.c 0, (8, .inl ((fun _ => 0))))), (k.b + (4 + 17 * i.val + 2), .inl (k.c 0, (8, .inl ((fun _ => 0))))), (k.b + (4 + 17 * i.val + 3), .inl (k.c 0, (8, .inl ((fun _ => 0))))), (k.b + (4 + 17 * i.val + 4), .inl (k.c 0, (6, .inl ((fun _ => 0))))), (k.b + (4 + 17 * i.val + 5), .inl (k.c 0, (6, .inl ((fun _ => 0))))), (k.b + (4 + 17 * i.val + 6), .inl (k.c 0, (6, .inl ((fun _ => 0))))), (k.b + (4 + 17 * i.val + 7), .inl (k.c 0, (6, .inl ((fun _ => 0))))), (k.b + (4 + 17 * i.val + 8), .inl (k.c 0, (6, .inl ((fun _ => 0))))), (k.b + (4 + 17 * i.val + 9), .inl (k.c 0, (6, .inl ((fun _ => 0))))), (k.b + (4 + 17 * i.val + 10), .inl (k.c 0, (10, .inl ((fun _ => 0)))))]) rfl ac_int rfl (fun _ => rfl) (by decide) rfl (by decide) (lx hp rfl) (List.append_assoc _ _ _) (Nat.le_of_ble_eq_true rfl) (Nat.le_of_ble_eq_true rfl) dX1_init_99 ?_
  refine n_putfield X (ws1 := P ++ [(k.b + (4 + 17 * i.val), .inr (1, [.int 0, .int 0, .int 0, .int 0, .ref (k.b + (4 + 17 * i.val + 1)), .ref (k.b + (4 + 17 * i.val + 2)), .ref (k.b + (4 + 17 * i.val + 3)), .ref (k.b + (4 + 17 * i.val + 4)), .ref (k.b + (4 + 17 * i.val + 5)), .ref (k.b + (4 + 17 * i.val + 6)), .ref (k.b + (4 + 17 * i.val + 7)), .ref (k.b + (4 + 17 * i.val + 8)), .ref (k.b + (4 + 17 * i.val + 9)), .ref (k.b + (4 + 17 * i.val + 10)), .null, .null, .null, .null, .null])), (k.b + (4 + 17 * i.val + 1), .inl (k.c 0, (8, .inl ((fun _ => 0))))), (k.b + (4 + 17 * i.val + 2), .inl (k.c 0, (8, .inl ((fun _ => 0))))), (k.b + (4 + 17 * i.val + 3), .inl (k.c 0, (8, .inl ((fun _ => 0))))), (k.b + (4 + 17 * i.val + 4), .inl (k.c 0, (6, .inl ((fun _ => 0))))), (k.b + (4 + 17 * i.val + 5), .inl (k.c 0, (6, .inl ((fun _ => 0))))), (k.b + (4 + 17 * i.val + 6), .inl (k.c 0, (6, .inl ((fun _ => 0))))), (k.b + (4 + 17 * i.val + 7), .inl (k.c 0, (6, .inl ((fun _ => 0))))), (k.b + (4 + 17 * i.val + 8), .inl (k.c 0, (6, .inl ((fun _ => 0))))), (k.b + (4 + 17 * i.val + 9), .inl (k.c 0, (6, .inl ((fun _ => 0))))), (k.b + (4 + 17 * i.val + 10), .inl (k.c 0, (10, .inl ((fun _ => 0)))))]) clsX1 flX1_52 (Nat.le_of_ble_eq_true rfl) rfl rfl rfl _ (gx (i := 0) hp rfl) (Nat.le_of_ble_eq_true rfl) (sx (i := 0) hp rfl) dX1_init_101 ?_
  refine n_aload_n X (x := k.b + (4 + 17 * i.val)) dX1_init_104 rfl ?_
  refine n_bipush X (v := 10) dX1_init_105 rfl ?_
  refine n_newa X (atype := .int) (t0 := 0) (q := (4 + 17 * i.val + 11)) (N' := 10) (a0 := (10, .inl ((fun _ => 0)))) (ws1 := P ++ [(k.b + (4 + 17 * i.val), .inr (1, [.int 0, .int 0, .int 0, .int 0, .ref (k.b + (4 + 17 * i.val + 1)), .ref (k.b + (4 + 17 * i.val + 2)), .ref (k.b + (4 + 17 * i.val + 3)), .ref (k.b + (4 + 17 * i.val + 4)), .ref (k.b + (4 + 17 * i.val + 5)), .ref (k.b + (4 + 17 * i.val + 6)), .ref (k.b + (4 + 17 * i.val + 7)), .ref (k.b + (4 + 17 * i.val + 8)), .ref (k.b + (4 + 17 * i.val + 9)), .ref (k.b + (4 + 17 * i.val + 10)), .null, .null, .null, .null, .null])), (k.b + (4 + 17 * i.val + 1), .inl (k.c 0, (8, .inl ((fun _ => 0))))), (k.b + (4 + 17 * i.val + 2), .inl (k.c 0, (8, .inl ((fun _ => 0))))), (k.b + (4 + 17 * i.val + 3), .inl (k.c 0, (8, .inl ((fun _ => 0))))), (k.b + (4 + 17 * i.val + 4), .inl (k.c 0, (6, .inl ((fun _ => 0))))), (k.b + (4 + 17 * i.val + 5), .inl (k.c 0, (6, .inl ((fun _ => 0))))), (k.b + (4 + 17 * i.val + 6), .inl (k.c 0, (6, .inl ((fun _ => 0))))), (k.b + (4 + 17 * i.val + 7), .inl (k.c 0, (6, .inl ((fun _ => 0))))), (k.b + (4 + 17 * i.val + 8), .inl (k.c 0, (6, .inl ((fun _ => 0))))), (k.b + (4 + 17 * i.val + 9), .inl (k.c 0, (6, .inl ((fun _ => 0))))), (k.b + (4 + 17 * i.val + 10), .inl (k.c 0, (10, .inl ((fun _ => 0))))), (k.b + (4 + 17 * i.val + 11), .inl (k.c 0, (10, .inl ((fun _ => 0)))))]) rfl ac_int rfl (fun _ => rfl) (by decide) rfl (by decide) (lx hp rfl) (List.append_assoc _ _ _) (Nat.le_of_ble_eq_true rfl) (Nat.le_of_ble_eq_true rfl) dX1_init_107 ?_
  refine n_putfield X (ws1 := P ++ [(k.b + (4 + 17 * i.val), .inr (1, [.int 0, .int 0, .int 0, .int 0, .ref (k.b + (4 + 17 * i.val + 1)), .ref (k.b + (4 + 17 * i.val + 2)), .ref (k.b + (4 + 17 * i.val + 3)), .ref (k.b + (4 + 17 * i.val + 4)), .ref (k.b + (4 + 17 * i.val + 5)), .ref (k.b + (4 + 17 * i.val + 6)), .ref (k.b + (4 + 17 * i.val + 7)), .ref (k.b + (4 + 17 * i.val + 8)), .ref (k.b + (4 + 17 * i.val + 9)), .ref (k.b + (4 + 17 * i.val + 10)), .ref (k.b + (4 + 17 * i.val + 11)), .null, .null, .null, .null])), (k.b + (4 + 17 * i.val + 1), .inl (k.c 0, (8, .inl ((fun _ => 0))))), (k.b + (4 + 17 * i.val + 2), .inl (k.c 0, (8, .inl ((fun _ => 0))))), (k.b + (4 + 17 * i.val + 3), .inl (k.c 0, (8, .inl ((fun _ => 0))))), (k.b + (4 + 17 * i.val + 4), .inl (k.c 0, (6, .inl ((fun _ => 0))))), (k.b + (4 + 17 * i.val + 5), .inl (k.c 0, (6, .inl ((fun _ => 0))))), (k.b + (4 + 17 * i.val + 6), .inl (k.c 0, (6, .inl ((fun _ => 0))))), (k.b + (4 + 17 * i.val + 7), .inl (k.c 0, (6, .inl ((fun _ => 0))))), (k.b + (4 + 17 * i.val + 8), .inl (k.c 0, (6, .inl ((fun _ => 0))))), (k.b + (4 + 17 * i.val + 9), .inl (k.c 0, (6, .inl ((fun _ => 0))))), (k.b + (4 + 17 * i.val + 10), .inl (k.c 0, (10, .inl ((fun _ => 0))))), (k.b + (4 + 17 * i.val + 11), .inl (k.c 0, (10, .inl ((fun _ => 0)))))]) clsX1 flX1_55 (Nat.le_of_ble_eq_true rfl) rfl rfl rfl _ (gx (i := 0) hp rfl) (Nat.le_of_ble_eq_true rfl) (sx (i := 0) hp rfl) dX1_init_109 ?_
  refine n_aload_n X (x := k.b + (4 + 17 * i.val)) dX1_init_112 rfl ?_
  refine n_bipush X (v := 10) dX1_init_113 rfl ?_
  refine n_newa X (atype := .int) (t0 := 0) (q := (4 + 17 * i.val + 12)) (N' := 10) (a0 := (10, .inl ((fun _ => 0)))) (ws1 := P ++ [(k.b + (4 + 17 * i.val), .inr (1, [.int 0, .int 0, .int 0, .int 0, .ref (k.b + (4 + 17 * i.val + 1)), .ref (k.b + (4 + 17 * i.val + 2)), .ref (k.b + (4 + 17 * i.val + 3)), .ref (k.b + (4 + 17 * i.val + 4)), .ref (k.b + (4 + 17 * i.val + 5)), .ref (k.b + (4 + 17 * i.val + 6)), .ref (k.b + (4 + 17 * i.val + 7)), .ref (k.b + (4 + 17 * i.val + 8)), .ref (k.b + (4 + 17 * i.val + 9)), .ref (k.b + (4 + 17 * i.val + 10)), .ref (k.b + (4 + 17 * i.val + 11)), .null, .null, .null, .null])), (k.b + (4 + 17 * i.val + 1), .inl (k.c 0, (8, .inl ((fun _ => 0))))), (k.b + (4 + 17 * i.val + 2), .inl (k.c 0, (8, .inl ((fun _ => 0))))), (k.b + (4 + 17 * i.val + 3), .inl (k.c 0, (8, .inl ((fun _ => 0))))), (k.b + (4 + 17 * i.val + 4), .inl (k.c 0, (6, .inl ((fun _ => 0))))), (k.b + (4 + 17 * i.val + 5), .inl (k.c 0, (6, .inl ((fun _ => 0))))), (k.b + (4 + 17 * i.val + 6), .inl (k.c 0, (6, .inl ((fun _ => 0))))), (k.b + (4 + 17 * i.val + 7), .inl (k.c 0, (6, .inl ((fun _ => 0))))), (k.b + (4 + 17 * i.val + 8), .inl (k.c 0, (6, .inl ((fun _ => 0))))), (k.b + (4 + 17 * i.val + 9), .inl (k.c 0, (6, .inl ((fun _ => 0))))), (k.b + (4 + 17 * i.val + 10), .inl (k.c 0, (10, .inl ((fun _ => 0))))), (k.b + (4 + 17 * i.val + 11), .inl (k.c 0, (10, .inl ((fun _ => 0))))), (k.b + (4 + 17 * i.val + 12), .inl (k.c 0, (10, .inl ((fun _ => 0)))))]) rfl ac_int rfl (fun _ => rfl) (by decide) rfl (by decide) (lx hp rfl) (List.append_assoc _ _ _) (Nat.le_of_ble_eq_true rfl) (Nat.le_of_ble_eq_true rfl) dX1_init_115 ?_
  refine n_putfield X (ws1 := P ++ [(k.b + (4 + 17 * i.val), .inr (1, [.int 0, .int 0, .int 0, .int 0, .ref (k.b + (4 + 17 * i.val + 1)), .ref (k.b + (4 + 17 * i.val + 2)), .ref (k.b + (4 + 17 * i.val + 3)), .ref (k.b + (4 + 17 * i.val + 4)), .ref (k.b + (4 + 17 * i.val + 5)), .ref (k.b + (4 + 17 * i.val + 6)), .ref (k.b + (4 + 17 * i.val + 7)), .ref (k.b + (4 + 17 * i.val + 8)), .ref (k.b + (4 + 17 * i.val + 9)), .ref (k.b + (4 + 17 * i.val + 10)), .ref (k.b + (4 + 17 * i.val + 11)), .ref (k.b + (4 + 17 * i.val + 12)), .null, .null, .null])), (k.b + (4 + 17 * i.val + 1), .inl (k.c 0, (8, .inl ((fun _ => 0))))), (k.b + (4 + 17 * i.val + 2), .inl (k.c 0, (8, .inl ((fun _ => 0))))), (k.b + (4 + 17 * i.val + 3), .inl (k.c 0, (8, .inl ((fun _ => 0))))), (k.b + (4 + 17 * i.val + 4), .inl (k.c 0, (6, .inl ((fun _ => 0))))), (k.b + (4 + 17 * i.val + 5), .inl (k.c 0, (6, .inl ((fun _ => 0))))), (k.b + (4 + 17 * i.val + 6), .inl (k.c 0, (6, .inl ((fun _ => 0))))), (k.b + (4 + 17 * i.val + 7), .inl (k.c 0, (6, .inl ((fun _ => 0))))), (k.b + (4 + 17 * i.val + 8), .inl (k.c 0, (6, .inl ((fun _ => 0))))), (k.b + (4 + 17 * i.val + 9), .inl (k.c 0, (6, .inl ((fun _ => 0))))), (k.b + (4 + 17 * i.val + 10), .inl (k.c 0, (10, .inl ((fun _ => 0))))), (k.b + (4 + 17 * i.val + 11), .inl (k.c 0, (10, .inl ((fun _ => 0))))), (k.b + (4 + 17 * i.val + 12), .inl (k.c 0, (10, .inl ((fun _ => 0)))))]) clsX1 flX1_58 (Nat.le_of_ble_eq_true rfl) rfl rfl rfl _ (gx (i := 0) hp rfl) (Nat.le_of_ble_eq_true rfl) (sx (i := 0) hp rfl) dX1_init_117 ?_
  refine n_aload_n X (x := k.b + (4 + 17 * i.val)) dX1_init_120 rfl ?_
  refine n_bipush X (v := 10) dX1_init_121 rfl ?_
  refine n_newa X (atype := .int) (t0 := 0) (q := (4 + 17 * i.val + 13)) (N' := 10) (a0 := (10, .inl ((fun _ => 0)))) (ws1 := P ++ [(k.b + (4 + 17 * i.val), .inr (1, [.int 0, .int 0, .int 0, .int 0, .ref (k.b + (4 + 17 * i.val + 1)), .ref (k.b + (4 + 17 * i.val + 2)), .ref (k.b + (4 + 17 * i.val + 3)), .ref (k.b + (4 + 17 * i.val + 4)), .ref (k.b + (4 + 17 * i.val + 5)), .ref (k.b + (4 + 17 * i.val + 6)), .ref (k.b + (4 + 17 * i.val + 7)), .ref (k.b + (4 + 17 * i.val + 8)), .ref (k.b + (4 + 17 * i.val + 9)), .ref (k.b + (4 + 17 * i.val + 10)), .ref (k.b + (4 + 17 * i.val + 11)), .ref (k.b + (4 + 17 * i.val + 12)), .null, .null, .null])), (k.b + (4 + 17 * i.val + 1), .inl (k.c 0, (8, .inl ((fun _ => 0))))), (k.b + (4 + 17 * i.val + 2), .inl (k.c 0, (8, .inl ((fun _ => 0))))), (k.b + (4 + 17 * i.val + 3), .inl (k.c 0, (8, .inl ((fun _ => 0))))), (k.b + (4 + 17 * i.val + 4), .inl (k.c 0, (6, .inl ((fun _ => 0))))), (k.b + (4 + 17 * i.val + 5), .inl (k.c 0, (6, .inl ((fun _ => 0))))), (k.b + (4 + 17 * i.val + 6), .inl (k.c 0, (6, .inl ((fun _ => 0))))), (k.b + (4 + 17 * i.val + 7), .inl (k.c 0, (6, .inl ((fun _ => 0))))), (k.b + (4 + 17 * i.val + 8), .inl (k.c 0, (6, .inl ((fun _ => 0))))), (k.b + (4 + 17 * i.val + 9), .inl (k.c 0, (6, .inl ((fun _ => 0))))), (k.b + (4 + 17 * i.val + 10), .inl (k.c 0, (10, .inl ((fun _ => 0))))), (k.b + (4 + 17 * i.val + 11), .inl (k.c 0, (10, .inl ((fun _ => 0))))), (k.b + (4 + 17 * i.val + 12), .inl (k.c 0, (10, .inl ((fun _ => 0))))), (k.b + (4 + 17 * i.val + 13), .inl (k.c 0, (10, .inl ((fun _ => 0)))))]) rfl ac_int rfl (fun _ => rfl) (by decide) rfl (by decide) (lx hp rfl) (List.append_assoc _ _ _) (Nat.le_of_ble_eq_true rfl) (Nat.le_of_ble_eq_true rfl) dX1_init_123 ?_
  refine n_putfield X (ws1 := P ++ [(k.b + (4 + 17 * i.val), .inr (1, [.int 0, .int 0, .int 0, .int 0, .ref (k.b + (4 + 17 * i.val + 1)), .ref (k.b + (4 + 17 * i.val + 2)), .ref (k.b + (4 + 17 * i.val + 3)), .ref (k.b + (4 + 17 * i.val + 4)), .ref (k.b + (4 + 17 * i.val + 5)), .ref (k.b + (4 + 17 * i.val + 6)), .ref (k.b + (4 + 17 * i.val + 7)), .ref (k.b + (4 + 17 * i.val + 8)), .ref (k.b + (4 + 17 * i.val + 9)), .ref (k.b + (4 + 17 * i.val + 10)), .ref (k.b + (4 + 17 * i.val + 11)), .ref (k.b + (4 + 17 * i.val + 12)), .ref (k.b + (4 + 17 * i.val + 13)), .null, .null])), (k.b + (4 + 17 * i.val + 1), .inl (k.c 0, (8, .inl ((fun _ => 0))))), (k.b + (4 + 17 * i.val + 2), .inl (k.c 0, (8, .inl ((fun _ => 0))))), (k.b + (4 + 17 * i.val + 3), .inl (k.c 0, (8, .inl ((fun _ => 0))))), (k.b + (4 + 17 * i.val + 4), .inl (k.c 0, (6, .inl ((fun _ => 0))))), (k.b + (4 + 17 * i.val + 5), .inl (k.c 0, (6, .inl ((fun _ => 0))))), (k.b + (4 + 17 * i.val + 6), .inl (k.c 0, (6, .inl ((fun _ => 0))))), (k.b + (4 + 17 * i.val + 7), .inl (k.c 0, (6, .inl ((fun _ => 0))))), (k.b + (4 + 17 * i.val + 8), .inl (k.c 0, (6, .inl ((fun _ => 0))))), (k.b + (4 + 17 * i.val + 9), .inl (k.c 0, (6, .inl ((fun _ => 0))))), (k.b + (4 + 17 * i.val + 10), .inl (k.c 0, (10, .inl ((fun _ => 0))))), (k.b + (4 + 17 * i.val + 11), .inl (k.c 0, (10, .inl ((fun _ => 0))))), (k.b + (4 + 17 * i.val + 12), .inl (k.c 0, (10, .inl ((fun _ => 0))))), (k.b + (4 + 17 * i.val + 13), .inl (k.c 0, (10, .inl ((fun _ => 0)))))]) clsX1 flX1_61 (Nat.le_of_ble_eq_true rfl) rfl rfl rfl _ (gx (i := 0) hp rfl) (Nat.le_of_ble_eq_true rfl) (sx (i := 0) hp rfl) dX1_init_125 ?_
  refine n_aload_n X (x := k.b + (4 + 17 * i.val)) dX1_init_128 rfl ?_
  refine n_bipush X (v := 24) dX1_init_129 rfl ?_
  refine n_newa X (atype := .int) (t0 := 0) (q := (4 + 17 * i.val + 14)) (N' := 24) (a0 := (24, .inl ((fun _ => 0)))) (ws1 := P ++ [(k.b + (4 + 17 * i.val), .inr (1, [.int 0, .int 0, .int 0, .int 0, .ref (k.b + (4 + 17 * i.val + 1)), .ref (k.b + (4 + 17 * i.val + 2)), .ref (k.b + (4 + 17 * i.val + 3)), .ref (k.b + (4 + 17 * i.val + 4)), .ref (k.b + (4 + 17 * i.val + 5)), .ref (k.b + (4 + 17 * i.val + 6)), .ref (k.b + (4 + 17 * i.val + 7)), .ref (k.b + (4 + 17 * i.val + 8)), .ref (k.b + (4 + 17 * i.val + 9)), .ref (k.b + (4 + 17 * i.val + 10)), .ref (k.b + (4 + 17 * i.val + 11)), .ref (k.b + (4 + 17 * i.val + 12)), .ref (k.b + (4 + 17 * i.val + 13)), .null, .null])), (k.b + (4 + 17 * i.val + 1), .inl (k.c 0, (8, .inl ((fun _ => 0))))), (k.b + (4 + 17 * i.val + 2), .inl (k.c 0, (8, .inl ((fun _ => 0))))), (k.b + (4 + 17 * i.val + 3), .inl (k.c 0, (8, .inl ((fun _ => 0))))), (k.b + (4 + 17 * i.val + 4), .inl (k.c 0, (6, .inl ((fun _ => 0))))), (k.b + (4 + 17 * i.val + 5), .inl (k.c 0, (6, .inl ((fun _ => 0))))), (k.b + (4 + 17 * i.val + 6), .inl (k.c 0, (6, .inl ((fun _ => 0))))), (k.b + (4 + 17 * i.val + 7), .inl (k.c 0, (6, .inl ((fun _ => 0))))), (k.b + (4 + 17 * i.val + 8), .inl (k.c 0, (6, .inl ((fun _ => 0))))), (k.b + (4 + 17 * i.val + 9), .inl (k.c 0, (6, .inl ((fun _ => 0))))), (k.b + (4 + 17 * i.val + 10), .inl (k.c 0, (10, .inl ((fun _ => 0))))), (k.b + (4 + 17 * i.val + 11), .inl (k.c 0, (10, .inl ((fun _ => 0))))), (k.b + (4 + 17 * i.val + 12), .inl (k.c 0, (10, .inl ((fun _ => 0))))), (k.b + (4 + 17 * i.val + 13), .inl (k.c 0, (10, .inl ((fun _ => 0))))), (k.b + (4 + 17 * i.val + 14), .inl (k.c 0, (24, .inl ((fun _ => 0)))))]) rfl ac_int rfl (fun _ => rfl) (by decide) rfl (by decide) (lx hp rfl) (List.append_assoc _ _ _) (Nat.le_of_ble_eq_true rfl) (Nat.le_of_ble_eq_true rfl) dX1_init_131 ?_
  refine n_putfield X (ws1 := P ++ [(k.b + (4 + 17 * i.val), .inr (1, [.int 0, .int 0, .int 0, .int 0, .ref (k.b + (4 + 17 * i.val + 1)), .ref (k.b + (4 + 17 * i.val + 2)), .ref (k.b + (4 + 17 * i.val + 3)), .ref (k.b + (4 + 17 * i.val + 4)), .ref (k.b + (4 + 17 * i.val + 5)), .ref (k.b + (4 + 17 * i.val + 6)), .ref (k.b + (4 + 17 * i.val + 7)), .ref (k.b + (4 + 17 * i.val + 8)), .ref (k.b + (4 + 17 * i.val + 9)), .ref (k.b + (4 + 17 * i.val + 10)), .ref (k.b + (4 + 17 * i.val + 11)), .ref (k.b + (4 + 17 * i.val + 12)), .ref (k.b + (4 + 17 * i.val + 13)), .ref (k.b + (4 + 17 * i.val + 14)), .null])), (k.b + (4 + 17 * i.val + 1), .inl (k.c 0, (8, .inl ((fun _ => 0))))), (k.b + (4 + 17 * i.val + 2), .inl (k.c 0, (8, .inl ((fun _ => 0))))), (k.b + (4 + 17 * i.val + 3), .inl (k.c 0, (8, .inl ((fun _ => 0))))), (k.b + (4 + 17 * i.val + 4), .inl (k.c 0, (6, .inl ((fun _ => 0))))), (k.b + (4 + 17 * i.val + 5), .inl (k.c 0, (6, .inl ((fun _ => 0))))), (k.b + (4 + 17 * i.val + 6), .inl (k.c 0, (6, .inl ((fun _ => 0))))), (k.b + (4 + 17 * i.val + 7), .inl (k.c 0, (6, .inl ((fun _ => 0))))), (k.b + (4 + 17 * i.val + 8), .inl (k.c 0, (6, .inl ((fun _ => 0))))), (k.b + (4 + 17 * i.val + 9), .inl (k.c 0, (6, .inl ((fun _ => 0))))), (k.b + (4 + 17 * i.val + 10), .inl (k.c 0, (10, .inl ((fun _ => 0))))), (k.b + (4 + 17 * i.val + 11), .inl (k.c 0, (10, .inl ((fun _ => 0))))), (k.b + (4 + 17 * i.val + 12), .inl (k.c 0, (10, .inl ((fun _ => 0))))), (k.b + (4 + 17 * i.val + 13), .inl (k.c 0, (10, .inl ((fun _ => 0))))), (k.b + (4 + 17 * i.val + 14), .inl (k.c 0, (24, .inl ((fun _ => 0)))))]) clsX1 flX1_64 (Nat.le_of_ble_eq_true rfl) rfl rfl rfl _ (gx (i := 0) hp rfl) (Nat.le_of_ble_eq_true rfl) (sx (i := 0) hp rfl) dX1_init_133 ?_
  refine n_aload_n X (x := k.b + (4 + 17 * i.val)) dX1_init_136 rfl ?_
  refine n_bipush X (v := 24) dX1_init_137 rfl ?_
  refine n_newa X (atype := .int) (t0 := 0) (q := (4 + 17 * i.val + 15)) (N' := 24) (a0 := (24, .inl ((fun _ => 0)))) (ws1 := P ++ [(k.b + (4 + 17 * i.val), .inr (1, [.int 0, .int 0, .int 0, .int 0, .ref (k.b + (4 + 17 * i.val + 1)), .ref (k.b + (4 + 17 * i.val + 2)), .ref (k.b + (4 + 17 * i.val + 3)), .ref (k.b + (4 + 17 * i.val + 4)), .ref (k.b + (4 + 17 * i.val + 5)), .ref (k.b + (4 + 17 * i.val + 6)), .ref (k.b + (4 + 17 * i.val + 7)), .ref (k.b + (4 + 17 * i.val + 8)), .ref (k.b + (4 + 17 * i.val + 9)), .ref (k.b + (4 + 17 * i.val + 10)), .ref (k.b + (4 + 17 * i.val + 11)), .ref (k.b + (4 + 17 * i.val + 12)), .ref (k.b + (4 + 17 * i.val + 13)), .ref (k.b + (4 + 17 * i.val + 14)), .null])), (k.b + (4 + 17 * i.val + 1), .inl (k.c 0, (8, .inl ((fun _ => 0))))), (k.b + (4 + 17 * i.val + 2), .inl (k.c 0, (8, .inl ((fun _ => 0))))), (k.b + (4 + 17 * i.val + 3), .inl (k.c 0, (8, .inl ((fun _ => 0))))), (k.b + (4 + 17 * i.val + 4), .inl (k.c 0, (6, .inl ((fun _ => 0))))), (k.b + (4 + 17 * i.val + 5), .inl (k.c 0, (6, .inl ((fun _ => 0))))), (k.b + (4 + 17 * i.val + 6), .inl (k.c 0, (6, .inl ((fun _ => 0))))), (k.b + (4 + 17 * i.val + 7), .inl (k.c 0, (6, .inl ((fun _ => 0))))), (k.b + (4 + 17 * i.val + 8), .inl (k.c 0, (6, .inl ((fun _ => 0))))), (k.b + (4 + 17 * i.val + 9), .inl (k.c 0, (6, .inl ((fun _ => 0))))), (k.b + (4 + 17 * i.val + 10), .inl (k.c 0, (10, .inl ((fun _ => 0))))), (k.b + (4 + 17 * i.val + 11), .inl (k.c 0, (10, .inl ((fun _ => 0))))), (k.b + (4 + 17 * i.val + 12), .inl (k.c 0, (10, .inl ((fun _ => 0))))), (k.b + (4 + 17 * i.val + 13), .inl (k.c 0, (10, .inl ((fun _ => 0))))), (k.b + (4 + 17 * i.val + 14), .inl (k.c 0, (24, .inl ((fun _ => 0))))), (k.b + (4 + 17 * i.val + 15), .inl (k.c 0, (24, .inl ((fun _ => 0)))))]) rfl ac_int rfl (fun _ => rfl) (by decide) rfl (by decide) (lx hp rfl) (List.append_assoc _ _ _) (Nat.le_of_ble_eq_true rfl) (Nat.le_of_ble_eq_true rfl) dX1_init_139 ?_
  refine n_putfield X (ws1 := P ++ [(k.b + (4 + 17 * i.val), .inr (1, [.int 0, .int 0, .int 0, .int 0, .ref (k.b + (4 + 17 * i.val + 1)), .ref (k.b + (4 + 17 * i.val + 2)), .ref (k.b + (4 + 17 * i.val + 3)), .ref (k.b + (4 + 17 * i.val + 4)), .ref (k.b + (4 + 17 * i.val + 5)), .ref (k.b + (4 + 17 * i.val + 6)), .ref (k.b + (4 + 17 * i.val + 7)), .ref (k.b + (4 + 17 * i.val + 8)), .ref (k.b + (4 + 17 * i.val + 9)), .ref (k.b + (4 + 17 * i.val + 10)), .ref (k.b + (4 + 17 * i.val + 11)), .ref (k.b + (4 + 17 * i.val + 12)), .ref (k.b + (4 + 17 * i.val + 13)), .ref (k.b + (4 + 17 * i.val + 14)), .ref (k.b + (4 + 17 * i.val + 15))])), (k.b + (4 + 17 * i.val + 1), .inl (k.c 0, (8, .inl ((fun _ => 0))))), (k.b + (4 + 17 * i.val + 2), .inl (k.c 0, (8, .inl ((fun _ => 0))))), (k.b + (4 + 17 * i.val + 3), .inl (k.c 0, (8, .inl ((fun _ => 0))))), (k.b + (4 + 17 * i.val + 4), .inl (k.c 0, (6, .inl ((fun _ => 0))))), (k.b + (4 + 17 * i.val + 5), .inl (k.c 0, (6, .inl ((fun _ => 0))))), (k.b + (4 + 17 * i.val + 6), .inl (k.c 0, (6, .inl ((fun _ => 0))))), (k.b + (4 + 17 * i.val + 7), .inl (k.c 0, (6, .inl ((fun _ => 0))))), (k.b + (4 + 17 * i.val + 8), .inl (k.c 0, (6, .inl ((fun _ => 0))))), (k.b + (4 + 17 * i.val + 9), .inl (k.c 0, (6, .inl ((fun _ => 0))))), (k.b + (4 + 17 * i.val + 10), .inl (k.c 0, (10, .inl ((fun _ => 0))))), (k.b + (4 + 17 * i.val + 11), .inl (k.c 0, (10, .inl ((fun _ => 0))))), (k.b + (4 + 17 * i.val + 12), .inl (k.c 0, (10, .inl ((fun _ => 0))))), (k.b + (4 + 17 * i.val + 13), .inl (k.c 0, (10, .inl ((fun _ => 0))))), (k.b + (4 + 17 * i.val + 14), .inl (k.c 0, (24, .inl ((fun _ => 0))))), (k.b + (4 + 17 * i.val + 15), .inl (k.c 0, (24, .inl ((fun _ => 0)))))]) clsX1 flX1_67 (Nat.le_of_ble_eq_true rfl) rfl rfl rfl _ (gx (i := 0) hp rfl) (Nat.le_of_ble_eq_true rfl) (sx (i := 0) hp rfl) dX1_init_141 ?_
  exact n_return X hQ rfl (Nat.le_of_ble_eq_true rfl) (Nat.le_of_ble_eq_true rfl) dX1_init_144
def T00 : TT := ((fun _ => 0), 0)
def R00 : RR := (0, 0, 0, 0, 0, -1)
def RC00 : RC := (0, 0)
def HN00 : HN := ((fun _ => 0), (fun _ => 0), (fun _ => 0), 0, 0, 0)
def RP00 : RP := ((fun _ => 0), 0)
def wcT (k : KT) : va_W := [(k.b + (1), .inr (8, fText k T00)), (k.b + (2), .inl (k.c 2, (900, .inl (TT_bytes T00))))]
def wcR (k : KT) : va_W := [(k.b + (3), .inr (2, fReader k R00))]
def wcRc (k : KT) : va_W := [(k.b + (37), .inr (3, fRecipe k RC00))]
def wcH (k : KT) : va_W := [(k.b + (38), .inr (0, fHunt k HN00)), (k.b + (39), .inl (k.c 0, (24, .inl (HN_numbers HN00)))), (k.b + (40), .inl (k.c 0, (47, .inl (HN_froms HN00)))), (k.b + (41), .inl (k.c 0, (47, .inl (HN_sizes HN00))))]
def wcRp (k : KT) : va_W := [(k.b + (42), .inr (4, fReport k RP00)), (k.b + (43), .inl (k.c 2, (246, .inl (RP_bytes RP00))))]
set_option maxRecDepth 100000 in
set_option maxHeartbeats 4000000 in
theorem kC_X8 {k : KT} {P : va_W} (hp : P.length = 1) : CN k strs yX8_init cX8_init 1 (rmD 1 1 900) 1 900 [.ref (k.b + (1))] (P ++ [(k.b + (1), .inr (8, [.null, .int 0]))]) (P ++ wcT k) := by
  refine CN.of (by decide) rfl (Nat.le_of_ble_eq_true rfl) ?_
  intro z X hQ
  show VN k z 0 0 (P ++ [(k.b + (1), .inr (8, [.null, .int 0]))]) 0 [some (.ref (k.b + (1)))] []
  refine n_aload_n X (x := k.b + (1)) dX8_init_0 rfl ?_
  refine n_objInit X liX8_3 rfl ⟨(Nat.le_of_ble_eq_true rfl), (Nat.le_of_ble_eq_true rfl)⟩ dX8_init_1 ?_
  refine n_aload_n X (x := k.b + (1)) dX8_init_4 rfl ?_
  refine n_sipush X (v := 900) dX8_init_5 rfl ?_
  refine n_newa X (atype := .byte) (t0 := 2) (q := (2)) (N' := 900) (a0 := (900, .inl ((fun _ => 0)))) (ws1 := P ++ [(k.b + (1), .inr (8, [.null, .int 0])), (k.b + (2), .inl (k.c 2, (900, .inl ((fun _ => 0)))))]) rfl ac_byte rfl (fun _ => rfl) (by decide) rfl (by decide) (lx hp rfl) (List.append_assoc _ _ _) (Nat.le_of_ble_eq_true rfl) (Nat.le_of_ble_eq_true rfl) dX8_init_8 ?_
  refine n_putfield X (ws1 := P ++ [(k.b + (1), .inr (8, [.ref (k.b + (2)), .int 0])), (k.b + (2), .inl (k.c 2, (900, .inl ((fun _ => 0)))))]) clsX8 flX8_9 (Nat.le_of_ble_eq_true rfl) rfl rfl rfl _ (gx (i := 0) hp rfl) (Nat.le_of_ble_eq_true rfl) (sx (i := 0) hp rfl) dX8_init_10 ?_
  refine n_aload_n X (x := k.b + (1)) dX8_init_13 rfl ?_
  refine n_iconst X (v := 0) dX8_init_14 rfl ?_
  refine n_putfield X (ws1 := P ++ [(k.b + (1), .inr (8, [.ref (k.b + (2)), .int 0])), (k.b + (2), .inl (k.c 2, (900, .inl ((fun _ => 0)))))]) clsX8 flX8_15 (Nat.le_of_ble_eq_true rfl) rfl rfl rfl _ (gx (i := 0) hp rfl) (Nat.le_of_ble_eq_true rfl) (sx (i := 0) hp rfl) dX8_init_15 ?_
  exact n_return X hQ rfl (Nat.le_of_ble_eq_true rfl) (Nat.le_of_ble_eq_true rfl) dX8_init_18
set_option maxRecDepth 100000 in
set_option maxHeartbeats 4000000 in
theorem kC_X2 {k : KT} {P : va_W} (hp : P.length = 3) : CN k strs yX2_init cX2_init 2 (rmD 1 0 0) 0 0 [.ref (k.b + (3)), .ref (k.b + (1))] (P ++ [(k.b + (3), .inr (2, [.null, .int 0, .int 0, .int 0, .int 0, .int 0, .int 0]))]) (P ++ wcR k) := by
  refine CN.of (by decide) rfl (Nat.le_of_ble_eq_true rfl) ?_
  intro z X hQ
  show VN k z 0 0 (P ++ [(k.b + (3), .inr (2, [.null, .int 0, .int 0, .int 0, .int 0, .int 0, .int 0]))]) 0 [some (.ref (k.b + (3))), some (.ref (k.b + (1)))] []
  refine n_aload_n X (x := k.b + (3)) dX2_init_0 rfl ?_
  refine n_objInit X liX2_3 rfl ⟨(Nat.le_of_ble_eq_true rfl), (Nat.le_of_ble_eq_true rfl)⟩ dX2_init_1 ?_
  refine n_aload_n X (x := k.b + (3)) dX2_init_4 rfl ?_
  refine n_iconst X (v := 0) dX2_init_5 rfl ?_
  refine n_putfield X (ws1 := P ++ [(k.b + (3), .inr (2, [.null, .int 0, .int 0, .int 0, .int 0, .int 0, .int 0]))]) clsX2 flX2_11 (Nat.le_of_ble_eq_true rfl) rfl rfl rfl _ (gx (i := 0) hp rfl) (Nat.le_of_ble_eq_true rfl) (sx (i := 0) hp rfl) dX2_init_6 ?_
  refine n_aload_n X (x := k.b + (3)) dX2_init_9 rfl ?_
  refine n_iconst X (v := 0) dX2_init_10 rfl ?_
  refine n_putfield X (ws1 := P ++ [(k.b + (3), .inr (2, [.null, .int 0, .int 0, .int 0, .int 0, .int 0, .int 0]))]) clsX2 flX2_15 (Nat.le_of_ble_eq_true rfl) rfl rfl rfl _ (gx (i := 0) hp rfl) (Nat.le_of_ble_eq_true rfl) (sx (i := 0) hp rfl) dX2_init_11 ?_
  refine n_aload_n X (x := k.b + (3)) dX2_init_14 rfl ?_
  refine n_iconst X (v := 0) dX2_init_15 rfl ?_
  refine n_putfield X (ws1 := P ++ [(k.b + (3), .inr (2, [.null, .int 0, .int 0, .int 0, .int 0, .int 0, .int 0]))]) clsX2 flX2_18 (Nat.le_of_ble_eq_true rfl) rfl rfl rfl _ (gx (i := 0) hp rfl) (Nat.le_of_ble_eq_true rfl) (sx (i := 0) hp rfl) dX2_init_16 ?_
  refine n_aload_n X (x := k.b + (3)) dX2_init_19 rfl ?_
  refine n_iconst X (v := 0) dX2_init_20 rfl ?_
  refine n_putfield X (ws1 := P ++ [(k.b + (3), .inr (2, [.null, .int 0, .int 0, .int 0, .int 0, .int 0, .int 0]))]) clsX2 flX2_21 (Nat.le_of_ble_eq_true rfl) rfl rfl rfl _ (gx (i := 0) hp rfl) (Nat.le_of_ble_eq_true rfl) (sx (i := 0) hp rfl) dX2_init_21 ?_
  refine n_aload_n X (x := k.b + (3)) dX2_init_24 rfl ?_
  refine n_iconst X (v := 0) dX2_init_25 rfl ?_
  refine n_putfield X (ws1 := P ++ [(k.b + (3), .inr (2, [.null, .int 0, .int 0, .int 0, .int 0, .int 0, .int 0]))]) clsX2 flX2_24 (Nat.le_of_ble_eq_true rfl) rfl rfl rfl _ (gx (i := 0) hp rfl) (Nat.le_of_ble_eq_true rfl) (sx (i := 0) hp rfl) dX2_init_26 ?_
  refine n_aload_n X (x := k.b + (3)) dX2_init_29 rfl ?_
  refine n_iconst X (v := (-1)) dX2_init_30 rfl ?_
  refine n_putfield X (ws1 := P ++ [(k.b + (3), .inr (2, [.null, .int 0, .int 0, .int 0, .int 0, .int 0, .int (-1)]))]) clsX2 flX2_27 (Nat.le_of_ble_eq_true rfl) rfl rfl rfl _ (gx (i := 0) hp rfl) (Nat.le_of_ble_eq_true rfl) (sx (i := 0) hp rfl) dX2_init_31 ?_
  refine n_aload_n X (x := k.b + (3)) dX2_init_34 rfl ?_
  refine n_aload_n X (x := k.b + (1)) dX2_init_35 rfl ?_
  refine n_putfield X (ws1 := P ++ [(k.b + (3), .inr (2, [.ref (k.b + (1)), .int 0, .int 0, .int 0, .int 0, .int 0, .int (-1)]))]) clsX2 flX2_30 (Nat.le_of_ble_eq_true rfl) rfl rfl rfl _ (gx (i := 0) hp rfl) (Nat.le_of_ble_eq_true rfl) (sx (i := 0) hp rfl) dX2_init_36 ?_
  exact n_return X hQ rfl (Nat.le_of_ble_eq_true rfl) (Nat.le_of_ble_eq_true rfl) dX2_init_39
set_option maxRecDepth 100000 in
set_option maxHeartbeats 4000000 in
theorem kC_X3 {k : KT} {P : va_W} (hp : P.length = 37) : CN k strs yX3_init cX3_init 3 (rmD 1 0 0) 0 0 [.ref (k.b + (37)), .ref (k.b + (3)), .ref (k.b + (4))] (P ++ [(k.b + (37), .inr (3, [.null, .null, .int 0, .int 0]))]) (P ++ wcRc k) := by
  refine CN.of (by decide) rfl (Nat.le_of_ble_eq_true rfl) ?_
  intro z X hQ
  show VN k z 0 0 (P ++ [(k.b + (37), .inr (3, [.null, .null, .int 0, .int 0]))]) 0 [some (.ref (k.b + (37))), some (.ref (k.b + (3))), some (.ref (k.b + (4)))] []
  refine n_aload_n X (x := k.b + (37)) dX3_init_0 rfl ?_
  refine n_objInit X liX3_3 rfl ⟨(Nat.le_of_ble_eq_true rfl), (Nat.le_of_ble_eq_true rfl)⟩ dX3_init_1 ?_
  refine n_aload_n X (x := k.b + (37)) dX3_init_4 rfl ?_
  refine n_iconst X (v := 0) dX3_init_5 rfl ?_
  refine n_putfield X (ws1 := P ++ [(k.b + (37), .inr (3, [.null, .null, .int 0, .int 0]))]) clsX3 flX3_9 (Nat.le_of_ble_eq_true rfl) rfl rfl rfl _ (gx (i := 0) hp rfl) (Nat.le_of_ble_eq_true rfl) (sx (i := 0) hp rfl) dX3_init_6 ?_
  refine n_aload_n X (x := k.b + (37)) dX3_init_9 rfl ?_
  refine n_iconst X (v := 0) dX3_init_10 rfl ?_
  refine n_putfield X (ws1 := P ++ [(k.b + (37), .inr (3, [.null, .null, .int 0, .int 0]))]) clsX3 flX3_15 (Nat.le_of_ble_eq_true rfl) rfl rfl rfl _ (gx (i := 0) hp rfl) (Nat.le_of_ble_eq_true rfl) (sx (i := 0) hp rfl) dX3_init_11 ?_
  refine n_aload_n X (x := k.b + (37)) dX3_init_14 rfl ?_
  refine n_aload_n X (x := k.b + (3)) dX3_init_15 rfl ?_
  refine n_putfield X (ws1 := P ++ [(k.b + (37), .inr (3, [.ref (k.b + (3)), .null, .int 0, .int 0]))]) clsX3 flX3_18 (Nat.le_of_ble_eq_true rfl) rfl rfl rfl _ (gx (i := 0) hp rfl) (Nat.le_of_ble_eq_true rfl) (sx (i := 0) hp rfl) dX3_init_16 ?_
  refine n_aload_n X (x := k.b + (37)) dX3_init_19 rfl ?_
  refine n_aload_n X (x := k.b + (4)) dX3_init_20 rfl ?_
  refine n_putfield X (ws1 := P ++ [(k.b + (37), .inr (3, [.ref (k.b + (3)), .ref (k.b + (4)), .int 0, .int 0]))]) clsX3 flX3_22 (Nat.le_of_ble_eq_true rfl) rfl rfl rfl _ (gx (i := 0) hp rfl) (Nat.le_of_ble_eq_true rfl) (sx (i := 0) hp rfl) dX3_init_21 ?_
  exact n_return X hQ rfl (Nat.le_of_ble_eq_true rfl) (Nat.le_of_ble_eq_true rfl) dX3_init_24
set_option maxRecDepth 100000 in
set_option maxHeartbeats 4000000 in
theorem kC_X0 {k : KT} {P : va_W} (hp : P.length = 38) : CN k strs yX0_init cX0_init 1 (rmD 1 3 118) 3 118 [.ref (k.b + (38))] (P ++ [(k.b + (38), .inr (0, [.null, .null, .null, .int 0, .int 0, .int 0]))]) (P ++ wcH k) := by
  refine CN.of (by decide) rfl (Nat.le_of_ble_eq_true rfl) ?_
  intro z X hQ
  show VN k z 0 0 (P ++ [(k.b + (38), .inr (0, [.null, .null, .null, .int 0, .int 0, .int 0]))]) 0 [some (.ref (k.b + (38)))] []
  refine n_aload_n X (x := k.b + (38)) dX0_init_0 rfl ?_
  refine n_objInit X liX0_3 rfl ⟨(Nat.le_of_ble_eq_true rfl), (Nat.le_of_ble_eq_true rfl)⟩ dX0_init_1 ?_
  refine n_aload_n X (x := k.b + (38)) dX0_init_4 rfl ?_
  refine n_bipush X (v := 24) dX0_init_5 rfl ?_
  refine n_newa X (atype := .int) (t0 := 0) (q := (39)) (N' := 24) (a0 := (24, .inl ((fun _ => 0)))) (ws1 := P ++ [(k.b + (38), .inr (0, [.null, .null, .null, .int 0, .int 0, .int 0])), (k.b + (39), .inl (k.c 0, (24, .inl ((fun _ => 0)))))]) rfl ac_int rfl (fun _ => rfl) (by decide) rfl (by decide) (lx hp rfl) (List.append_assoc _ _ _) (Nat.le_of_ble_eq_true rfl) (Nat.le_of_ble_eq_true rfl) dX0_init_7 ?_
  refine n_putfield X (ws1 := P ++ [(k.b + (38), .inr (0, [.ref (k.b + (39)), .null, .null, .int 0, .int 0, .int 0])), (k.b + (39), .inl (k.c 0, (24, .inl ((fun _ => 0)))))]) clsX0 flX0_9 (Nat.le_of_ble_eq_true rfl) rfl rfl rfl _ (gx (i := 0) hp rfl) (Nat.le_of_ble_eq_true rfl) (sx (i := 0) hp rfl) dX0_init_9 ?_
  refine n_aload_n X (x := k.b + (38)) dX0_init_12 rfl ?_
  refine n_bipush X (v := 47) dX0_init_13 rfl ?_
  refine n_newa X (atype := .int) (t0 := 0) (q := (40)) (N' := 47) (a0 := (47, .inl ((fun _ => 0)))) (ws1 := P ++ [(k.b + (38), .inr (0, [.ref (k.b + (39)), .null, .null, .int 0, .int 0, .int 0])), (k.b + (39), .inl (k.c 0, (24, .inl ((fun _ => 0))))), (k.b + (40), .inl (k.c 0, (47, .inl ((fun _ => 0)))))]) rfl ac_int rfl (fun _ => rfl) (by decide) rfl (by decide) (lx hp rfl) (List.append_assoc _ _ _) (Nat.le_of_ble_eq_true rfl) (Nat.le_of_ble_eq_true rfl) dX0_init_15 ?_
  refine n_putfield X (ws1 := P ++ [(k.b + (38), .inr (0, [.ref (k.b + (39)), .ref (k.b + (40)), .null, .int 0, .int 0, .int 0])), (k.b + (39), .inl (k.c 0, (24, .inl ((fun _ => 0))))), (k.b + (40), .inl (k.c 0, (47, .inl ((fun _ => 0)))))]) clsX0 flX0_15 (Nat.le_of_ble_eq_true rfl) rfl rfl rfl _ (gx (i := 0) hp rfl) (Nat.le_of_ble_eq_true rfl) (sx (i := 0) hp rfl) dX0_init_17 ?_
  refine n_aload_n X (x := k.b + (38)) dX0_init_20 rfl ?_
  refine n_bipush X (v := 47) dX0_init_21 rfl ?_
  refine n_newa X (atype := .int) (t0 := 0) (q := (41)) (N' := 47) (a0 := (47, .inl ((fun _ => 0)))) (ws1 := P ++ [(k.b + (38), .inr (0, [.ref (k.b + (39)), .ref (k.b + (40)), .null, .int 0, .int 0, .int 0])), (k.b + (39), .inl (k.c 0, (24, .inl ((fun _ => 0))))), (k.b + (40), .inl (k.c 0, (47, .inl ((fun _ => 0))))), (k.b + (41), .inl (k.c 0, (47, .inl ((fun _ => 0)))))]) rfl ac_int rfl (fun _ => rfl) (by decide) rfl (by decide) (lx hp rfl) (List.append_assoc _ _ _) (Nat.le_of_ble_eq_true rfl) (Nat.le_of_ble_eq_true rfl) dX0_init_23 ?_
  refine n_putfield X (ws1 := P ++ [(k.b + (38), .inr (0, [.ref (k.b + (39)), .ref (k.b + (40)), .ref (k.b + (41)), .int 0, .int 0, .int 0])), (k.b + (39), .inl (k.c 0, (24, .inl ((fun _ => 0))))), (k.b + (40), .inl (k.c 0, (47, .inl ((fun _ => 0))))), (k.b + (41), .inl (k.c 0, (47, .inl ((fun _ => 0)))))]) clsX0 flX0_18 (Nat.le_of_ble_eq_true rfl) rfl rfl rfl _ (gx (i := 0) hp rfl) (Nat.le_of_ble_eq_true rfl) (sx (i := 0) hp rfl) dX0_init_25 ?_
  refine n_aload_n X (x := k.b + (38)) dX0_init_28 rfl ?_
  refine n_iconst X (v := 0) dX0_init_29 rfl ?_
  refine n_putfield X (ws1 := P ++ [(k.b + (38), .inr (0, [.ref (k.b + (39)), .ref (k.b + (40)), .ref (k.b + (41)), .int 0, .int 0, .int 0])), (k.b + (39), .inl (k.c 0, (24, .inl ((fun _ => 0))))), (k.b + (40), .inl (k.c 0, (47, .inl ((fun _ => 0))))), (k.b + (41), .inl (k.c 0, (47, .inl ((fun _ => 0)))))]) clsX0 flX0_21 (Nat.le_of_ble_eq_true rfl) rfl rfl rfl _ (gx (i := 0) hp rfl) (Nat.le_of_ble_eq_true rfl) (sx (i := 0) hp rfl) dX0_init_30 ?_
  refine n_aload_n X (x := k.b + (38)) dX0_init_33 rfl ?_
  refine n_iconst X (v := 0) dX0_init_34 rfl ?_
  refine n_putfield X (ws1 := P ++ [(k.b + (38), .inr (0, [.ref (k.b + (39)), .ref (k.b + (40)), .ref (k.b + (41)), .int 0, .int 0, .int 0])), (k.b + (39), .inl (k.c 0, (24, .inl ((fun _ => 0))))), (k.b + (40), .inl (k.c 0, (47, .inl ((fun _ => 0))))), (k.b + (41), .inl (k.c 0, (47, .inl ((fun _ => 0)))))]) clsX0 flX0_25 (Nat.le_of_ble_eq_true rfl) rfl rfl rfl _ (gx (i := 0) hp rfl) (Nat.le_of_ble_eq_true rfl) (sx (i := 0) hp rfl) dX0_init_35 ?_
  refine n_aload_n X (x := k.b + (38)) dX0_init_38 rfl ?_
  refine n_iconst X (v := 0) dX0_init_39 rfl ?_
  refine n_putfield X (ws1 := P ++ [(k.b + (38), .inr (0, [.ref (k.b + (39)), .ref (k.b + (40)), .ref (k.b + (41)), .int 0, .int 0, .int 0])), (k.b + (39), .inl (k.c 0, (24, .inl ((fun _ => 0))))), (k.b + (40), .inl (k.c 0, (47, .inl ((fun _ => 0))))), (k.b + (41), .inl (k.c 0, (47, .inl ((fun _ => 0)))))]) clsX0 flX0_28 (Nat.le_of_ble_eq_true rfl) rfl rfl rfl _ (gx (i := 0) hp rfl) (Nat.le_of_ble_eq_true rfl) (sx (i := 0) hp rfl) dX0_init_40 ?_
  exact n_return X hQ rfl (Nat.le_of_ble_eq_true rfl) (Nat.le_of_ble_eq_true rfl) dX0_init_43
set_option maxRecDepth 100000 in
set_option maxHeartbeats 4000000 in
theorem kC_X4 {k : KT} {P : va_W} (hp : P.length = 42) : CN k strs yX4_init cX4_init 1 (rmD 1 1 246) 1 246 [.ref (k.b + (42))] (P ++ [(k.b + (42), .inr (4, [.null, .int 0]))]) (P ++ wcRp k) := by
  refine CN.of (by decide) rfl (Nat.le_of_ble_eq_true rfl) ?_
  intro z X hQ
  show VN k z 0 0 (P ++ [(k.b + (42), .inr (4, [.null, .int 0]))]) 0 [some (.ref (k.b + (42)))] []
  refine n_aload_n X (x := k.b + (42)) dX4_init_0 rfl ?_
  refine n_objInit X liX4_1 rfl ⟨(Nat.le_of_ble_eq_true rfl), (Nat.le_of_ble_eq_true rfl)⟩ dX4_init_1 ?_
  refine n_aload_n X (x := k.b + (42)) dX4_init_4 rfl ?_
  refine n_sipush X (v := 246) dX4_init_5 rfl ?_
  refine n_newa X (atype := .byte) (t0 := 2) (q := (43)) (N' := 246) (a0 := (246, .inl ((fun _ => 0)))) (ws1 := P ++ [(k.b + (42), .inr (4, [.null, .int 0])), (k.b + (43), .inl (k.c 2, (246, .inl ((fun _ => 0)))))]) rfl ac_byte rfl (fun _ => rfl) (by decide) rfl (by decide) (lx hp rfl) (List.append_assoc _ _ _) (Nat.le_of_ble_eq_true rfl) (Nat.le_of_ble_eq_true rfl) dX4_init_8 ?_
  refine n_putfield X (ws1 := P ++ [(k.b + (42), .inr (4, [.ref (k.b + (43)), .int 0])), (k.b + (43), .inl (k.c 2, (246, .inl ((fun _ => 0)))))]) clsX4 flX4_9 (Nat.le_of_ble_eq_true rfl) rfl rfl rfl _ (gx (i := 0) hp rfl) (Nat.le_of_ble_eq_true rfl) (sx (i := 0) hp rfl) dX4_init_10 ?_
  refine n_aload_n X (x := k.b + (42)) dX4_init_13 rfl ?_
  refine n_iconst X (v := 0) dX4_init_14 rfl ?_
  refine n_putfield X (ws1 := P ++ [(k.b + (42), .inr (4, [.ref (k.b + (43)), .int 0])), (k.b + (43), .inl (k.c 2, (246, .inl ((fun _ => 0)))))]) clsX4 flX4_13 (Nat.le_of_ble_eq_true rfl) rfl rfl rfl _ (gx (i := 0) hp rfl) (Nat.le_of_ble_eq_true rfl) (sx (i := 0) hp rfl) dX4_init_15 ?_
  exact n_return X hQ rfl (Nat.le_of_ble_eq_true rfl) (Nat.le_of_ble_eq_true rfl) dX4_init_18
def wcP (k : KT) : va_W := [(k.b + (20), .inr (6, fParser k))] ++ cLay k 1 L00
def wcQ (k : KT) (f : Nat → Option Nat) : va_W := [(k.b + (44), .inl (k.c 4, (10, .inr (.inr (.inr (.inr (f)))))))]
set_option maxRecDepth 100000 in
set_option maxHeartbeats 4000000 in
theorem kC_X6 {k : KT} {P : va_W} (hp : P.length = 20) : CN k strs yX6_init cX6_init 2 (rmD 2 16 167) 16 167 [.ref (k.b + (20)), .ref (k.b + (3))] (P ++ [(k.b + (20), .inr (6, [.null, .null]))]) (P ++ wcP k) := by
  refine CN.of (by decide) rfl (Nat.le_of_ble_eq_true rfl) ?_
  intro z X hQ
  show VN k z 0 0 (P ++ [(k.b + (20), .inr (6, [.null, .null]))]) 0 [some (.ref (k.b + (20))), some (.ref (k.b + (3)))] []
  refine n_aload_n X (x := k.b + (20)) dX6_init_0 rfl ?_
  refine n_objInit X liX6_3 rfl ⟨(Nat.le_of_ble_eq_true rfl), (Nat.le_of_ble_eq_true rfl)⟩ dX6_init_1 ?_
  refine n_aload_n X (x := k.b + (20)) dX6_init_4 rfl ?_
  refine n_new X (q := (21)) (fs := dfX1) (ws1 := P ++ [(k.b + (20), .inr (6, [.null, .null])), (k.b + (21), .inr (1, [.int 0, .int 0, .int 0, .int 0, .null, .null, .null, .null, .null, .null, .null, .null, .null, .null, .null, .null, .null, .null, .null]))]) clsX1 nwX6_9 dfX1_ok (lx hp rfl) (List.append_assoc _ _ _) (Nat.le_of_ble_eq_true rfl) (Nat.le_of_ble_eq_true rfl) dX6_init_5 ?_
  refine n_dup X dX6_init_8 rfl ?_
  refine VN.foc (ws' := (P ++ [(k.b + (20), .inr (6, [.null, .null]))]) ++ [(k.b + (21), .inr (1, [.int 0, .int 0, .int 0, .int 0, .null, .null, .null, .null, .null, .null, .null, .null, .null, .null, .null, .null, .null, .null, .null]))]) (apA _ _ _ _ rfl) ?_
  refine n_callIN X [] [.ref (k.b + (21)), .ref (k.b + (20))] (kC_X1 (i := 1) (P := (P ++ [(k.b + (20), .inr (6, [.null, .null]))])) (lxx (p := 20) (i := 1) hp rfl rfl)) liX6_11 (rle (by decide) (Nat.le_of_ble_eq_true rfl)) rfl rfl (Nat.le_of_ble_eq_true rfl) (Nat.le_of_ble_eq_true rfl) rfl rfl (Nat.le_of_ble_eq_true rfl) rfl dX6_init_9 ?_
  refine VN.foc (ws' := P ++ [(k.b + (20), .inr (6, [.null, .null])), (k.b + (21), .inr (1, [.int 0, .int 0, .int 0, .int 0, .ref (k.b + (22)), .ref (k.b + (23)), .ref (k.b + (24)), .ref (k.b + (25)), .ref (k.b + (26)), .ref (k.b + (27)), .ref (k.b + (28)), .ref (k.b + (29)), .ref (k.b + (30)), .ref (k.b + (31)), .ref (k.b + (32)), .ref (k.b + (33)), .ref (k.b + (34)), .ref (k.b + (35)), .ref (k.b + (36))])), (k.b + (22), .inl (k.c 0, (8, .inl ((fun _ => 0))))), (k.b + (23), .inl (k.c 0, (8, .inl ((fun _ => 0))))), (k.b + (24), .inl (k.c 0, (8, .inl ((fun _ => 0))))), (k.b + (25), .inl (k.c 0, (6, .inl ((fun _ => 0))))), (k.b + (26), .inl (k.c 0, (6, .inl ((fun _ => 0))))), (k.b + (27), .inl (k.c 0, (6, .inl ((fun _ => 0))))), (k.b + (28), .inl (k.c 0, (6, .inl ((fun _ => 0))))), (k.b + (29), .inl (k.c 0, (6, .inl ((fun _ => 0))))), (k.b + (30), .inl (k.c 0, (6, .inl ((fun _ => 0))))), (k.b + (31), .inl (k.c 0, (10, .inl ((fun _ => 0))))), (k.b + (32), .inl (k.c 0, (10, .inl ((fun _ => 0))))), (k.b + (33), .inl (k.c 0, (10, .inl ((fun _ => 0))))), (k.b + (34), .inl (k.c 0, (10, .inl ((fun _ => 0))))), (k.b + (35), .inl (k.c 0, (24, .inl ((fun _ => 0))))), (k.b + (36), .inl (k.c 0, (24, .inl ((fun _ => 0)))))]) (apA _ _ _ _ rfl).symm ?_
  refine n_putfield X (ws1 := P ++ [(k.b + (20), .inr (6, [.null, .ref (k.b + (21))])), (k.b + (21), .inr (1, [.int 0, .int 0, .int 0, .int 0, .ref (k.b + (22)), .ref (k.b + (23)), .ref (k.b + (24)), .ref (k.b + (25)), .ref (k.b + (26)), .ref (k.b + (27)), .ref (k.b + (28)), .ref (k.b + (29)), .ref (k.b + (30)), .ref (k.b + (31)), .ref (k.b + (32)), .ref (k.b + (33)), .ref (k.b + (34)), .ref (k.b + (35)), .ref (k.b + (36))])), (k.b + (22), .inl (k.c 0, (8, .inl ((fun _ => 0))))), (k.b + (23), .inl (k.c 0, (8, .inl ((fun _ => 0))))), (k.b + (24), .inl (k.c 0, (8, .inl ((fun _ => 0))))), (k.b + (25), .inl (k.c 0, (6, .inl ((fun _ => 0))))), (k.b + (26), .inl (k.c 0, (6, .inl ((fun _ => 0))))), (k.b + (27), .inl (k.c 0, (6, .inl ((fun _ => 0))))), (k.b + (28), .inl (k.c 0, (6, .inl ((fun _ => 0))))), (k.b + (29), .inl (k.c 0, (6, .inl ((fun _ => 0))))), (k.b + (30), .inl (k.c 0, (6, .inl ((fun _ => 0))))), (k.b + (31), .inl (k.c 0, (10, .inl ((fun _ => 0))))), (k.b + (32), .inl (k.c 0, (10, .inl ((fun _ => 0))))), (k.b + (33), .inl (k.c 0, (10, .inl ((fun _ => 0))))), (k.b + (34), .inl (k.c 0, (10, .inl ((fun _ => 0))))), (k.b + (35), .inl (k.c 0, (24, .inl ((fun _ => 0))))), (k.b + (36), .inl (k.c 0, (24, .inl ((fun _ => 0)))))]) clsX6 flX6_12 (Nat.le_of_ble_eq_true rfl) rfl rfl rfl _ (gx (i := 0) hp rfl) (Nat.le_of_ble_eq_true rfl) (sx (i := 0) hp rfl) dX6_init_12 ?_
  refine n_aload_n X (x := k.b + (20)) dX6_init_15 rfl ?_
  refine n_aload_n X (x := k.b + (3)) dX6_init_16 rfl ?_
  refine n_putfield X (ws1 := P ++ [(k.b + (20), .inr (6, [.ref (k.b + (3)), .ref (k.b + (21))])), (k.b + (21), .inr (1, [.int 0, .int 0, .int 0, .int 0, .ref (k.b + (22)), .ref (k.b + (23)), .ref (k.b + (24)), .ref (k.b + (25)), .ref (k.b + (26)), .ref (k.b + (27)), .ref (k.b + (28)), .ref (k.b + (29)), .ref (k.b + (30)), .ref (k.b + (31)), .ref (k.b + (32)), .ref (k.b + (33)), .ref (k.b + (34)), .ref (k.b + (35)), .ref (k.b + (36))])), (k.b + (22), .inl (k.c 0, (8, .inl ((fun _ => 0))))), (k.b + (23), .inl (k.c 0, (8, .inl ((fun _ => 0))))), (k.b + (24), .inl (k.c 0, (8, .inl ((fun _ => 0))))), (k.b + (25), .inl (k.c 0, (6, .inl ((fun _ => 0))))), (k.b + (26), .inl (k.c 0, (6, .inl ((fun _ => 0))))), (k.b + (27), .inl (k.c 0, (6, .inl ((fun _ => 0))))), (k.b + (28), .inl (k.c 0, (6, .inl ((fun _ => 0))))), (k.b + (29), .inl (k.c 0, (6, .inl ((fun _ => 0))))), (k.b + (30), .inl (k.c 0, (6, .inl ((fun _ => 0))))), (k.b + (31), .inl (k.c 0, (10, .inl ((fun _ => 0))))), (k.b + (32), .inl (k.c 0, (10, .inl ((fun _ => 0))))), (k.b + (33), .inl (k.c 0, (10, .inl ((fun _ => 0))))), (k.b + (34), .inl (k.c 0, (10, .inl ((fun _ => 0))))), (k.b + (35), .inl (k.c 0, (24, .inl ((fun _ => 0))))), (k.b + (36), .inl (k.c 0, (24, .inl ((fun _ => 0)))))]) clsX6 flX6_18 (Nat.le_of_ble_eq_true rfl) rfl rfl rfl _ (gx (i := 0) hp rfl) (Nat.le_of_ble_eq_true rfl) (sx (i := 0) hp rfl) dX6_init_17 ?_
  exact n_return X hQ rfl (Nat.le_of_ble_eq_true rfl) (Nat.le_of_ble_eq_true rfl) dX6_init_20
