/-! ===== the walk in this claim's own words: one world for everything that lives ===== -/
def bigw : List Cond := lw_tbl.filter goodWord
theorem mem_big {w : Cond} (i : Nat) (h : lw_tbl[i]? = some w) (g : goodWord w = true) : w ∈ bigw := List.mem_filter.mpr ⟨List.mem_of_getElem? h, g⟩
theorem big_good : GoodIn bigw bigw := fun w h => ⟨h, good_of_word (List.mem_filter.mp h).2⟩
def clS : List vw_C := [(RX0, TX0, 6), (RX1, TX1, 19), (RX2, TX2, 7), (RX3, TX3, 4), (RX4, TX4, 2), (RX5, TX5, 13), (RX6, TX6, 2), (RX7, TX7, 4), (RX8, TX8, 2), (RX9, TX9, 14)]
/-- launch; base; the tables' places; the classes of arrays; the strings' cells and their bytes' -/
abbrev KT : Type := Launch × Nat × va_G × (Nat → ClassId) × (Nat → Nat) × (Nat → Nat)
abbrev KT.l (k : KT) : Launch := k.1
abbrev KT.b (k : KT) : Nat := k.2.1
abbrev KT.D (k : KT) : va_G := k.2.2.1
abbrev KT.c (k : KT) : Nat → ClassId := k.2.2.2.1
abbrev KT.sK (k : KT) : Nat → Nat := k.2.2.2.2.1
abbrev KT.sV (k : KT) : Nat → Nat := k.2.2.2.2.2
def kA (k : KT) : Nat → Prop := fun q => k.b ≤ q
def tysOf (k : KT) : List (ClassId × FieldType) := [(k.c 0, .int), (k.c 1, .long), (k.c 2, .byte), (k.c 3, .int), (k.c 4, .object RX5)]
abbrev ZT : Type := Program × Env × Room × State × MethodId × Array Value × List Frame × Method × Code × (State → Prop)
abbrev zP (z : ZT) : Program := z.1
abbrev zE (z : ZT) : Env := z.2.1
abbrev zR (z : ZT) : Room := z.2.2.1
abbrev zS (z : ZT) : State := z.2.2.2.1
abbrev zM (z : ZT) : MethodId := z.2.2.2.2.1
abbrev zA (z : ZT) : Array Value := z.2.2.2.2.2.1
abbrev zB (z : ZT) : List Frame := z.2.2.2.2.2.2.1
abbrev zH (z : ZT) : Method := z.2.2.2.2.2.2.2.1
abbrev zC (z : ZT) : Code := z.2.2.2.2.2.2.2.2.1
abbrev zQ (z : ZT) : State → Prop := z.2.2.2.2.2.2.2.2.2
abbrev ZW (k : KT) (z : ZT) (H : Heap) (L : List Loc) (n n' : Nat) (g : JFrame) : Prop := W (zP z) k.l (zE z) (zR z) (zS z) (zM z) (zA z) (zB z) (zH z) (zC z) H L n n' (zQ z) g
-- the locals by their places
def slO (s : Slot) : Option Value := match s with
  | .val v => some v
  | _ => none
def loOf (sl : List Slot) : List (Option Value) := sl.map slO
def lvH (la : Array Slot) (lo : List (Option Value)) : Prop := la.size = lo.length ∧ lv_wf la ∧ ∀ (i : Nat) (v : Value), lo[i]? = some (some v) → la[i]? = some (.val v)
def prs (lo : List (Option Value)) : List (Nat × Value) := (List.range lo.length).filterMap (fun i => match lo[i]? with
  | some (some v) => some (i, v)
  | _ => none)
theorem prs_mem {lo : List (Option Value)} {i : Nat} {v : Value} : (i, v) ∈ prs lo ↔ lo[i]? = some (some v) := by
  unfold prs
  rw [List.mem_filterMap]
  constructor
  · rintro ⟨j, hj, h⟩
    cases hl : lo[j]? with
    | none => rw [hl] at h; simp at h
    | some o =>
      cases o with
      | none => rw [hl] at h; simp at h
      | some w =>
        rw [hl] at h
        simp only [Option.some.injEq, Prod.mk.injEq] at h
        obtain ⟨rfl, rfl⟩ := h
        exact hl
  · intro h
    have hlt : i < lo.length := (List.getElem?_eq_some_iff.mp h).1
    exact ⟨i, List.mem_range.mpr hlt, by rw [h]⟩
theorem lvH.has {la : Array Slot} {lo : List (Option Value)} (h : lvH la lo) : lv_has la lo.length (prs lo) := ⟨h.1, h.2.1, fun q hq => h.2.2 q.1 q.2 (prs_mem.mp hq)⟩
theorem lvH.of {la : Array Slot} {lo : List (Option Value)} {l : List (Nat × Value)} {n : Nat} (h : lv_has la n l) (hn : lo.length = n) (hm : ∀ (i : Nat) (v : Value), lo[i]? = some (some v) → (i, v) ∈ l) : lvH la lo := ⟨h.1.trans hn.symm, h.2.1, fun i v hi => h.2.2 (i, v) (hm i v hi)⟩
theorem lvH.at {la : Array Slot} {lo : List (Option Value)} {i : Nat} {v : Value} (h : lvH la lo) (hi : lo[i]? = some (some v)) : la[i]? = some (.val v) := h.2.2 i v hi
theorem lvH.of_args {sl : List Slot} {n : Nat} {l : List (Nat × Value)} (h : lv_has sl.toArray n l) : lvH sl.toArray (loOf sl) := by
  refine ⟨by simp [loOf], h.2.1, fun i v hi => ?_⟩
  unfold loOf at hi
  rw [List.getElem?_map] at hi
  cases hs : sl[i]? with
  | none => rw [hs] at hi; simp at hi
  | some s =>
    rw [hs] at hi
    cases s with
    | val w =>
      simp [slO] at hi
      subst hi
      simpa using hs
    | _ => simp [slO] at hi
def inval (lo : List (Option Value)) (i : Nat) : List (Option Value) := match i with
  | 0 => lo
  | j + 1 => match lo[j]? with
    | some (some v) => if v.category = 2 then lo.set j none else lo
    | _ => lo
def setL (lo : List (Option Value)) (i : Nat) (v : Value) : List (Option Value) := (inval lo i).set i (some v)
def setL2 (lo : List (Option Value)) (i : Nat) (v : Value) : List (Option Value) := ((inval lo i).set i (some v)).set (i + 1) none
theorem inval_len (lo : List (Option Value)) (i : Nat) : (inval lo i).length = lo.length := by
  unfold inval
  cases i with
  | zero => rfl
  | succ j =>
    dsimp only
    split
    · split <;> simp
    · rfl
theorem inval_get {lo : List (Option Value)} {i j : Nat} {w : Value} (h : (inval lo i)[j]? = some (some w)) : lo[j]? = some (some w) ∧ ¬ (j + 1 = i ∧ w.category = 2) := by
  unfold inval at h
  cases i with
  | zero => exact ⟨h, by omega⟩
  | succ i =>
    dsimp only at h
    cases hl : lo[i]? with
    | none =>
      rw [hl] at h
      refine ⟨h, fun q => ?_⟩
      have : j = i := by omega
      subst this
      rw [hl] at h; cases h
    | some o =>
      rw [hl] at h
      cases o with
      | none =>
        refine ⟨h, fun q => ?_⟩
        have : j = i := by omega
        subst this
        dsimp only at h
        rw [hl] at h; cases h
      | some v =>
        dsimp only at h
        by_cases hv : v.category = 2
        · rw [if_pos hv] at h
          by_cases hj : j = i
          · subst hj
            have hlt : j < lo.length := (List.getElem?_eq_some_iff.mp hl).1
            rw [List.getElem?_set_self hlt] at h
            cases h
          · rw [List.getElem?_set_ne (Ne.symm hj)] at h
            exact ⟨h, fun q => hj (by omega)⟩
        · rw [if_neg hv] at h
          refine ⟨h, fun q => ?_⟩
          have : j = i := by omega
          subst this
          rw [hl] at h
          cases h
          exact hv q.2
theorem setL_len (lo : List (Option Value)) (i : Nat) (v : Value) : (setL lo i v).length = lo.length := by unfold setL; rw [List.length_set, inval_len]
theorem setL2_len (lo : List (Option Value)) (i : Nat) (v : Value) : (setL2 lo i v).length = lo.length := by unfold setL2; rw [List.length_set, List.length_set, inval_len]
theorem setL_sub {lo : List (Option Value)} {i : Nat} {v : Value} {la : Array Slot} (hi : i < lo.length) (h : lv_has la lo.length ((i, v) :: (prs lo).filter (fun q => !(q.1 == i) && !(q.1 + 1 == i && q.2.category == 2)))) : lvH la (setL lo i v) := by
  refine lvH.of h (setL_len lo i v) fun j w hj => ?_
  unfold setL at hj
  by_cases hji : j = i
  · subst hji
    rw [List.getElem?_set_self (by rw [inval_len]; exact hi)] at hj
    cases hj
    exact List.mem_cons_self
  · rw [List.getElem?_set_ne (Ne.symm hji)] at hj
    obtain ⟨h1, h2⟩ := inval_get hj
    refine List.mem_cons_of_mem _ (List.mem_filter.mpr ⟨prs_mem.mpr h1, ?_⟩)
    simp only [Bool.and_eq_true, Bool.not_eq_true', beq_eq_false_iff_ne, ne_eq, Bool.and_eq_false_iff]
    refine ⟨hji, ?_⟩
    by_cases a : j + 1 = i
    · exact Or.inr fun b => h2 ⟨a, b⟩
    · exact Or.inl a
theorem setL2_sub {lo : List (Option Value)} {i : Nat} {v : Value} {la : Array Slot} (hi : i + 1 < lo.length) (h : lv_has la lo.length ((i, v) :: (prs lo).filter (fun q => !(q.1 == i) && (!(q.1 == i + 1) && !(q.1 + 1 == i && q.2.category == 2))))) : lvH la (setL2 lo i v) := by
  refine lvH.of h (setL2_len lo i v) fun j w hj => ?_
  unfold setL2 at hj
  by_cases hj1 : j = i + 1
  · subst hj1
    rw [List.getElem?_set_self (by rw [List.length_set, inval_len]; exact hi)] at hj
    cases hj
  · rw [List.getElem?_set_ne (Ne.symm hj1)] at hj
    by_cases hji : j = i
    · subst hji
      rw [List.getElem?_set_self (by rw [inval_len]; omega)] at hj
      cases hj
      exact List.mem_cons_self
    · rw [List.getElem?_set_ne (Ne.symm hji)] at hj
      obtain ⟨h1, h2⟩ := inval_get hj
      refine List.mem_cons_of_mem _ (List.mem_filter.mpr ⟨prs_mem.mpr h1, ?_⟩)
      simp only [Bool.and_eq_true, Bool.not_eq_true', beq_eq_false_iff_ne, ne_eq, Bool.and_eq_false_iff]
      refine ⟨hji, hj1, ?_⟩
      by_cases a : j + 1 = i
      · exact Or.inr fun b => h2 ⟨a, b⟩
      · exact Or.inl a
/-- fewer known locals -/
def mskL (lo : List (Option Value)) (bs : List Bool) : List (Option Value) := (lo.zip bs).map (fun q => if q.2 then q.1 else none)
theorem lvH.msk {la : Array Slot} {lo : List (Option Value)} (h : lvH la lo) (bs : List Bool) (hb : bs.length = lo.length) : lvH la (mskL lo bs) := by
  refine ⟨by unfold mskL; simp [hb]; exact h.1, h.2.1, fun i v hi => h.2.2 i v ?_⟩
  unfold mskL at hi
  rw [List.getElem?_map] at hi
  cases hz : (lo.zip bs)[i]? with
  | none => rw [hz] at hi; cases hi
  | some q =>
    rw [hz] at hi
    have h1 := (List.getElem?_zip_eq_some.mp hz).1
    simp only [Option.map_some, Option.some.injEq] at hi
    split at hi
    · rw [h1, hi]
    · cases hi
/-- the judgement: from this place, with this world, the method comes to its end -/
def VW (k : KT) (z : ZT) (n n' : Nat) (ws : va_W) (pc : Nat) (lo : List (Option Value)) (st : List Value) : Prop :=
  ∀ (H : Heap) (L : List Loc) (la : Array Slot), va_P k.D clS ws H → va_D (kA k) ws → va_S (kA k) (zS z).heap H L → lvH la lo → ZW k z H L n n' (F0 (zM z) pc la st)
/-- a text constant: entry idx of class own is the text tx, at sK i, its bytes at sV i -/
abbrev ST : Type := String × Nat × String × List Int32
def strOk (k : KT) (i : Nat) (q : ST) (U : State) (H : Heap) : Prop := vk_R q.1 q.2.1 q.2.2.1 (k.sK i) U ∧ va_O "java/lang/String" (k.sK i) (kA k) U H ∧ va_OF "java/lang/String" "coder" "B" (.int 0) (k.sK i) (kA k) U H ∧ va_OF "java/lang/String" "value" "[B" (.ref (k.sV i)) (k.sK i) (kA k) U H ∧ va_T .byte (k.sV i) q.2.2.2.length (fun j => .int (q.2.2.2.getD j 0)) (kA k) U H
theorem strOk.call {k : KT} {i : Nat} {q : ST} {s U : State} {H H1 : Heap} (h : strOk k i q s H) (hW : s.WarmedH U.vm) (hk : ∀ a : Nat, a < H.size → ¬ kA k a → H1[a]? = H[a]?) : strOk k i q U H1 :=
  ⟨h.1.warm hW, (h.2.1.moved hW.alike).kept hk, (h.2.2.1.moved hW.alike).kept hk, (h.2.2.2.1.moved hW.alike).kept hk, (h.2.2.2.2.moved hW.alike).kept hk⟩
theorem strOk.same {k : KT} {i : Nat} {q : ST} {s U : State} {H : Heap} (h : strOk k i q s H) (hv : U.vm = s.vm) : strOk k i q U H := by
  have ha : s.vm.Alike U.vm := by rw [hv]; exact Vm.Alike.refl _
  exact ⟨vk_R.same hv h.1, h.2.1.moved ha, h.2.2.1.moved ha, h.2.2.2.1.moved ha, h.2.2.2.2.moved ha⟩
/-- what never moves: the tables, the strings, what a throw reads -/
def exN (e : Nat) : String := match e with
  | 0 => "java/lang/IllegalStateException"
  | 1 => "java/lang/IllegalArgumentException"
  | 2 => "java/lang/IndexOutOfBoundsException"
  | _ => "java/util/NoSuchElementException"
def SF (k : KT) (strs : List ST) (U : State) (H : Heap) : Prop :=
  va_K k.D clS (tysOf k) U ∧ (∀ (i : Nat) (q : ST), strs[i]? = some q → strOk k i q U H) ∧ vx_Zq Bundle.tN "UNASSIGNED_STACK" Bundle.steD (kA k) U H ∧ vx_Zq Bundle.tN "SUPPRESSED_SENTINEL" Bundle.listD (kA k) U H ∧
  (∀ (own : String) (i : Nat) (y : MethodName) (h : String), .methodLinkNest own i y h ∈ lw_tbl → va_Nw (.methodLinkNest own i y h) U) ∧ (∀ C T : String, .castable C T ∈ lw_tbl → va_Nw (.castable C T) U) ∧ (∀ y : MethodName, .declares y ∈ lw_tbl → va_Nw (.declares y) U) ∧ (∀ a b : Nat, a < 4 → b < 4 → a ≠ b → True) ∧ (k.l.stackTraces = false ∧ va_Z "java/lang/String" "COMPACT_STRINGS" "Z" (.int 1) (kA k) U H ∧ va_Zq "jdk/internal/util/Preconditions" "SIOOBE_FORMATTER" "Ljava/util/function/BiFunction;" (kA k) U H)
theorem SF.call {k : KT} {strs : List ST} {s U : State} {H H1 : Heap} (h : SF k strs s H) (hW : s.WarmedH U.vm) (hk : ∀ a : Nat, a < H.size → ¬ kA k a → H1[a]? = H[a]?) : SF k strs U H1 :=
  ⟨va_K.moved hW.alike h.1, fun i q hq => (h.2.1 i q hq).call hW hk, (h.2.2.1.moved hW.alike).kept hk, (h.2.2.2.1.moved hW.alike).kept hk, fun o i y g m => (h.2.2.2.2.1 o i y g m).warmM hW, fun C T m => (h.2.2.2.2.2.1 C T m).warmC hW, fun y m => (h.2.2.2.2.2.2.1 y m).warmD hW, fun _ _ _ _ _ => trivial, h.2.2.2.2.2.2.2.2.1, (h.2.2.2.2.2.2.2.2.2.1.moved hW.alike).kept hk, (h.2.2.2.2.2.2.2.2.2.2.moved hW.alike).kept hk⟩
theorem SF.same {k : KT} {strs : List ST} {s U : State} {H : Heap} (h : SF k strs s H) (hv : U.vm = s.vm) : SF k strs U H := by
  have ha : s.vm.Alike U.vm := by rw [hv]; exact Vm.Alike.refl _
  exact ⟨va_K.moved ha h.1, fun i q hq => (h.2.1 i q hq).same hv, h.2.2.1.moved ha, h.2.2.2.1.moved ha, fun o i y g m => (h.2.2.2.2.1 o i y g m).same rfl hv.symm, fun C T m => (h.2.2.2.2.2.1 C T m).same rfl hv.symm, fun y m => (h.2.2.2.2.2.2.1 y m).same rfl hv.symm, fun _ _ _ _ _ => trivial, h.2.2.2.2.2.2.2.2.1, h.2.2.2.2.2.2.2.2.2.1.moved ha, h.2.2.2.2.2.2.2.2.2.2.moved ha⟩
/-- where a method stands -/
def XX (k : KT) (strs : List ST) (z : ZT) (own : String) (cc : ByteArray) (nL : Nat) (ret : Option FieldType) (R0 : Room) : Prop :=
  (zP z).tables.exec = Jvm.exec ∧ (zC z).code = cc ∧ (zC z).maxLocals = nL ∧ (zH z).sig.returnType = ret ∧ zR z = R0 ∧ (zH z).locks = false ∧ (zS z).vm.findClass own = some (zM z).cls ∧ (∀ w ∈ bigw, w.before (zA z) (zS z) = true) ∧ SF k strs (zS z) (zS z).heap ∧ k.b ≤ (zS z).heap.size
def PW (k : KT) (strs : List ST) (ws : va_W) (U : State) : Prop := va_P k.D clS ws U.heap ∧ va_D (kA k) ws ∧ SF k strs U U.heap ∧ k.b ≤ U.heap.size
def Qof (k : KT) (o : Option Value) (ws : va_W) : Array Value → State → Outcome → State → Prop := fun _ st oc t => oc = .returned o ∧ va_P k.D clS ws t.heap ∧ va_D (kA k) ws ∧ va_F (kA k) st t
/-- THE CONTRACT of a method that returns o, from the world ws to the world ws' -/
def CT (k : KT) (strs : List ST) (y : MethodName) (cc : ByteArray) (nL : Nat) (ret : Option FieldType) (R0 : Room) (mc ms : Nat) (args : List Value) (ws : va_W) (o : Option Value) (ws' : va_W) : Prop :=
  Met k.l y (.code y cc nL ret :: bigw) R0 (va_Pc args (PW k strs ws)) (Qof k o ws') mc ms (kA k)
theorem PW.blind {k : KT} {strs : List ST} {ws : va_W} {args : List Value} : FrameBlind (va_Pc args (PW k strs ws)) := by
  intro a U g mk h
  obtain ⟨h1, h2, h3, h4, h5⟩ := h
  exact ⟨h1, h2, h3, h4.same rfl, h5⟩
theorem CT.of {k : KT} {strs : List ST} {y : MethodName} {cc : ByteArray} {nL : Nat} {ret : Option FieldType} {R0 : Room} {mc ms : Nat} {args : List Value} {ws ws' : va_W} {o : Option Value} (hy : plainName y.cls = true) (hn : (lg_sl args).length ≤ nL)
    (body : ∀ z : ZT, XX k strs z y.cls cc nL ret R0 → zQ z = MQ (zB z) (Qof k o ws') (zA z) (zS z) mc ms (kA k) → VW k z 0 0 ws 0 (loOf (lg_sl args ++ List.replicate (nL - (lg_sl args).length) Slot.unset)) []) : CT k strs y cc nL ret R0 mc ms args ws o ws' := by
  refine Met.ofW (cc := cc) (maxL := nL) (ret := ret) hy rfl ?_
  intro p e s m as below meth c s₁ B hml hv
  obtain ⟨rfl, hP, hD, hF, hb0⟩ := hv
  have hts : ∀ w ∈ bigw, w.before args.toArray s = true := fun w hw => atoms_spec (ws := .code y cc nL ret :: bigw) B.pre w (List.mem_cons_of_mem _ hw)
  have K := body (p, e, R0, s, m, args.toArray, below, meth, c, MQ below (Qof k o ws') args.toArray s mc ms (kA k)) ⟨B.exec, B.bytes, hml, B.returns, rfl, B.notSynchronized, findClass_of_methodNamed B.named, hts, hF, hb0⟩ rfl
  rw [lg_entry_eq]
  exact K s.heap [] _ hP hD va_S.rf (lvH.of_args (lv_entry args hn))
section ROWS
variable {k : KT} {strs : List ST} {z : ZT} {own : String} {cc : ByteArray} {nL : Nat} {ret : Option FieldType} {R0 : Room} {n n' pc pc' : Nat} {ws : va_W} {lo : List (Option Value)} {st : List Value}
abbrev DEC (cc : ByteArray) (pc len pc' : Nat) (i : Instr) : Prop := decode cc pc = .ok (i, len) ∧ pc' = pc + len
theorem XX.A (X : XX k strs z own cc nL ret R0) : ∀ q, (zS z).heap.size ≤ q → kA k q := fun _ h => Nat.le_trans X.2.2.2.2.2.2.2.2.2 h
theorem XX.ml (X : XX k strs z own cc nL ret R0) : (zC z).maxLocals = nL := X.2.2.1
theorem XX.own1 (X : XX k strs z own cc nL ret R0) : (zS z).vm.findClass own = some (zM z).cls := X.2.2.2.2.2.2.1
theorem XX.ts (X : XX k strs z own cc nL ret R0) : ∀ w ∈ bigw, w.before (zA z) (zS z) = true := X.2.2.2.2.2.2.2.1
theorem XX.F (X : XX k strs z own cc nL ret R0) : SF k strs (zS z) (zS z).heap := X.2.2.2.2.2.2.2.2.1
theorem XX.K (X : XX k strs z own cc nL ret R0) : va_K k.D clS (tysOf k) (zS z) := X.F.1
theorem XX.R (X : XX k strs z own cc nL ret R0) : zR z = R0 := X.2.2.2.2.1
theorem XX.ret1 (X : XX k strs z own cc nL ret R0) : (zH z).sig.returnType = ret := X.2.2.2.1
theorem XX.locks (X : XX k strs z own cc nL ret R0) : (zH z).locks = false := X.2.2.2.2.2.1
theorem VW.msk (bs : List Bool) (hb : bs.length = lo.length) {lo' : List (Option Value)} (h : mskL lo bs = lo') (kk : VW k z n n' ws pc lo' st) : VW k z n n' ws pc lo st := by
  subst h
  exact fun H L la hP hD hS hl => kk H L la hP hD hS (hl.msk bs hb)
theorem VW.widen {c s : Nat} (h1 : n ≤ c) (h2 : n' ≤ s) (kk : VW k z c s ws pc lo st) : VW k z n n' ws pc lo st := fun H L la hP hD hS hl => W.widen h1 h2 (kk H L la hP hD hS hl)
theorem r_iconst (X : XX k strs z own cc nL ret R0) {i : Int} {v : Int32} (d : DEC cc pc 1 pc' (.iconst i)) (hv : Int32.ofInt i = v) (kk : VW k z n n' ws pc' lo (.int v :: st)) : VW k z n n' ws pc lo (st) := by
  obtain ⟨d, rfl⟩ := d
  exact fun H L la hP hD hS hl => lv_iconst X.1 X.2.1 d hv (kk H L la hP hD hS hl)
theorem r_bipush (X : XX k strs z own cc nL ret R0) {i : Int} {v : Int32} (d : DEC cc pc 2 pc' (.bipush i)) (hv : (Int8.ofInt i).toInt32 = v) (kk : VW k z n n' ws pc' lo (.int v :: st)) : VW k z n n' ws pc lo (st) := by
  obtain ⟨d, rfl⟩ := d
  exact fun H L la hP hD hS hl => lv_bipush X.1 X.2.1 d hv (kk H L la hP hD hS hl)
theorem r_sipush (X : XX k strs z own cc nL ret R0) {i : Int} {v : Int32} (d : DEC cc pc 3 pc' (.sipush i)) (hv : (Int16.ofInt i).toInt32 = v) (kk : VW k z n n' ws pc' lo (.int v :: st)) : VW k z n n' ws pc lo (st) := by
  obtain ⟨d, rfl⟩ := d
  exact fun H L la hP hD hS hl => lv_sipush X.1 X.2.1 d hv (kk H L la hP hD hS hl)
theorem r_lconst (X : XX k strs z own cc nL ret R0) {i : Fin 2} {v : Int64} (d : DEC cc pc 1 pc' (.lconst i)) (hv : Int64.ofNat (i : Nat) = v) (kk : VW k z n n' ws pc' lo (.long v :: st)) : VW k z n n' ws pc lo (st) := by
  obtain ⟨d, rfl⟩ := d
  exact fun H L la hP hD hS hl => lv_lconst X.1 X.2.1 d hv (kk H L la hP hD hS hl)
theorem r_dconst0 (X : XX k strs z own cc nL ret R0)  (d : DEC cc pc 1 pc' (.dconst 0))  (kk : VW k z n n' ws pc' lo (.double FP.dconst0 :: st)) : VW k z n n' ws pc lo (st) := by
  obtain ⟨d, rfl⟩ := d
  exact fun H L la hP hD hS hl => lv_dconst0 X.1 X.2.1 d  (kk H L la hP hD hS hl)
theorem r_iload_n (X : XX k strs z own cc nL ret R0) {i : Fin 4} {x : Int32} (d : DEC cc pc 1 pc' (.iload_n i)) (hv : lo[(i : Nat)]? = some (some (.int x))) (kk : VW k z n n' ws pc' lo (.int x :: st)) : VW k z n n' ws pc lo (st) := by
  obtain ⟨d, rfl⟩ := d
  exact fun H L la hP hD hS hl => lv_iload_n X.1 X.2.1 d rfl (hl.at hv) (kk H L la hP hD hS hl)
theorem r_iload (X : XX k strs z own cc nL ret R0) {i : Nat} {x : Int32} (d : DEC cc pc 2 pc' (.iload i)) (hv : lo[i]? = some (some (.int x))) (kk : VW k z n n' ws pc' lo (.int x :: st)) : VW k z n n' ws pc lo (st) := by
  obtain ⟨d, rfl⟩ := d
  exact fun H L la hP hD hS hl => lv_iload X.1 X.2.1 d (hl.at hv) (kk H L la hP hD hS hl)
theorem r_lload_n (X : XX k strs z own cc nL ret R0) {i : Fin 4} {x : Int64} (d : DEC cc pc 1 pc' (.lload_n i)) (hv : lo[(i : Nat)]? = some (some (.long x))) (kk : VW k z n n' ws pc' lo (.long x :: st)) : VW k z n n' ws pc lo (st) := by
  obtain ⟨d, rfl⟩ := d
  exact fun H L la hP hD hS hl => lv_lload_n X.1 X.2.1 d rfl (hl.at hv) (kk H L la hP hD hS hl)
theorem r_lload (X : XX k strs z own cc nL ret R0) {i : Nat} {x : Int64} (d : DEC cc pc 2 pc' (.lload i)) (hv : lo[i]? = some (some (.long x))) (kk : VW k z n n' ws pc' lo (.long x :: st)) : VW k z n n' ws pc lo (st) := by
  obtain ⟨d, rfl⟩ := d
  exact fun H L la hP hD hS hl => lv_lload X.1 X.2.1 d (hl.at hv) (kk H L la hP hD hS hl)
theorem r_aload_n (X : XX k strs z own cc nL ret R0) {i : Fin 4} {x : Nat} (d : DEC cc pc 1 pc' (.aload_n i)) (hv : lo[(i : Nat)]? = some (some (.ref x))) (kk : VW k z n n' ws pc' lo (.ref x :: st)) : VW k z n n' ws pc lo (st) := by
  obtain ⟨d, rfl⟩ := d
  exact fun H L la hP hD hS hl => lv_aload_n X.1 X.2.1 d rfl (hl.at hv) (kk H L la hP hD hS hl)
theorem r_aload (X : XX k strs z own cc nL ret R0) {i : Nat} {x : Nat} (d : DEC cc pc 2 pc' (.aload i)) (hv : lo[i]? = some (some (.ref x))) (kk : VW k z n n' ws pc' lo (.ref x :: st)) : VW k z n n' ws pc lo (st) := by
  obtain ⟨d, rfl⟩ := d
  exact fun H L la hP hD hS hl => lv_aload X.1 X.2.1 d (hl.at hv) (kk H L la hP hD hS hl)
theorem r_dload_n (X : XX k strs z own cc nL ret R0) {i : Fin 4} {x : UInt64} (d : DEC cc pc 1 pc' (.dload_n i)) (hv : lo[(i : Nat)]? = some (some (.double x))) (kk : VW k z n n' ws pc' lo (.double x :: st)) : VW k z n n' ws pc lo (st) := by
  obtain ⟨d, rfl⟩ := d
  exact fun H L la hP hD hS hl => lv_dload_n X.1 X.2.1 d rfl (hl.at hv) (kk H L la hP hD hS hl)
theorem r_dload (X : XX k strs z own cc nL ret R0) {i : Nat} {x : UInt64} (d : DEC cc pc 2 pc' (.dload i)) (hv : lo[i]? = some (some (.double x))) (kk : VW k z n n' ws pc' lo (.double x :: st)) : VW k z n n' ws pc lo (st) := by
  obtain ⟨d, rfl⟩ := d
  exact fun H L la hP hD hS hl => lv_dload X.1 X.2.1 d (hl.at hv) (kk H L la hP hD hS hl)
theorem r_istore_n (X : XX k strs z own cc nL ret R0) {i : Fin 4} {x : Int32} (lo' : List (Option Value)) (d : DEC cc pc 1 pc' (.istore_n i)) (hi : (i : Nat) < lo.length) (hlo : setL lo (i : Nat) (.int x) = lo') (kk : VW k z n n' ws pc' lo' st) : VW k z n n' ws pc lo (.int x :: st) := by
  obtain ⟨d, rfl⟩ := d
  subst hlo
  exact fun H L la hP hD hS hl => lv_istore_n X.1 X.2.1 d rfl hl.has hi rfl fun la' h => kk H L la' hP hD hS (setL_sub hi h)
theorem r_istore (X : XX k strs z own cc nL ret R0) {i : Nat} {x : Int32} (lo' : List (Option Value)) (d : DEC cc pc 2 pc' (.istore i)) (hi : i < lo.length) (hlo : setL lo i (.int x) = lo') (kk : VW k z n n' ws pc' lo' st) : VW k z n n' ws pc lo (.int x :: st) := by
  obtain ⟨d, rfl⟩ := d
  subst hlo
  exact fun H L la hP hD hS hl => lv_istore X.1 X.2.1 d hl.has hi rfl fun la' h => kk H L la' hP hD hS (setL_sub hi h)
theorem r_astore_n (X : XX k strs z own cc nL ret R0) {i : Fin 4} {x : Nat} (lo' : List (Option Value)) (d : DEC cc pc 1 pc' (.astore_n i)) (hi : (i : Nat) < lo.length) (hlo : setL lo (i : Nat) (.ref x) = lo') (kk : VW k z n n' ws pc' lo' st) : VW k z n n' ws pc lo (.ref x :: st) := by
  obtain ⟨d, rfl⟩ := d
  subst hlo
  exact fun H L la hP hD hS hl => lv_astore_n X.1 X.2.1 d rfl hl.has hi rfl fun la' h => kk H L la' hP hD hS (setL_sub hi h)
theorem r_astore (X : XX k strs z own cc nL ret R0) {i : Nat} {x : Nat} (lo' : List (Option Value)) (d : DEC cc pc 2 pc' (.astore i)) (hi : i < lo.length) (hlo : setL lo i (.ref x) = lo') (kk : VW k z n n' ws pc' lo' st) : VW k z n n' ws pc lo (.ref x :: st) := by
  obtain ⟨d, rfl⟩ := d
  subst hlo
  exact fun H L la hP hD hS hl => lv_astore X.1 X.2.1 d hl.has hi rfl fun la' h => kk H L la' hP hD hS (setL_sub hi h)
theorem r_lstore_n (X : XX k strs z own cc nL ret R0) {i : Fin 4} {x : Int64} (lo' : List (Option Value)) (d : DEC cc pc 1 pc' (.lstore_n i)) (hi : (i : Nat) + 1 < lo.length) (hlo : setL2 lo (i : Nat) (.long x) = lo') (kk : VW k z n n' ws pc' lo' st) : VW k z n n' ws pc lo (.long x :: st) := by
  obtain ⟨d, rfl⟩ := d
  subst hlo
  exact fun H L la hP hD hS hl => lv_lstore_n X.1 X.2.1 d rfl hl.has hi rfl fun la' h => kk H L la' hP hD hS (setL2_sub hi h)
theorem r_lstore (X : XX k strs z own cc nL ret R0) {i : Nat} {x : Int64} (lo' : List (Option Value)) (d : DEC cc pc 2 pc' (.lstore i)) (hi : i + 1 < lo.length) (hlo : setL2 lo i (.long x) = lo') (kk : VW k z n n' ws pc' lo' st) : VW k z n n' ws pc lo (.long x :: st) := by
  obtain ⟨d, rfl⟩ := d
  subst hlo
  exact fun H L la hP hD hS hl => lv_lstore X.1 X.2.1 d hl.has hi rfl fun la' h => kk H L la' hP hD hS (setL2_sub hi h)
theorem r_dstore_n (X : XX k strs z own cc nL ret R0) {i : Fin 4} {x : UInt64} (lo' : List (Option Value)) (d : DEC cc pc 1 pc' (.dstore_n i)) (hi : (i : Nat) + 1 < lo.length) (hlo : setL2 lo (i : Nat) (.double x) = lo') (kk : VW k z n n' ws pc' lo' st) : VW k z n n' ws pc lo (.double x :: st) := by
  obtain ⟨d, rfl⟩ := d
  subst hlo
  exact fun H L la hP hD hS hl => lv_dstore_n X.1 X.2.1 d rfl hl.has hi rfl fun la' h => kk H L la' hP hD hS (setL2_sub hi h)
theorem r_dstore (X : XX k strs z own cc nL ret R0) {i : Nat} {x : UInt64} (lo' : List (Option Value)) (d : DEC cc pc 2 pc' (.dstore i)) (hi : i + 1 < lo.length) (hlo : setL2 lo i (.double x) = lo') (kk : VW k z n n' ws pc' lo' st) : VW k z n n' ws pc lo (.double x :: st) := by
  obtain ⟨d, rfl⟩ := d
  subst hlo
  exact fun H L la hP hD hS hl => lv_dstore X.1 X.2.1 d hl.has hi rfl fun la' h => kk H L la' hP hD hS (setL2_sub hi h)
theorem r_iinc (X : XX k strs z own cc nL ret R0) {i : Nat} {c : Int} {x v : Int32} (lo' : List (Option Value)) (d : DEC cc pc 3 pc' (.iinc i c)) (hx : lo[i]? = some (some (.int x))) (hv : x + Int32.ofInt c = v) (hlo : setL lo i (.int v) = lo') (kk : VW k z n n' ws pc' lo' st) : VW k z n n' ws pc lo st := by
  obtain ⟨d, rfl⟩ := d
  subst hlo
  have hi : i < lo.length := (List.getElem?_eq_some_iff.mp hx).1
  obtain ⟨j, hj⟩ := List.getElem?_of_mem (prs_mem.mpr hx)
  exact fun H L la hP hD hS hl => lv_iinc X.1 X.2.1 d hl.has hj hv hi rfl fun la' h => kk H L la' hP hD hS (setL_sub hi h)
theorem r_iadd (X : XX k strs z own cc nL ret R0) {x y : Int32} (d : DEC cc pc 1 pc' (.iadd))  (kk : VW k z n n' ws pc' lo (.int (x + y) :: st)) : VW k z n n' ws pc lo (.int y :: .int x :: st) := by
  obtain ⟨d, rfl⟩ := d
  exact fun H L la hP hD hS hl => lv_iadd X.1 X.2.1 d  (kk H L la hP hD hS hl)
theorem r_isub (X : XX k strs z own cc nL ret R0) {x y : Int32} (d : DEC cc pc 1 pc' (.isub))  (kk : VW k z n n' ws pc' lo (.int (x - y) :: st)) : VW k z n n' ws pc lo (.int y :: .int x :: st) := by
  obtain ⟨d, rfl⟩ := d
  exact fun H L la hP hD hS hl => lv_isub X.1 X.2.1 d  (kk H L la hP hD hS hl)
theorem r_imul (X : XX k strs z own cc nL ret R0) {x y : Int32} (d : DEC cc pc 1 pc' (.imul))  (kk : VW k z n n' ws pc' lo (.int (x * y) :: st)) : VW k z n n' ws pc lo (.int y :: .int x :: st) := by
  obtain ⟨d, rfl⟩ := d
  exact fun H L la hP hD hS hl => lv_imul X.1 X.2.1 d  (kk H L la hP hD hS hl)
theorem r_iand (X : XX k strs z own cc nL ret R0) {x y : Int32} (d : DEC cc pc 1 pc' (.iand))  (kk : VW k z n n' ws pc' lo (.int (x &&& y) :: st)) : VW k z n n' ws pc lo (.int y :: .int x :: st) := by
  obtain ⟨d, rfl⟩ := d
  exact fun H L la hP hD hS hl => lv_iand X.1 X.2.1 d  (kk H L la hP hD hS hl)
theorem r_ior (X : XX k strs z own cc nL ret R0) {x y : Int32} (d : DEC cc pc 1 pc' (.ior))  (kk : VW k z n n' ws pc' lo (.int (x ||| y) :: st)) : VW k z n n' ws pc lo (.int y :: .int x :: st) := by
  obtain ⟨d, rfl⟩ := d
  exact fun H L la hP hD hS hl => lv_ior X.1 X.2.1 d  (kk H L la hP hD hS hl)
theorem r_ixor (X : XX k strs z own cc nL ret R0) {x y : Int32} (d : DEC cc pc 1 pc' (.ixor))  (kk : VW k z n n' ws pc' lo (.int (x ^^^ y) :: st)) : VW k z n n' ws pc lo (.int y :: .int x :: st) := by
  obtain ⟨d, rfl⟩ := d
  exact fun H L la hP hD hS hl => lv_ixor X.1 X.2.1 d  (kk H L la hP hD hS hl)
theorem r_ladd (X : XX k strs z own cc nL ret R0) {x y : Int64} (d : DEC cc pc 1 pc' (.ladd))  (kk : VW k z n n' ws pc' lo (.long (x + y) :: st)) : VW k z n n' ws pc lo (.long y :: .long x :: st) := by
  obtain ⟨d, rfl⟩ := d
  exact fun H L la hP hD hS hl => lv_ladd X.1 X.2.1 d  (kk H L la hP hD hS hl)
theorem r_lsub (X : XX k strs z own cc nL ret R0) {x y : Int64} (d : DEC cc pc 1 pc' (.lsub))  (kk : VW k z n n' ws pc' lo (.long (x - y) :: st)) : VW k z n n' ws pc lo (.long y :: .long x :: st) := by
  obtain ⟨d, rfl⟩ := d
  exact fun H L la hP hD hS hl => lv_lsub X.1 X.2.1 d  (kk H L la hP hD hS hl)
theorem r_lmul (X : XX k strs z own cc nL ret R0) {x y : Int64} (d : DEC cc pc 1 pc' (.lmul))  (kk : VW k z n n' ws pc' lo (.long (x * y) :: st)) : VW k z n n' ws pc lo (.long y :: .long x :: st) := by
  obtain ⟨d, rfl⟩ := d
  exact fun H L la hP hD hS hl => lv_lmul X.1 X.2.1 d  (kk H L la hP hD hS hl)
theorem r_lneg (X : XX k strs z own cc nL ret R0) {x : Int64} (d : DEC cc pc 1 pc' (.lneg))  (kk : VW k z n n' ws pc' lo (.long (-x) :: st)) : VW k z n n' ws pc lo (.long x :: st) := by
  obtain ⟨d, rfl⟩ := d
  exact fun H L la hP hD hS hl => lv_lneg X.1 X.2.1 d  (kk H L la hP hD hS hl)
theorem r_ineg (X : XX k strs z own cc nL ret R0) {x : Int32} (d : DEC cc pc 1 pc' (.ineg))  (kk : VW k z n n' ws pc' lo (.int (-x) :: st)) : VW k z n n' ws pc lo (.int x :: st) := by
  obtain ⟨d, rfl⟩ := d
  exact fun H L la hP hD hS hl => lv_ineg X.1 X.2.1 d  (kk H L la hP hD hS hl)
theorem r_idiv (X : XX k strs z own cc nL ret R0) {x y : Int32} (d : DEC cc pc 1 pc' (.idiv)) (h : (y != 0) = true) (kk : VW k z n n' ws pc' lo (.int (x / y) :: st)) : VW k z n n' ws pc lo (.int y :: .int x :: st) := by
  obtain ⟨d, rfl⟩ := d
  exact fun H L la hP hD hS hl => lv_idiv X.1 X.2.1 d (bne_iff_ne.mp h) (kk H L la hP hD hS hl)
theorem r_irem (X : XX k strs z own cc nL ret R0) {x y : Int32} (d : DEC cc pc 1 pc' (.irem)) (h : (y != 0) = true) (kk : VW k z n n' ws pc' lo (.int (x - x / y * y) :: st)) : VW k z n n' ws pc lo (.int y :: .int x :: st) := by
  obtain ⟨d, rfl⟩ := d
  exact fun H L la hP hD hS hl => lv_irem X.1 X.2.1 d (bne_iff_ne.mp h) (kk H L la hP hD hS hl)
theorem r_ldiv (X : XX k strs z own cc nL ret R0) {x y : Int64} (d : DEC cc pc 1 pc' (.ldiv)) (h : (y != 0) = true) (kk : VW k z n n' ws pc' lo (.long (x / y) :: st)) : VW k z n n' ws pc lo (.long y :: .long x :: st) := by
  obtain ⟨d, rfl⟩ := d
  exact fun H L la hP hD hS hl => lv_ldiv X.1 X.2.1 d (bne_iff_ne.mp h) (kk H L la hP hD hS hl)
theorem r_lrem (X : XX k strs z own cc nL ret R0) {x y : Int64} (d : DEC cc pc 1 pc' (.lrem)) (h : (y != 0) = true) (kk : VW k z n n' ws pc' lo (.long (x - x / y * y) :: st)) : VW k z n n' ws pc lo (.long y :: .long x :: st) := by
  obtain ⟨d, rfl⟩ := d
  exact fun H L la hP hD hS hl => lv_lrem X.1 X.2.1 d (bne_iff_ne.mp h) (kk H L la hP hD hS hl)
theorem r_ishl (X : XX k strs z own cc nL ret R0) {x y : Int32} (d : DEC cc pc 1 pc' (.ishl))  (kk : VW k z n n' ws pc' lo (.int (x <<< (y &&& 31)) :: st)) : VW k z n n' ws pc lo (.int y :: .int x :: st) := by
  obtain ⟨d, rfl⟩ := d
  exact fun H L la hP hD hS hl => lv_ishl X.1 X.2.1 d  (kk H L la hP hD hS hl)
theorem r_ishr (X : XX k strs z own cc nL ret R0) {x y : Int32} (d : DEC cc pc 1 pc' (.ishr))  (kk : VW k z n n' ws pc' lo (.int (x >>> (y &&& 31)) :: st)) : VW k z n n' ws pc lo (.int y :: .int x :: st) := by
  obtain ⟨d, rfl⟩ := d
  exact fun H L la hP hD hS hl => lv_ishr X.1 X.2.1 d  (kk H L la hP hD hS hl)
def iushrF (x y : Int32) : Int32 := (x.toUInt32 >>> (y.toUInt32 &&& Int32.toUInt32 31)).toInt32
theorem r_iushr (X : XX k strs z own cc nL ret R0) {x y : Int32} (d : DEC cc pc 1 pc' (.iushr))  (kk : VW k z n n' ws pc' lo (.int (iushrF x y) :: st)) : VW k z n n' ws pc lo (.int y :: .int x :: st) := by
  obtain ⟨d, rfl⟩ := d
  exact fun H L la hP hD hS hl => lv_iushr X.1 X.2.1 d rfl (kk H L la hP hD hS hl)
theorem r_lshl (X : XX k strs z own cc nL ret R0) {x : Int64} {y : Int32} (d : DEC cc pc 1 pc' (.lshl))  (kk : VW k z n n' ws pc' lo (.long (x <<< (y.toInt64 &&& 63)) :: st)) : VW k z n n' ws pc lo (.int y :: .long x :: st) := by
  obtain ⟨d, rfl⟩ := d
  exact fun H L la hP hD hS hl => lv_lshl X.1 X.2.1 d rfl (kk H L la hP hD hS hl)
theorem r_i2l (X : XX k strs z own cc nL ret R0) {x : Int32} (d : DEC cc pc 1 pc' (.i2l))  (kk : VW k z n n' ws pc' lo (.long x.toInt64 :: st)) : VW k z n n' ws pc lo (.int x :: st) := by
  obtain ⟨d, rfl⟩ := d
  exact fun H L la hP hD hS hl => lv_i2l X.1 X.2.1 d rfl (kk H L la hP hD hS hl)
theorem r_l2i (X : XX k strs z own cc nL ret R0) {x : Int64} (d : DEC cc pc 1 pc' (.l2i))  (kk : VW k z n n' ws pc' lo (.int x.toInt32 :: st)) : VW k z n n' ws pc lo (.long x :: st) := by
  obtain ⟨d, rfl⟩ := d
  exact fun H L la hP hD hS hl => lv_l2i X.1 X.2.1 d rfl (kk H L la hP hD hS hl)
theorem r_i2b (X : XX k strs z own cc nL ret R0) {x : Int32} (d : DEC cc pc 1 pc' (.i2b))  (kk : VW k z n n' ws pc' lo (.int x.toInt8.toInt32 :: st)) : VW k z n n' ws pc lo (.int x :: st) := by
  obtain ⟨d, rfl⟩ := d
  exact fun H L la hP hD hS hl => lv_i2b X.1 X.2.1 d rfl (kk H L la hP hD hS hl)
theorem r_l2d (X : XX k strs z own cc nL ret R0) {x : Int64} (d : DEC cc pc 1 pc' (.l2d))  (kk : VW k z n n' ws pc' lo (.double (FP.l2d x) :: st)) : VW k z n n' ws pc lo (.long x :: st) := by
  obtain ⟨d, rfl⟩ := d
  exact fun H L la hP hD hS hl => lv_l2d X.1 X.2.1 d  (kk H L la hP hD hS hl)
theorem r_i2d (X : XX k strs z own cc nL ret R0) {x : Int32} (d : DEC cc pc 1 pc' (.i2d))  (kk : VW k z n n' ws pc' lo (.double (FP.i2d x) :: st)) : VW k z n n' ws pc lo (.int x :: st) := by
  obtain ⟨d, rfl⟩ := d
  exact fun H L la hP hD hS hl => lv_i2d X.1 X.2.1 d  (kk H L la hP hD hS hl)
theorem r_ddiv (X : XX k strs z own cc nL ret R0) {x y : UInt64} (d : DEC cc pc 1 pc' (.ddiv)) (h : vf_n64 (FP.ddiv x y)) (kk : VW k z n n' ws pc' lo (.double (FP.ddiv x y) :: st)) : VW k z n n' ws pc lo (.double y :: .double x :: st) := by
  obtain ⟨d, rfl⟩ := d
  exact fun H L la hP hD hS hl => lv_ddiv X.1 X.2.1 d h (kk H L la hP hD hS hl)
theorem r_dcmp (X : XX k strs z own cc nL ret R0) {x y : UInt64} {op : CmpOp} (d : DEC cc pc 1 pc' (.dcmp op))  (kk : VW k z n n' ws pc' lo (.int (Op.cmpValue (FP.dcmp x y) op) :: st)) : VW k z n n' ws pc lo (.double y :: .double x :: st) := by
  obtain ⟨d, rfl⟩ := d
  exact fun H L la hP hD hS hl => lv_dcmp X.1 X.2.1 d  (kk H L la hP hD hS hl)
theorem r_dup (X : XX k strs z own cc nL ret R0) {v : Value} (d : DEC cc pc 1 pc' (.dup)) (h : v.category = 1) (kk : VW k z n n' ws pc' lo (v :: v :: st)) : VW k z n n' ws pc lo (v :: st) := by
  obtain ⟨d, rfl⟩ := d
  exact fun H L la hP hD hS hl => lv_dup X.1 X.2.1 d h (kk H L la hP hD hS hl)
theorem r_pop (X : XX k strs z own cc nL ret R0) {v : Value} (d : DEC cc pc 1 pc' (.pop)) (h : v.category = 1) (kk : VW k z n n' ws pc' lo (st)) : VW k z n n' ws pc lo (v :: st) := by
  obtain ⟨d, rfl⟩ := d
  exact fun H L la hP hD hS hl => lv_pop X.1 X.2.1 d h (kk H L la hP hD hS hl)
theorem r_dup_x1 (X : XX k strs z own cc nL ret R0) {v w : Value} (d : DEC cc pc 1 pc' (.dup_x1)) (h : v.category = 1) (h2 : w.category = 1) (kk : VW k z n n' ws pc' lo (v :: w :: v :: st)) : VW k z n n' ws pc lo (v :: w :: st) := by
  obtain ⟨d, rfl⟩ := d
  exact fun H L la hP hD hS hl => lv_dup_x1 X.1 X.2.1 d h h2 (kk H L la hP hD hS hl)
theorem r_dup2 (X : XX k strs z own cc nL ret R0) {v w : Value} (d : DEC cc pc 1 pc' (.dup2)) (h : v.category = 1) (h2 : w.category = 1) (kk : VW k z n n' ws pc' lo (v :: w :: v :: w :: st)) : VW k z n n' ws pc lo (v :: w :: st) := by
  obtain ⟨d, rfl⟩ := d
  exact fun H L la hP hD hS hl => lv_dup2_11 X.1 X.2.1 d h h2 (kk H L la hP hD hS hl)
theorem r_if_eq (X : XX k strs z own cc nL ret R0) {x : Int32} {off : Int} (tgt : Nat) (d : DEC cc pc 3 pc' (.ifCond .eq off)) (ht : (pc : Int) + off = (tgt : Int)) (kt : x = 0 → VW k z n n' ws tgt lo st) (kf : ¬ (x = 0) → VW k z n n' ws pc' lo st) : VW k z n n' ws pc lo (.int x :: st) := by
  obtain ⟨d, rfl⟩ := d
  exact fun H L la hP hD hS hl => lv_if_eq X.1 X.2.1 d ht (fun h => kt h H L la hP hD hS hl) (fun h => kf h H L la hP hD hS hl)
theorem r_icmp_eq (X : XX k strs z own cc nL ret R0) {x y : Int32} {off : Int} (tgt : Nat) (d : DEC cc pc 3 pc' (.if_icmp .eq off)) (ht : (pc : Int) + off = (tgt : Int)) (kt : x = y → VW k z n n' ws tgt lo st) (kf : ¬ (x = y) → VW k z n n' ws pc' lo st) : VW k z n n' ws pc lo (.int y :: .int x :: st) := by
  obtain ⟨d, rfl⟩ := d
  exact fun H L la hP hD hS hl => lv_icmp_eq X.1 X.2.1 d ht (fun h => kt h H L la hP hD hS hl) (fun h => kf h H L la hP hD hS hl)
theorem r_lcmp_eq (X : XX k strs z own cc nL ret R0) {x y : Int64} {off : Int} {pc1 : Nat} (tgt : Nat) (d1 : DEC cc pc 1 pc1 .lcmp) (d : DEC cc pc1 3 pc' (.ifCond .eq off)) (ht : (pc1 : Int) + off = (tgt : Int)) (kt : x = y → VW k z n n' ws tgt lo st) (kf : ¬ (x = y) → VW k z n n' ws pc' lo st) : VW k z n n' ws pc lo (.long y :: .long x :: st) := by
  obtain ⟨d1, rfl⟩ := d1
  obtain ⟨d, rfl⟩ := d
  exact fun H L la hP hD hS hl => W.lcmp X.1 X.2.1 d1 (lv_if_eq X.1 X.2.1 d ht (fun h => kt ((lg_cmp_eq x y).mp h) H L la hP hD hS hl) (fun h => kf (fun q => h ((lg_cmp_eq x y).mpr q)) H L la hP hD hS hl))
theorem r_if_ne (X : XX k strs z own cc nL ret R0) {x : Int32} {off : Int} (tgt : Nat) (d : DEC cc pc 3 pc' (.ifCond .ne off)) (ht : (pc : Int) + off = (tgt : Int)) (kt : ¬ x = 0 → VW k z n n' ws tgt lo st) (kf : x = 0 → VW k z n n' ws pc' lo st) : VW k z n n' ws pc lo (.int x :: st) := by
  obtain ⟨d, rfl⟩ := d
  exact fun H L la hP hD hS hl => lv_if_ne X.1 X.2.1 d ht (fun h => kt h H L la hP hD hS hl) (fun h => kf h H L la hP hD hS hl)
theorem r_icmp_ne (X : XX k strs z own cc nL ret R0) {x y : Int32} {off : Int} (tgt : Nat) (d : DEC cc pc 3 pc' (.if_icmp .ne off)) (ht : (pc : Int) + off = (tgt : Int)) (kt : ¬ x = y → VW k z n n' ws tgt lo st) (kf : x = y → VW k z n n' ws pc' lo st) : VW k z n n' ws pc lo (.int y :: .int x :: st) := by
  obtain ⟨d, rfl⟩ := d
  exact fun H L la hP hD hS hl => lv_icmp_ne X.1 X.2.1 d ht (fun h => kt h H L la hP hD hS hl) (fun h => kf h H L la hP hD hS hl)
theorem r_lcmp_ne (X : XX k strs z own cc nL ret R0) {x y : Int64} {off : Int} {pc1 : Nat} (tgt : Nat) (d1 : DEC cc pc 1 pc1 .lcmp) (d : DEC cc pc1 3 pc' (.ifCond .ne off)) (ht : (pc1 : Int) + off = (tgt : Int)) (kt : ¬ x = y → VW k z n n' ws tgt lo st) (kf : x = y → VW k z n n' ws pc' lo st) : VW k z n n' ws pc lo (.long y :: .long x :: st) := by
  obtain ⟨d1, rfl⟩ := d1
  obtain ⟨d, rfl⟩ := d
  exact fun H L la hP hD hS hl => W.lcmp X.1 X.2.1 d1 (lv_if_ne X.1 X.2.1 d ht (fun h => kt ((not_congr (lg_cmp_eq x y)).mp h) H L la hP hD hS hl) (fun h => kf ((lg_cmp_eq x y).mp h) H L la hP hD hS hl))
theorem r_if_lt (X : XX k strs z own cc nL ret R0) {x : Int32} {off : Int} (tgt : Nat) (d : DEC cc pc 3 pc' (.ifCond .lt off)) (ht : (pc : Int) + off = (tgt : Int)) (kt : x < 0 → VW k z n n' ws tgt lo st) (kf : ¬ (x < 0) → VW k z n n' ws pc' lo st) : VW k z n n' ws pc lo (.int x :: st) := by
  obtain ⟨d, rfl⟩ := d
  exact fun H L la hP hD hS hl => lv_if_lt X.1 X.2.1 d ht (fun h => kt h H L la hP hD hS hl) (fun h => kf h H L la hP hD hS hl)
theorem r_icmp_lt (X : XX k strs z own cc nL ret R0) {x y : Int32} {off : Int} (tgt : Nat) (d : DEC cc pc 3 pc' (.if_icmp .lt off)) (ht : (pc : Int) + off = (tgt : Int)) (kt : x < y → VW k z n n' ws tgt lo st) (kf : ¬ (x < y) → VW k z n n' ws pc' lo st) : VW k z n n' ws pc lo (.int y :: .int x :: st) := by
  obtain ⟨d, rfl⟩ := d
  exact fun H L la hP hD hS hl => lv_icmp_lt X.1 X.2.1 d ht (fun h => kt h H L la hP hD hS hl) (fun h => kf h H L la hP hD hS hl)
theorem r_lcmp_lt (X : XX k strs z own cc nL ret R0) {x y : Int64} {off : Int} {pc1 : Nat} (tgt : Nat) (d1 : DEC cc pc 1 pc1 .lcmp) (d : DEC cc pc1 3 pc' (.ifCond .lt off)) (ht : (pc1 : Int) + off = (tgt : Int)) (kt : x < y → VW k z n n' ws tgt lo st) (kf : ¬ (x < y) → VW k z n n' ws pc' lo st) : VW k z n n' ws pc lo (.long y :: .long x :: st) := by
  obtain ⟨d1, rfl⟩ := d1
  obtain ⟨d, rfl⟩ := d
  exact fun H L la hP hD hS hl => W.lcmp X.1 X.2.1 d1 (lv_if_lt X.1 X.2.1 d ht (fun h => kt ((lg_cmp_lt x y).mp h) H L la hP hD hS hl) (fun h => kf (fun q => h ((lg_cmp_lt x y).mpr q)) H L la hP hD hS hl))
theorem r_if_ge (X : XX k strs z own cc nL ret R0) {x : Int32} {off : Int} (tgt : Nat) (d : DEC cc pc 3 pc' (.ifCond .ge off)) (ht : (pc : Int) + off = (tgt : Int)) (kt : 0 ≤ x → VW k z n n' ws tgt lo st) (kf : ¬ (0 ≤ x) → VW k z n n' ws pc' lo st) : VW k z n n' ws pc lo (.int x :: st) := by
  obtain ⟨d, rfl⟩ := d
  exact fun H L la hP hD hS hl => lv_if_ge X.1 X.2.1 d ht (fun h => kt h H L la hP hD hS hl) (fun h => kf h H L la hP hD hS hl)
theorem r_icmp_ge (X : XX k strs z own cc nL ret R0) {x y : Int32} {off : Int} (tgt : Nat) (d : DEC cc pc 3 pc' (.if_icmp .ge off)) (ht : (pc : Int) + off = (tgt : Int)) (kt : y ≤ x → VW k z n n' ws tgt lo st) (kf : ¬ (y ≤ x) → VW k z n n' ws pc' lo st) : VW k z n n' ws pc lo (.int y :: .int x :: st) := by
  obtain ⟨d, rfl⟩ := d
  exact fun H L la hP hD hS hl => lv_icmp_ge X.1 X.2.1 d ht (fun h => kt h H L la hP hD hS hl) (fun h => kf h H L la hP hD hS hl)
theorem r_lcmp_ge (X : XX k strs z own cc nL ret R0) {x y : Int64} {off : Int} {pc1 : Nat} (tgt : Nat) (d1 : DEC cc pc 1 pc1 .lcmp) (d : DEC cc pc1 3 pc' (.ifCond .ge off)) (ht : (pc1 : Int) + off = (tgt : Int)) (kt : y ≤ x → VW k z n n' ws tgt lo st) (kf : ¬ (y ≤ x) → VW k z n n' ws pc' lo st) : VW k z n n' ws pc lo (.long y :: .long x :: st) := by
  obtain ⟨d1, rfl⟩ := d1
  obtain ⟨d, rfl⟩ := d
  exact fun H L la hP hD hS hl => W.lcmp X.1 X.2.1 d1 (lv_if_ge X.1 X.2.1 d ht (fun h => kt ((lg_cmp_ge x y).mp h) H L la hP hD hS hl) (fun h => kf (fun q => h ((lg_cmp_ge x y).mpr q)) H L la hP hD hS hl))
theorem r_if_gt (X : XX k strs z own cc nL ret R0) {x : Int32} {off : Int} (tgt : Nat) (d : DEC cc pc 3 pc' (.ifCond .gt off)) (ht : (pc : Int) + off = (tgt : Int)) (kt : 0 < x → VW k z n n' ws tgt lo st) (kf : ¬ (0 < x) → VW k z n n' ws pc' lo st) : VW k z n n' ws pc lo (.int x :: st) := by
  obtain ⟨d, rfl⟩ := d
  exact fun H L la hP hD hS hl => lv_if_gt X.1 X.2.1 d ht (fun h => kt h H L la hP hD hS hl) (fun h => kf h H L la hP hD hS hl)
theorem r_icmp_gt (X : XX k strs z own cc nL ret R0) {x y : Int32} {off : Int} (tgt : Nat) (d : DEC cc pc 3 pc' (.if_icmp .gt off)) (ht : (pc : Int) + off = (tgt : Int)) (kt : y < x → VW k z n n' ws tgt lo st) (kf : ¬ (y < x) → VW k z n n' ws pc' lo st) : VW k z n n' ws pc lo (.int y :: .int x :: st) := by
  obtain ⟨d, rfl⟩ := d
  exact fun H L la hP hD hS hl => lv_icmp_gt X.1 X.2.1 d ht (fun h => kt h H L la hP hD hS hl) (fun h => kf h H L la hP hD hS hl)
theorem r_lcmp_gt (X : XX k strs z own cc nL ret R0) {x y : Int64} {off : Int} {pc1 : Nat} (tgt : Nat) (d1 : DEC cc pc 1 pc1 .lcmp) (d : DEC cc pc1 3 pc' (.ifCond .gt off)) (ht : (pc1 : Int) + off = (tgt : Int)) (kt : y < x → VW k z n n' ws tgt lo st) (kf : ¬ (y < x) → VW k z n n' ws pc' lo st) : VW k z n n' ws pc lo (.long y :: .long x :: st) := by
  obtain ⟨d1, rfl⟩ := d1
  obtain ⟨d, rfl⟩ := d
  exact fun H L la hP hD hS hl => W.lcmp X.1 X.2.1 d1 (lv_if_gt X.1 X.2.1 d ht (fun h => kt ((lg_cmp_gt x y).mp h) H L la hP hD hS hl) (fun h => kf (fun q => h ((lg_cmp_gt x y).mpr q)) H L la hP hD hS hl))
theorem r_if_le (X : XX k strs z own cc nL ret R0) {x : Int32} {off : Int} (tgt : Nat) (d : DEC cc pc 3 pc' (.ifCond .le off)) (ht : (pc : Int) + off = (tgt : Int)) (kt : x ≤ 0 → VW k z n n' ws tgt lo st) (kf : ¬ (x ≤ 0) → VW k z n n' ws pc' lo st) : VW k z n n' ws pc lo (.int x :: st) := by
  obtain ⟨d, rfl⟩ := d
  exact fun H L la hP hD hS hl => lv_if_le X.1 X.2.1 d ht (fun h => kt h H L la hP hD hS hl) (fun h => kf h H L la hP hD hS hl)
theorem r_icmp_le (X : XX k strs z own cc nL ret R0) {x y : Int32} {off : Int} (tgt : Nat) (d : DEC cc pc 3 pc' (.if_icmp .le off)) (ht : (pc : Int) + off = (tgt : Int)) (kt : x ≤ y → VW k z n n' ws tgt lo st) (kf : ¬ (x ≤ y) → VW k z n n' ws pc' lo st) : VW k z n n' ws pc lo (.int y :: .int x :: st) := by
  obtain ⟨d, rfl⟩ := d
  exact fun H L la hP hD hS hl => lv_icmp_le X.1 X.2.1 d ht (fun h => kt h H L la hP hD hS hl) (fun h => kf h H L la hP hD hS hl)
theorem r_lcmp_le (X : XX k strs z own cc nL ret R0) {x y : Int64} {off : Int} {pc1 : Nat} (tgt : Nat) (d1 : DEC cc pc 1 pc1 .lcmp) (d : DEC cc pc1 3 pc' (.ifCond .le off)) (ht : (pc1 : Int) + off = (tgt : Int)) (kt : x ≤ y → VW k z n n' ws tgt lo st) (kf : ¬ (x ≤ y) → VW k z n n' ws pc' lo st) : VW k z n n' ws pc lo (.long y :: .long x :: st) := by
  obtain ⟨d1, rfl⟩ := d1
  obtain ⟨d, rfl⟩ := d
  exact fun H L la hP hD hS hl => W.lcmp X.1 X.2.1 d1 (lv_if_le X.1 X.2.1 d ht (fun h => kt ((lg_cmp_le x y).mp h) H L la hP hD hS hl) (fun h => kf (fun q => h ((lg_cmp_le x y).mpr q)) H L la hP hD hS hl))
theorem r_goto (X : XX k strs z own cc nL ret R0) {off : Int} (tgt : Nat) (d : DEC cc pc 3 pc' (.goto off)) (ht : (pc : Int) + off = (tgt : Int)) (kk : VW k z n n' ws tgt lo st) : VW k z n n' ws pc lo st := by
  obtain ⟨d, rfl⟩ := d
  exact fun H L la hP hD hS hl => lv_goto X.1 X.2.1 d ht (kk H L la hP hD hS hl)
theorem r_tswIn (X : XX k strs z own cc nL ret R0) {dflt l h : Int} {offs : Array Int} {len : Nat} {x : Int32} {off : Int} (tgt : Nat) (d : DEC cc pc len pc' (.tableswitch dflt l h offs)) (h1 : ¬ x.toInt < l) (h2 : ¬ h < x.toInt) (ho : offs[(x.toInt - l).toNat]? = some off) (ht : (pc : Int) + off = (tgt : Int)) (kk : VW k z n n' ws tgt lo st) : VW k z n n' ws pc lo (.int x :: st) := by
  obtain ⟨d, rfl⟩ := d
  exact fun H L la hP hD hS hl => lv_tableIn X.1 X.2.1 d h1 h2 ho ht (kk H L la hP hD hS hl)
theorem r_tswOut (X : XX k strs z own cc nL ret R0) {dflt l h : Int} {offs : Array Int} {len : Nat} {x : Int32} (tgt : Nat) (d : DEC cc pc len pc' (.tableswitch dflt l h offs)) (h1 : x.toInt < l ∨ h < x.toInt) (ht : (pc : Int) + dflt = (tgt : Int)) (kk : VW k z n n' ws tgt lo st) : VW k z n n' ws pc lo (.int x :: st) := by
  obtain ⟨d, rfl⟩ := d
  exact fun H L la hP hD hS hl => lv_tableOut X.1 X.2.1 d h1 ht (kk H L la hP hD hS hl)
theorem r_lookup (X : XX k strs z own cc nL ret R0) {dflt : Int} {ps : Array (Int × Int)} {len : Nat} {x : Int32} {off : Int} (tgt : Nat) (d : DEC cc pc len pc' (.lookupswitch dflt ps)) (hp : (ps.toList.zip (ps.toList.drop 1)).all (fun (a, next) => a.1 < next.1) = true) (ho : Op.lookupswitch.offset ps.toList dflt x.toInt = off) (ht : (pc : Int) + off = (tgt : Int)) (kk : VW k z n n' ws tgt lo st) : VW k z n n' ws pc lo (.int x :: st) := by
  obtain ⟨d, rfl⟩ := d
  exact fun H L la hP hD hS hl => lv_lookup X.1 X.2.1 d hp ho ht (kk H L la hP hD hS hl)
theorem r_ldc (X : XX k strs z own cc nL ret R0) {ix : Nat} {v : Int32} (w : .constant own ix v ∈ bigw) (d : DEC cc pc 2 pc' (.ldc ix)) (kk : VW k z n n' ws pc' lo (.int v :: st)) : VW k z n n' ws pc lo st := by
  obtain ⟨d, rfl⟩ := d
  exact fun H L la hP hD hS hl => lv_ldc X.1 X.2.1 X.own1 (X.ts _ w) d (kk H L la hP hD hS hl)
theorem r_ldcw (X : XX k strs z own cc nL ret R0) {ix : Nat} {v : Int32} (w : .constant own ix v ∈ bigw) (d : DEC cc pc 3 pc' (.ldc_w ix)) (kk : VW k z n n' ws pc' lo (.int v :: st)) : VW k z n n' ws pc lo st := by
  obtain ⟨d, rfl⟩ := d
  exact fun H L la hP hD hS hl => lv_ldcw X.1 X.2.1 X.own1 (X.ts _ w) d (kk H L la hP hD hS hl)
theorem r_ldc2 (X : XX k strs z own cc nL ret R0) {ix : Nat} {v : Int64} (w : .constantLong own ix v ∈ bigw) (d : DEC cc pc 3 pc' (.ldc2_w ix)) (kk : VW k z n n' ws pc' lo (.long v :: st)) : VW k z n n' ws pc lo st := by
  obtain ⟨d, rfl⟩ := d
  exact fun H L la hP hD hS hl => lv_ldc2 X.1 X.2.1 X.own1 (X.ts _ w) d (kk H L la hP hD hS hl)
theorem r_ldcS (X : XX k strs z own cc nL ret R0) {ix : Nat} {tx : String} {by_ : List Int32} (i : Nat) (w : strs[i]? = some (own, ix, tx, by_)) (d : DEC cc pc 2 pc' (.ldc ix)) (kk : VW k z n n' ws pc' lo (.ref (k.sK i) :: st)) : VW k z n n' ws pc lo st := by
  obtain ⟨d, rfl⟩ := d
  exact fun H L la hP hD hS hl => va_ldcS X.1 X.2.1 X.own1 (X.F.2.1 i _ w).1 d (kk H L la hP hD hS hl)
theorem r_ldcwS (X : XX k strs z own cc nL ret R0) {ix : Nat} {tx : String} {by_ : List Int32} (i : Nat) (w : strs[i]? = some (own, ix, tx, by_)) (d : DEC cc pc 3 pc' (.ldc_w ix)) (kk : VW k z n n' ws pc' lo (.ref (k.sK i) :: st)) : VW k z n n' ws pc lo st := by
  obtain ⟨d, rfl⟩ := d
  intro H L la hP hD hS hl T hT Y
  obtain ⟨t, a1, b1⟩ := kk H L la hP hD hS hl T hT Y
  exact ⟨t, Y.ldcStringW X.1 (own := own) X.own1 (text := tx) (a := k.sK i) (index := ix) (X.F.2.1 i _ w).1.1 (X.F.2.1 i _ w).1.2 (g := F0 (zM z) pc la st) rfl (by rw [X.2.1]; exact d) t a1, b1⟩
def CLS (ci : Nat) (C : String) (T : u_T) (N : Nat) (ty : Nat → FieldType) : Prop := clS[ci]? = some (C, T, N) ∧ (∀ w ∈ u_ws C T N, w ∈ bigw) ∧ (∀ i, i < N → parseFieldDescriptor (T i).2.2.1 = some (ty i)) ∧ (∀ a, a < N → ∀ b, b < N → a ≠ b → (T a).2.1 ≠ (T b).2.1)
def FL (own : String) (ix : Nat) (T : u_T) (f : Nat) : Prop := .fieldLink own ix (T f).1 (T f).2.1 (T f).2.2.1 ∈ bigw
theorem r_getfield (X : XX k strs z own cc nL ret R0) {ci N ix : Nat} {C : String} {T : u_T} {ty : Nat → FieldType} {a f : Nat} {fs : List Value} {v : Value} (c : CLS ci C T N ty) (w : FL own ix T f) (hf : f < N) (q : Nat) (he : ws[q]? = some (a, .inr (ci, fs))) (hv : fs[f]? = some v) (d : DEC cc pc 3 pc' (.getfield ix)) (kk : VW k z n n' ws pc' lo (v :: st)) : VW k z n n' ws pc lo (.ref a :: st) := by
  obtain ⟨d, rfl⟩ := d
  exact fun H L la hP hD hS hl => va_get X.1 X.2.1 X.ts c.2.1 X.own1 X.K hP q he c.1 f hf (X.ts _ w) (fun _ h => h) hv d (kk H L la hP hD hS hl)
theorem r_putfield (X : XX k strs z own cc nL ret R0) {ci N ix : Nat} {C : String} {T : u_T} {ty : Nat → FieldType} {a f : Nat} {fs : List Value} {v : Value} {ws1 : va_W} (c : CLS ci C T N ty) (w : FL own ix T f) (hf : f < N) (hfin : (T f).2.2.2 = false) (hn : narrow (ty f) v = v) (hfit : fits (ty f) v = true) (q : Nat) (he : ws[q]? = some (a, .inr (ci, fs))) (hl0 : f < fs.length) (hws : ws.set q (a, .inr (ci, fs.set f v)) = ws1) (d : DEC cc pc 3 pc' (.putfield ix)) (kk : VW k z n n' ws1 pc' lo st) : VW k z n n' ws pc lo (v :: .ref a :: st) := by
  obtain ⟨d, rfl⟩ := d
  subst hws
  exact fun H L la hP hD hS hl => va_put X.1 X.2.1 X.ts c.2.1 ty c.2.2.1 c.2.2.2 X.own1 X.K hP hD hS q he c.1 f hf (X.ts _ w) (fun _ h => h) hfin (c.2.2.1 f hf) hn hfit hl0 d (fun H1 L1 hP hD hS => kk H1 L1 la hP hD hS hl)
def inb (i : Int32) (n : Nat) : Bool := decide (0 ≤ i.toInt ∧ i.toInt < n)
theorem inb_vp {i : Int32} {n : Nat} (h : inb i n = true) : vp_in i n := vp_in_iff.mpr (of_decide_eq_true h)
abbrev ix (i : Int32) : Nat := i.toNatClampNeg
theorem r_iaload (X : XX k strs z own cc nL ret R0) {a N : Nat} {f : Nat → Int32} {i : Int32} (q : Nat) (he : ws[q]? = some (a, .inl (k.c 0, (N, .inl f)))) (hi : inb i N = true) (d : DEC cc pc 1 pc' .iaload) (kk : VW k z n n' ws pc' lo (.int (f (ix i)) :: st)) : VW k z n n' ws pc lo (.int i :: .ref a :: st) := by
  obtain ⟨d, rfl⟩ := d
  exact fun H L la hP hD hS hl => va_iald X.1 X.2.1 X.K hP q 0 he rfl (inb_vp hi) d (kk H L la hP hD hS hl)
theorem r_laload (X : XX k strs z own cc nL ret R0) {a N : Nat} {f : Nat → Int64} {i : Int32} (q : Nat) (he : ws[q]? = some (a, .inl (k.c 1, (N, .inr (.inl f))))) (hi : inb i N = true) (d : DEC cc pc 1 pc' .laload) (kk : VW k z n n' ws pc' lo (.long (f (ix i)) :: st)) : VW k z n n' ws pc lo (.int i :: .ref a :: st) := by
  obtain ⟨d, rfl⟩ := d
  exact fun H L la hP hD hS hl => va_lald X.1 X.2.1 X.K hP q 1 he rfl (inb_vp hi) d (kk H L la hP hD hS hl)
theorem r_baload (X : XX k strs z own cc nL ret R0) {a N : Nat} {f : Nat → Int32} {i : Int32} (q : Nat) (he : ws[q]? = some (a, .inl (k.c 2, (N, .inl f)))) (hi : inb i N = true) (d : DEC cc pc 1 pc' .baload) (kk : VW k z n n' ws pc' lo (.int (f (ix i)) :: st)) : VW k z n n' ws pc lo (.int i :: .ref a :: st) := by
  obtain ⟨d, rfl⟩ := d
  exact fun H L la hP hD hS hl => va_bald X.1 X.2.1 X.K hP q 2 he rfl (inb_vp hi) d (kk H L la hP hD hS hl)
theorem r_iastore (X : XX k strs z own cc nL ret R0) {a N : Nat} {f : Nat → Int32} {i : Int32} {x : Int32} {ws1 : va_W} (q : Nat) (he : ws[q]? = some (a, .inl (k.c 0, (N, .inl f)))) (hi : inb i N = true) (hws : ws.set q (a, .inl (k.c 0, (N, .inl (upd f (ix i) x)))) = ws1) (d : DEC cc pc 1 pc' .iastore) (kk : VW k z n n' ws1 pc' lo st) : VW k z n n' ws pc lo (.int x :: .int i :: .ref a :: st) := by
  obtain ⟨d, rfl⟩ := d
  subst hws
  exact fun H L la hP hD hS hl => va_iast X.1 X.2.1 X.K hP hD hS q 0 he rfl (inb_vp hi) d (fun H1 L1 hP hD hS => kk H1 L1 la hP hD hS hl)
theorem r_lastore (X : XX k strs z own cc nL ret R0) {a N : Nat} {f : Nat → Int64} {i : Int32} {x : Int64} {ws1 : va_W} (q : Nat) (he : ws[q]? = some (a, .inl (k.c 1, (N, .inr (.inl f))))) (hi : inb i N = true) (hws : ws.set q (a, .inl (k.c 1, (N, .inr (.inl (vp_updL f (ix i) x))))) = ws1) (d : DEC cc pc 1 pc' .lastore) (kk : VW k z n n' ws1 pc' lo st) : VW k z n n' ws pc lo (.long x :: .int i :: .ref a :: st) := by
  obtain ⟨d, rfl⟩ := d
  subst hws
  exact fun H L la hP hD hS hl => va_last X.1 X.2.1 X.K hP hD hS q 1 he rfl (inb_vp hi) d (fun H1 L1 hP hD hS => kk H1 L1 la hP hD hS hl)
theorem r_bastore (X : XX k strs z own cc nL ret R0) {a N : Nat} {f : Nat → Int32} {i : Int32} {x : Int32} {ws1 : va_W} (q : Nat) (he : ws[q]? = some (a, .inl (k.c 2, (N, .inl f)))) (hi : inb i N = true) (hws : ws.set q (a, .inl (k.c 2, (N, .inl (upd f (ix i) (vp_nar .byte x))))) = ws1) (d : DEC cc pc 1 pc' .bastore) (kk : VW k z n n' ws1 pc' lo st) : VW k z n n' ws pc lo (.int x :: .int i :: .ref a :: st) := by
  obtain ⟨d, rfl⟩ := d
  subst hws
  exact fun H L la hP hD hS hl => va_bast X.1 X.2.1 X.K hP hD hS q 2 he rfl (inb_vp hi) d (fun H1 L1 hP hD hS => kk H1 L1 la hP hD hS hl)
theorem r_aaload (X : XX k strs z own cc nL ret R0) {a N : Nat} {f : Nat → Option Nat} {i : Int32} {v : Value} (q : Nat) (he : ws[q]? = some (a, .inl (k.c 4, (N, .inr (.inr (.inr (.inr f))))))) (hi : inb i N = true) (hv : va_rf (f (ix i)) = v) (d : DEC cc pc 1 pc' .aaload) (kk : VW k z n n' ws pc' lo (v :: st)) : VW k z n n' ws pc lo (.int i :: .ref a :: st) := by
  obtain ⟨d, rfl⟩ := d
  subst hv
  exact fun H L la hP hD hS hl => va_aldq X.1 X.2.1 X.K hP q 4 he rfl (inb_vp hi) d (kk H L la hP hD hS hl)
theorem r_aastore (X : XX k strs z own cc nL ret R0) {a N v : Nat} {vs : List Value} {f : Nat → Option Nat} {i : Int32} {ws1 : va_W} (q qk : Nat) (he : ws[q]? = some (a, .inl (k.c 4, (N, .inr (.inr (.inr (.inr f))))))) (hk : ws[qk]? = some (v, .inr (5, vs))) (hi : inb i N = true) (hws : ws.set q (a, .inl (k.c 4, (N, .inr (.inr (.inr (.inr (va_up f (ix i) (some v)))))))) = ws1) (d : DEC cc pc 1 pc' .aastore) (kk : VW k z n n' ws1 pc' lo st) : VW k z n n' ws pc lo (.ref v :: .int i :: .ref a :: st) := by
  obtain ⟨d, rfl⟩ := d
  subst hws
  exact fun H L la hP hD hS hl => va_astq X.1 X.2.1 X.K hP hD hS q 4 qk 5 (r := (RX5, TX5, 13)) he rfl hk rfl (inb_vp hi) d (fun H1 L1 hP hD hS => kk H1 L1 la hP hD hS hl)
-- returns: what f's value says is what the contract says
theorem r_ireturn (X : XX k strs z own cc nL (some .int) R0) {mc ms : Nat} {o : Option Value} {ws' : va_W} {v : Int32} (hQ : zQ z = MQ (zB z) (Qof k o ws') (zA z) (zS z) mc ms (kA k)) (ho : o = some (.int v)) (hw : ws = ws') (hc : n ≤ mc) (hs : n' ≤ ms) (d : DEC cc pc 1 pc' .ireturn) : VW k z n n' ws pc lo [.int v] := by
  intro H L la hP hD hS hl
  subst ho; subst hw
  obtain ⟨d, rfl⟩ := d
  unfold ZW
  rw [hQ]
  exact W.widen hc hs (W.iret X.1 X.2.1 X.ret1 (fun t ht _ => ⟨rfl, by rw [ht]; exact hP, hD, hS.F ht⟩) hS.2.2 d X.locks)
theorem r_zreturn (X : XX k strs z own cc nL (some .boolean) R0) {mc ms : Nat} {o : Option Value} {ws' : va_W} {v : Int32} (hQ : zQ z = MQ (zB z) (Qof k o ws') (zA z) (zS z) mc ms (kA k)) (ho : o = some (.int v)) (hw : ws = ws') (hc : n ≤ mc) (hs : n' ≤ ms) (hv : narrow .boolean (.int v) = .int v) (d : DEC cc pc 1 pc' .ireturn) : VW k z n n' ws pc lo [.int v] := by
  intro H L la hP hD hS hl
  subst ho; subst hw
  obtain ⟨d, rfl⟩ := d
  unfold ZW
  rw [hQ]
  exact W.widen hc hs (W.zret X.1 X.2.1 X.ret1 hv (fun t ht _ => ⟨rfl, by rw [ht]; exact hP, hD, hS.F ht⟩) hS.2.2 d X.locks)
theorem r_lreturn (X : XX k strs z own cc nL (some .long) R0) {mc ms : Nat} {o : Option Value} {ws' : va_W} {v : Int64} (hQ : zQ z = MQ (zB z) (Qof k o ws') (zA z) (zS z) mc ms (kA k)) (ho : o = some (.long v)) (hw : ws = ws') (hc : n ≤ mc) (hs : n' ≤ ms) (d : DEC cc pc 1 pc' .lreturn) : VW k z n n' ws pc lo [.long v] := by
  intro H L la hP hD hS hl
  subst ho; subst hw
  obtain ⟨d, rfl⟩ := d
  unfold ZW
  rw [hQ]
  exact W.widen hc hs (W.lret X.1 X.2.1 X.ret1 (fun t ht _ => ⟨rfl, by rw [ht]; exact hP, hD, hS.F ht⟩) hS.2.2 d X.locks)
theorem r_dreturn (X : XX k strs z own cc nL (some .double) R0) {mc ms : Nat} {o : Option Value} {ws' : va_W} {v : UInt64} (hQ : zQ z = MQ (zB z) (Qof k o ws') (zA z) (zS z) mc ms (kA k)) (ho : o = some (.double v)) (hw : ws = ws') (hc : n ≤ mc) (hs : n' ≤ ms) (d : DEC cc pc 1 pc' .dreturn) : VW k z n n' ws pc lo [.double v] := by
  intro H L la hP hD hS hl
  subst ho; subst hw
  obtain ⟨d, rfl⟩ := d
  unfold ZW
  rw [hQ]
  have hlk := X.locks
  exact W.widen hc hs (W.dret X.1 X.2.1 X.ret1 (fun t ht _ => ⟨rfl, by rw [ht]; exact hP, hD, hS.F ht⟩) hS.2.2 d)
theorem r_return (X : XX k strs z own cc nL none R0) {mc ms : Nat} {o : Option Value} {ws' : va_W} (hQ : zQ z = MQ (zB z) (Qof k o ws') (zA z) (zS z) mc ms (kA k)) (ho : o = none) (hw : ws = ws') (hc : n ≤ mc) (hs : n' ≤ ms) (d : DEC cc pc 1 pc' .return_) : VW k z n n' ws pc lo [] := by
  intro H L la hP hD hS hl
  subst ho; subst hw
  obtain ⟨d, rfl⟩ := d
  unfold ZW
  rw [hQ]
  exact W.widen hc hs (W.vret X.1 X.2.1 X.ret1 (fun t ht _ => ⟨rfl, by rw [ht]; exact hP, hD, hS.F ht⟩) hS.2.2 d X.locks)
-- calls
def LKB (own : String) (ix : Nat) (y : MethodName) (bytes : ByteArray) (maxL : Nat) (rt : Option FieldType) (na : Nat) : Prop :=
  .methodLink own ix y ∈ bigw ∧ .code y bytes maxL rt ∈ bigw ∧ .initialized y.cls ∈ bigw ∧ (y.cls ≠ "java/lang/invoke/MethodHandle" ∧ y.cls ≠ "java/lang/invoke/VarHandle") ∧ (parseMethodDescriptor y.desc).map (fun d => d.parameters.length) = some na
def LKV (own : String) (ix : Nat) (y : MethodName) (bytes : ByteArray) (maxL : Nat) (rt : Option FieldType) (na : Nat) : Prop :=
  LKB own ix y bytes maxL rt na ∧ .instanceMethod y ∈ bigw ∧ .selects y.cls y y ∈ bigw
def LKS (own : String) (ix : Nat) (y : MethodName) (bytes : ByteArray) (maxL : Nat) (rt : Option FieldType) (na : Nat) : Prop :=
  LKB own ix y bytes maxL rt na ∧ .static y ∈ bigw
/-- a private static method of a nest mate -/
def LKN (own : String) (ix : Nat) (y : MethodName) (host : String) (bytes : ByteArray) (maxL : Nat) (rt : Option FieldType) (na : Nat) : Prop :=
  .methodLinkNest own ix y host ∈ lw_tbl ∧ .code y bytes maxL rt ∈ bigw ∧ .initialized y.cls ∈ bigw ∧ (y.cls ≠ "java/lang/invoke/MethodHandle" ∧ y.cls ≠ "java/lang/invoke/VarHandle") ∧ (parseMethodDescriptor y.desc).map (fun d => d.parameters.length) = some na ∧ .static y ∈ bigw
/-- the callee's room fits the caller's -/
def RLE (maxL : Nat) (R1 R0 : Room) : Prop := R1.frames + 1 ≤ R0.frames ∧ 8 + (maxL + 11) + R1.locals ≤ R0.locals
theorem big_all (X : XX k strs z own cc nL ret R0) {y : MethodName} {bytes : ByteArray} {maxL : Nat} {rt : Option FieldType} (h : .code y bytes maxL rt ∈ bigw) : ∀ w ∈ (Cond.code y bytes maxL rt :: bigw), ∀ (a' : Array Value) (U : State), (zS z).WarmedH U.vm → w.before a' U = true :=
  pay_in X.ts (fun w hw => big_good w ((List.mem_cons.mp hw).elim (fun e => e ▸ h) id))
theorem lkn {y : MethodName} {na : Nat} (h : (parseMethodDescriptor y.desc).map (fun d => d.parameters.length) = some na) : ∀ sig, parseMethodDescriptor y.desc = some sig → na = sig.parameters.length := by
  intro sig hs
  rw [hs] at h
  exact (Option.some.inj h).symm
theorem cb_of (X : XX k strs z own cc nL ret R0) {ix : Nat} {y : MethodName} {bytes : ByteArray} {maxL na mc ms : Nat} {rt : Option FieldType} {R1 : Room} (w : LKB own ix y bytes maxL rt na) (hR : RLE maxL R1 R0) (hc : R1.cells = mc) (hs : R1.slots = ms) : CallB (zR z) (zS z) (zA z) own ix y bytes maxL rt (Cond.code y bytes maxL rt :: bigw) R1 mc ms na :=
  ⟨hc, hs, by rw [X.R]; exact hR.1, by rw [X.R]; exact hR.2, big_all X w.2.1, List.mem_cons_self, X.ts _ w.2.1, X.ts _ w.2.2.1, w.2.2.2.1, lkn w.2.2.2.2, X.ts _ w.1⟩
theorem pre_of (X : XX k strs z own cc nL ret R0) {H : Heap} {L : List Loc} {As : List Value} (hP : va_P k.D clS ws H) (hD : va_D (kA k) ws) (hS : va_S (kA k) (zS z).heap H L) : PreS (zS z) H (va_Pc As (PW k strs ws)) As :=
  ⟨PW.blind, fun U hU hW => ⟨rfl, by rw [hU]; exact hP, hD, by rw [hU]; exact X.F.call hW hS.2.1, by rw [hU]; exact Nat.le_trans X.2.2.2.2.2.2.2.2.2 hS.1⟩⟩
/-- behind a call that returns -/
theorem run_on (X : XX k strs z own cc nL ret R0) {H : Heap} {L : List Loc} {la : Array Slot} {a : Array Value} {mc ms : Nat} {o : Option Value} {ws' : va_W} {st0 : List Value} (hS : va_S (kA k) (zS z).heap H L) (hl : lvH la lo)
    (hr : va_Run (zP z) k.l (zE z) (zR z) (zS z) (zM z) (zA z) (zB z) (zH z) (zC z) H L n n' mc ms (F0 (zM z) pc la st0) st (Qof k o ws' a) (kA k))
    (kk : VW k z (n + mc) (n' + ms) ws' (pc + 3) lo (o.toList ++ st)) : ZW k z H L n n' (F0 (zM z) pc la st0) := by
  intro T hT Y
  obtain ⟨v, st₀, t, T', L1, h0, Y', hL, e1, e2, ⟨hv, hP1, hD1, hz, hk⟩, sg⟩ := hr T hT Y
  cases hv
  rw [h0] at hz hk
  have hS1 : va_S (kA k) (zS z).heap T'.heap (L ++ L1) := by
    refine ⟨Nat.le_trans hS.1 (by rw [e1]; exact hz), fun q h1 h2 => ?_, fun q hq => ?_⟩
    · rw [e1, hk q (Nat.lt_of_lt_of_le h1 hS.1) h2]; exact hS.2.1 q h1 h2
    · rcases List.mem_append.mp hq with h | h
      · exact hS.2.2 q h
      · exact hL q h
  obtain ⟨t2, a1, b1⟩ := kk T'.heap (L ++ L1) la (by rw [e1]; exact hP1) hD1 hS1 hl T' rfl Y'
  exact ⟨t2, sg t2 a1, b1⟩
theorem r_callV (X : XX k strs z own cc nL ret R0) {ix ci maxL na mc ms : Nat} {y : MethodName} {bytes : ByteArray} {rt : Option FieldType} {R1 : Room} {C : String} {T : u_T} {N : Nat} {ty : Nat → FieldType} {a : Nat} {fs : List Value} {o : Option Value} {ws' : va_W} {st0 st1 : List Value}
    (As : List Value) (st : List Value) (hM : CT k strs y bytes maxL rt R1 mc ms (.ref a :: As) ws o ws') (w : LKV own ix y bytes maxL rt na) (c : CLS ci C T N ty) (hC : C = y.cls) (q : Nat) (he : ws[q]? = some (a, .inr (ci, fs))) (hR : RLE maxL R1 R0) (hmc : R1.cells = mc) (hms : R1.slots = ms) (hc : n + mc ≤ R0.cells) (hs : n' + ms ≤ R0.slots)
    (hst : st0 = As.reverse ++ .ref a :: st) (hna : As.length = na) (hcat : (st.map fun v => v.category).sum ≤ 8) (hlo : lo.length = nL) (hst1 : o.toList ++ st = st1) (d : DEC cc pc 3 pc' (.invokevirtual ix)) (kk : VW k z (n + mc) (n' + ms) ws' pc' lo st1) : VW k z n n' ws pc lo st0 := by
  subst hst; subst hst1; subst hC
  obtain ⟨d, rfl⟩ := d
  intro H L la hP hD hS hl
  exact run_on X hS hl (va_runV (n := na) (nL := nL) (As := As) (rest := st) ⟨X.1, X.2.1, X.ml, X.own1, X.ts⟩ hM ⟨cb_of X w.1 hR hmc hms, X.ts _ w.2.1, X.ts _ w.2.2⟩ ⟨PW.blind, va_recv X.K hP c.1 he, (pre_of X hP hD hS).2⟩ rfl hna (hl.1.trans hlo) rfl (lv_room hcat) d ⟨by rw [X.R]; exact hc, by rw [X.R]; exact hs⟩) kk
theorem r_callS (X : XX k strs z own cc nL ret R0) {ix maxL na mc ms : Nat} {y : MethodName} {bytes : ByteArray} {rt : Option FieldType} {R1 : Room} {o : Option Value} {ws' : va_W} {st0 st1 : List Value}
    (As : List Value) (st : List Value) (hM : CT k strs y bytes maxL rt R1 mc ms As ws o ws') (w : LKS own ix y bytes maxL rt na) (hR : RLE maxL R1 R0) (hmc : R1.cells = mc) (hms : R1.slots = ms) (hc : n + mc ≤ R0.cells) (hs : n' + ms ≤ R0.slots)
    (hst : st0 = As.reverse ++ st) (hna : As.length = na) (hcat : (st.map fun v => v.category).sum ≤ 8) (hlo : lo.length = nL) (hst1 : o.toList ++ st = st1) (d : DEC cc pc 3 pc' (.invokestatic ix)) (kk : VW k z (n + mc) (n' + ms) ws' pc' lo st1) : VW k z n n' ws pc lo st0 := by
  subst hst; subst hst1
  obtain ⟨d, rfl⟩ := d
  intro H L la hP hD hS hl
  exact run_on X hS hl (va_runS (n := na) (nL := nL) (As := As) (rest := st) ⟨X.1, X.2.1, X.ml, X.own1, X.ts⟩ hM ⟨cb_of X w.1 hR hmc hms, X.ts _ w.2⟩ (pre_of X hP hD hS) rfl hna (hl.1.trans hlo) rfl (lv_room hcat) d ⟨by rw [X.R]; exact hc, by rw [X.R]; exact hs⟩) kk
theorem r_callSN (X : XX k strs z own cc nL ret R0) {ix maxL na mc ms : Nat} {y : MethodName} {host : String} {bytes : ByteArray} {rt : Option FieldType} {R1 : Room} {o : Option Value} {ws' : va_W} {st0 st1 : List Value}
    (As : List Value) (st : List Value) (hM : CT k strs y bytes maxL rt R1 mc ms As ws o ws') (w : LKN own ix y host bytes maxL rt na) (hR : RLE maxL R1 R0) (hmc : R1.cells = mc) (hms : R1.slots = ms) (hc : n + mc ≤ R0.cells) (hs : n' + ms ≤ R0.slots)
    (hst : st0 = As.reverse ++ st) (hna : As.length = na) (hcat : (st.map fun v => v.category).sum ≤ 8) (hlo : lo.length = nL) (hst1 : o.toList ++ st = st1) (d : DEC cc pc 3 pc' (.invokestatic ix)) (kk : VW k z (n + mc) (n' + ms) ws' pc' lo st1) : VW k z n n' ws pc lo st0 := by
  subst hst; subst hst1
  obtain ⟨d, rfl⟩ := d
  intro H L la hP hD hS hl
  exact run_on X hS hl (va_runSN (n := na) (nL := nL) (As := As) (rest := st) ⟨X.1, X.2.1, X.ml, X.own1, X.ts⟩ hM ⟨⟨⟨hmc, hms, by rw [X.R]; exact hR.1, by rw [X.R]; exact hR.2, big_all X w.2.1, List.mem_cons_self⟩, X.ts _ w.2.1, X.ts _ w.2.2.1, w.2.2.2.1, lkn w.2.2.2.2.1, va_Nw.use rfl (X.F.2.2.2.2.1 _ _ _ _ w.1)⟩, X.ts _ w.2.2.2.2.2, trivial⟩ (pre_of X hP hD hS) rfl hna (hl.1.trans hlo) rfl (lv_room hcat) d ⟨by rw [X.R]; exact hc, by rw [X.R]; exact hs⟩) kk
-- what the JDK does
theorem r_imin (X : XX k strs z own cc nL ret R0) {ix : Nat} {x y : Int32} (w : LKS own ix Lib.Math.min.name Lib.Math.min.code 2 (some .int) 2) (hlo : lo.length = nL) (hR : 1 ≤ R0.frames ∧ (st.map fun v => v.category).sum + 15 ≤ R0.locals) (hc : n ≤ R0.cells) (hs : n' ≤ R0.slots) (d : DEC cc pc 3 pc' (.invokestatic ix)) (kk : VW k z n n' ws pc' lo (.int (if y < x then y else x) :: st)) : VW k z n n' ws pc lo (.int y :: .int x :: st) := by
  obtain ⟨d, rfl⟩ := d
  exact fun H L la hP hD hS hl => va_mmin X.1 X.2.1 (X.ml.trans (hlo.symm.trans hl.1.symm)) X.own1 (X.ts _ w.1.1) (X.ts _ w.2) (X.ts _ w.1.2.2.1) (X.ts _ w.1.2.1) (by rw [X.R]; exact hR.1) (by rw [X.R]; omega) (by rw [X.R]; exact hc) (by rw [X.R]; exact hs) d (kk H L la hP hD hS hl)
theorem r_imax (X : XX k strs z own cc nL ret R0) {ix : Nat} {x y : Int32} (w : LKS own ix Lib.Math.max.name Lib.Math.max.code 2 (some .int) 2) (hlo : lo.length = nL) (hR : 1 ≤ R0.frames ∧ (st.map fun v => v.category).sum + 15 ≤ R0.locals) (hc : n ≤ R0.cells) (hs : n' ≤ R0.slots) (d : DEC cc pc 3 pc' (.invokestatic ix)) (kk : VW k z n n' ws pc' lo (.int (if x < y then y else x) :: st)) : VW k z n n' ws pc lo (.int y :: .int x :: st) := by
  obtain ⟨d, rfl⟩ := d
  exact fun H L la hP hD hS hl => va_mmax X.1 X.2.1 (X.ml.trans (hlo.symm.trans hl.1.symm)) X.own1 (X.ts _ w.1.1) (X.ts _ w.2) (X.ts _ w.1.2.2.1) (X.ts _ w.1.2.1) (by rw [X.R]; exact hR.1) (by rw [X.R]; omega) (by rw [X.R]; exact hc) (by rw [X.R]; exact hs) d (kk H L la hP hD hS hl)
theorem r_iabs (X : XX k strs z own cc nL ret R0) {ix : Nat} {x : Int32} (w : LKS own ix Lib.Math.abs.name Lib.Math.abs.code 1 (some .int) 1) (hlo : lo.length = nL) (hR : 1 ≤ R0.frames ∧ (st.map fun v => v.category).sum + 15 ≤ R0.locals) (hc : n ≤ R0.cells) (hs : n' ≤ R0.slots) (d : DEC cc pc 3 pc' (.invokestatic ix)) (kk : VW k z n n' ws pc' lo (.int (if 0 ≤ x then x else 0 - x) :: st)) : VW k z n n' ws pc lo (.int x :: st) := by
  obtain ⟨d, rfl⟩ := d
  exact fun H L la hP hD hS hl => va_mabs X.1 X.2.1 (X.ml.trans (hlo.symm.trans hl.1.symm)) X.own1 (X.ts _ w.1.1) (X.ts _ w.2) (X.ts _ w.1.2.2.1) (X.ts _ w.1.2.1) (by rw [X.R]; exact hR.1) (by rw [X.R]; omega) (by rw [X.R]; exact hc) (by rw [X.R]; exact hs) d (kk H L la hP hD hS hl)
theorem r_lmin (X : XX k strs z own cc nL ret R0) {ix : Nat} {x y : Int64} (w : LKS own ix Lib.MathLoose.min_long.x Lib.MathLoose.min_long.code 4 (some .long) 2) (hlo : lo.length = nL) (hR : 1 ≤ R0.frames ∧ (st.map fun v => v.category).sum + 15 ≤ R0.locals) (hc : n ≤ R0.cells) (hs : n' ≤ R0.slots) (d : DEC cc pc 3 pc' (.invokestatic ix)) (kk : VW k z n n' ws pc' lo (.long (if y < x then y else x) :: st)) : VW k z n n' ws pc lo (.long y :: .long x :: st) := by
  obtain ⟨d, rfl⟩ := d
  exact fun H L la hP hD hS hl => va_mmin_long X.1 X.2.1 (X.ml.trans (hlo.symm.trans hl.1.symm)) X.own1 (X.ts _ w.1.1) (X.ts _ w.2) (X.ts _ w.1.2.2.1) (X.ts _ w.1.2.1) (by rw [X.R]; exact hR.1) (by rw [X.R]; omega) (by rw [X.R]; exact hc) (by rw [X.R]; exact hs) d (kk H L la hP hD hS hl)
theorem r_lmax (X : XX k strs z own cc nL ret R0) {ix : Nat} {x y : Int64} (w : LKS own ix Lib.MathLoose.max_long.x Lib.MathLoose.max_long.code 4 (some .long) 2) (hlo : lo.length = nL) (hR : 1 ≤ R0.frames ∧ (st.map fun v => v.category).sum + 15 ≤ R0.locals) (hc : n ≤ R0.cells) (hs : n' ≤ R0.slots) (d : DEC cc pc 3 pc' (.invokestatic ix)) (kk : VW k z n n' ws pc' lo (.long (if y < x then x else y) :: st)) : VW k z n n' ws pc lo (.long y :: .long x :: st) := by
  obtain ⟨d, rfl⟩ := d
  exact fun H L la hP hD hS hl => va_mmax_long X.1 X.2.1 (X.ml.trans (hlo.symm.trans hl.1.symm)) X.own1 (X.ts _ w.1.1) (X.ts _ w.2) (X.ts _ w.1.2.2.1) (X.ts _ w.1.2.1) (by rw [X.R]; exact hR.1) (by rw [X.R]; omega) (by rw [X.R]; exact hc) (by rw [X.R]; exact hs) d (kk H L la hP hD hS hl)
theorem r_labs (X : XX k strs z own cc nL ret R0) {ix : Nat} {x : Int64} (w : LKS own ix Lib.MathLoose.abs_long.x Lib.MathLoose.abs_long.code 2 (some .long) 1) (hlo : lo.length = nL) (hR : 1 ≤ R0.frames ∧ (st.map fun v => v.category).sum + 15 ≤ R0.locals) (hc : n ≤ R0.cells) (hs : n' ≤ R0.slots) (d : DEC cc pc 3 pc' (.invokestatic ix)) (kk : VW k z n n' ws pc' lo (.long (if 0 < x then x else -x) :: st)) : VW k z n n' ws pc lo (.long x :: st) := by
  obtain ⟨d, rfl⟩ := d
  exact fun H L la hP hD hS hl => va_mabs_long X.1 X.2.1 (X.ml.trans (hlo.symm.trans hl.1.symm)) X.own1 (X.ts _ w.1.1) (X.ts _ w.2) (X.ts _ w.1.2.2.1) (X.ts _ w.1.2.1) (by rw [X.R]; exact hR.1) (by rw [X.R]; omega) (by rw [X.R]; exact hc) (by rw [X.R]; exact hs) d (kk H L la hP hD hS hl)
/-- System.arraycopy of whole rows -/
def LKA (own : String) (ix : Nat) : Prop := .methodLink own ix arraycopyName ∈ bigw ∧ .native arraycopyName ∈ bigw ∧ .static arraycopyName ∈ bigw ∧ .initialized "java/lang/System" ∈ bigw
theorem r_copyi (X : XX k strs z own cc nL ret R0) {ix a0 a n0 n1 : Nat} {f g : Nat → Int32} {len : Int32} {m : Nat} {ws1 : va_W} (w : LKA own ix) (q0 q1 : Nat) (he0 : ws[q0]? = some (a0, .inl (k.c 0, (n0, .inl f)))) (he1 : ws[q1]? = some (a, .inl (k.c 0, (n1, .inl g)))) (hm : len.toNatClampNeg = m) (h3 : ¬ len < 0) (h4 : m ≤ n0) (h5 : m ≤ n1) (hws : ws.set q1 (a, .inl (k.c 0, (n1, .inl (va_cpy f g 0 0 m)))) = ws1) (hlo : lo.length = nL) (hR : 1 ≤ R0.frames ∧ (st.map fun v => v.category).sum + (nativeFrameWords "java/lang/System" "arraycopy" 5 + 11) ≤ R0.locals) (d : DEC cc pc 3 pc' (.invokestatic ix)) (kk : VW k z n n' ws1 pc' lo st) : VW k z n n' ws pc lo (.int len :: .int 0 :: .ref a :: .int 0 :: .ref a0 :: st) := by
  obtain ⟨d, rfl⟩ := d
  subst hws; subst hm
  have z0 : (0 : Int32).toNatClampNeg = 0 := by decide
  exact fun H L la hP hD hS hl => va_copyi X.1 X.2.1 (X.ml.trans (hlo.symm.trans hl.1.symm)) X.own1 (X.ts _ w.1) (X.ts _ w.2.1) (X.ts _ w.2.2.1) (X.ts _ w.2.2.2) X.K hP hD hS q0 q1 0 0 he0 he1 rfl rfl rfl (by decide) (by decide) h3 (by rw [z0]; omega) (by rw [z0]; omega) (fun _ _ => rfl) (by rw [X.R]; exact hR.1) (by rw [X.R]; exact hR.2) d (fun H1 L1 hP hD hS => by rw [z0] at hP hD; exact kk H1 L1 la hP hD hS hl)
theorem r_copyl (X : XX k strs z own cc nL ret R0) {ix a0 a n0 n1 : Nat} {f g : Nat → Int64} {len : Int32} {m : Nat} {ws1 : va_W} (w : LKA own ix) (q0 q1 : Nat) (he0 : ws[q0]? = some (a0, .inl (k.c 1, (n0, .inr (.inl f))))) (he1 : ws[q1]? = some (a, .inl (k.c 1, (n1, .inr (.inl g))))) (hm : len.toNatClampNeg = m) (h3 : ¬ len < 0) (h4 : m ≤ n0) (h5 : m ≤ n1) (hws : ws.set q1 (a, .inl (k.c 1, (n1, .inr (.inl (va_cpy f g 0 0 m))))) = ws1) (hlo : lo.length = nL) (hR : 1 ≤ R0.frames ∧ (st.map fun v => v.category).sum + (nativeFrameWords "java/lang/System" "arraycopy" 5 + 11) ≤ R0.locals) (d : DEC cc pc 3 pc' (.invokestatic ix)) (kk : VW k z n n' ws1 pc' lo st) : VW k z n n' ws pc lo (.int len :: .int 0 :: .ref a :: .int 0 :: .ref a0 :: st) := by
  obtain ⟨d, rfl⟩ := d
  subst hws; subst hm
  have z0 : (0 : Int32).toNatClampNeg = 0 := by decide
  exact fun H L la hP hD hS hl => va_copyl X.1 X.2.1 (X.ml.trans (hlo.symm.trans hl.1.symm)) X.own1 (X.ts _ w.1) (X.ts _ w.2.1) (X.ts _ w.2.2.1) (X.ts _ w.2.2.2) X.K hP hD hS q0 q1 1 1 he0 he1 rfl rfl rfl (by decide) (by decide) h3 (by rw [z0]; omega) (by rw [z0]; omega) (fun _ _ => rfl) (by rw [X.R]; exact hR.1) (by rw [X.R]; exact hR.2) d (fun H1 L1 hP hD hS => by rw [z0] at hP hD; exact kk H1 L1 la hP hD hS hl)
-- a method that may throw
def QXof (k : KT) (out : Option Value ⊕ Nat) (ws : va_W) : Array Value → State → Outcome → State → Prop := fun a st oc t => ∃ o, out = .inl o ∧ Qof k o ws a st oc t
def XCof (k : KT) (out : Option Value ⊕ Nat) (ws : va_W) : String → State → State → Prop := fun E st t => (∃ e, out = .inr e ∧ e < 4 ∧ E = exN e) ∧ va_P k.D clS ws t.heap ∧ va_D (kA k) ws ∧ va_F (kA k) st t
def CX (k : KT) (strs : List ST) (y : MethodName) (cc : ByteArray) (nL : Nat) (ret : Option FieldType) (R0 : Room) (args : List Value) (ws : va_W) (out : Option Value ⊕ Nat) (ws' : va_W) : Prop :=
  vx_Met k.l y (.code y cc nL ret :: bigw) R0 (va_Pc args (PW k strs ws)) (QXof k out ws') (XCof k out ws') 1 6 (kA k)
theorem CX.of {y : MethodName} {R0 : Room} {args : List Value} {ws ws' : va_W} {out : Option Value ⊕ Nat} (hy : plainName y.cls = true) (hn : (lg_sl args).length ≤ nL)
    (body : ∀ z : ZT, XX k strs z y.cls cc nL ret R0 → (∀ x ∈ (zC z).exceptionTable.toList, False) → zQ z = vx_MQ (zB z) (QXof k out ws') (XCof k out ws') (zA z) (zS z) 1 6 (kA k) → VW k z 0 0 ws 0 (loOf (lg_sl args ++ List.replicate (nL - (lg_sl args).length) Slot.unset)) []) : CX k strs y cc nL ret R0 args ws out ws' := by
  refine vx_ofW (cc := cc) (maxL := nL) (ret := ret) hy rfl ?_
  intro p e s m as below meth c s₁ B hml htab hv
  obtain ⟨rfl, hP, hD, hF, hb0⟩ := hv
  have hts : ∀ w ∈ bigw, w.before args.toArray s = true := fun w hw => atoms_spec (ws := .code y cc nL ret :: bigw) B.pre w (List.mem_cons_of_mem _ hw)
  have K := body (p, e, R0, s, m, args.toArray, below, meth, c, vx_MQ below (QXof k out ws') (XCof k out ws') args.toArray s 1 6 (kA k)) ⟨B.exec, B.bytes, hml, B.returns, rfl, B.notSynchronized, findClass_of_methodNamed B.named, hts, hF, hb0⟩ htab rfl
  rw [lg_entry_eq]
  exact K s.heap [] _ hP hD va_S.rf (lvH.of_args (lv_entry args hn))
theorem x_ireturn (X : XX k strs z own cc nL (some .int) R0) {out : Option Value ⊕ Nat} {ws' : va_W} {v : Int32} (hQ : zQ z = vx_MQ (zB z) (QXof k out ws') (XCof k out ws') (zA z) (zS z) 1 6 (kA k)) (ho : out = .inl (some (.int v))) (hw : ws = ws') (hc : n ≤ 1) (hs : n' ≤ 6) (d : DEC cc pc 1 pc' .ireturn) : VW k z n n' ws pc lo [.int v] := by
  intro H L la hP hD hS hl
  subst ho; subst hw
  obtain ⟨d, rfl⟩ := d
  unfold ZW
  rw [hQ]
  exact vx_ret (W.widen hc hs (W.iret X.1 X.2.1 X.ret1 (fun t ht _ => ⟨_, rfl, rfl, by rw [ht]; exact hP, hD, hS.F ht⟩) hS.2.2 d X.locks))
theorem x_zreturn (X : XX k strs z own cc nL (some .boolean) R0) {out : Option Value ⊕ Nat} {ws' : va_W} {v : Int32} (hQ : zQ z = vx_MQ (zB z) (QXof k out ws') (XCof k out ws') (zA z) (zS z) 1 6 (kA k)) (ho : out = .inl (some (.int v))) (hw : ws = ws') (hc : n ≤ 1) (hs : n' ≤ 6) (hv : narrow .boolean (.int v) = .int v) (d : DEC cc pc 1 pc' .ireturn) : VW k z n n' ws pc lo [.int v] := by
  intro H L la hP hD hS hl
  subst ho; subst hw
  obtain ⟨d, rfl⟩ := d
  unfold ZW
  rw [hQ]
  exact vx_ret (W.widen hc hs (W.zret X.1 X.2.1 X.ret1 hv (fun t ht _ => ⟨_, rfl, rfl, by rw [ht]; exact hP, hD, hS.F ht⟩) hS.2.2 d X.locks))
theorem x_lreturn (X : XX k strs z own cc nL (some .long) R0) {out : Option Value ⊕ Nat} {ws' : va_W} {v : Int64} (hQ : zQ z = vx_MQ (zB z) (QXof k out ws') (XCof k out ws') (zA z) (zS z) 1 6 (kA k)) (ho : out = .inl (some (.long v))) (hw : ws = ws') (hc : n ≤ 1) (hs : n' ≤ 6) (d : DEC cc pc 1 pc' .lreturn) : VW k z n n' ws pc lo [.long v] := by
  intro H L la hP hD hS hl
  subst ho; subst hw
  obtain ⟨d, rfl⟩ := d
  unfold ZW
  rw [hQ]
  exact vx_ret (W.widen hc hs (W.lret X.1 X.2.1 X.ret1 (fun t ht _ => ⟨_, rfl, rfl, by rw [ht]; exact hP, hD, hS.F ht⟩) hS.2.2 d X.locks))
theorem x_dreturn (X : XX k strs z own cc nL (some .double) R0) {out : Option Value ⊕ Nat} {ws' : va_W} {v : UInt64} (hQ : zQ z = vx_MQ (zB z) (QXof k out ws') (XCof k out ws') (zA z) (zS z) 1 6 (kA k)) (ho : out = .inl (some (.double v))) (hw : ws = ws') (hc : n ≤ 1) (hs : n' ≤ 6) (d : DEC cc pc 1 pc' .dreturn) : VW k z n n' ws pc lo [.double v] := by
  intro H L la hP hD hS hl
  subst ho; subst hw
  obtain ⟨d, rfl⟩ := d
  unfold ZW
  rw [hQ]
  have hlk := X.locks
  exact vx_ret (W.widen hc hs (W.dret X.1 X.2.1 X.ret1 (fun t ht _ => ⟨_, rfl, rfl, by rw [ht]; exact hP, hD, hS.F ht⟩) hS.2.2 d))
def exNames : List String := ["java/lang/RuntimeException", "java/lang/Exception"]
/-- throw new E() out of class own: entry ik is E, entry ic its constructor -/
def LKT (own : String) (ik ic e : Nat) : Prop := .classLink own ik (exN e) ∈ bigw ∧ .initialized (exN e) ∈ bigw ∧ (∀ w ∈ vx_at0 own ic (exN e) exNames, w ∈ bigw ∨ (∃ C T, w = .castable C T ∧ w ∈ lw_tbl) ∨ ∃ y, w = .declares y ∧ w ∈ lw_tbl)
theorem r_throw (X : XX k strs z own cc nL ret R0) (hT : ∀ x ∈ (zC z).exceptionTable.toList, False) {out : Option Value ⊕ Nat} {ws' : va_W} {e ik ic p1 p2 p3 p4 : Nat} (w : LKT own ik ic e) (he : e < 4) (hQ : zQ z = vx_MQ (zB z) (QXof k out ws') (XCof k out ws') (zA z) (zS z) 1 6 (kA k)) (ho : out = .inr e) (hw : ws = ws') (hc : n + 1 ≤ 1) (hs : n' + 6 ≤ 6) (hlo : lo.length = nL) (hR : 6 ≤ R0.frames ∧ (st.map fun v => v.category).sum + 81 ≤ R0.locals ∧ 1 ≤ R0.cells ∧ 6 ≤ R0.slots)
    (d0 : DEC cc pc 3 p1 (.new ik)) (d1 : DEC cc p1 1 p2 .dup) (d2 : DEC cc p2 3 p3 (.invokespecial ic)) (d3 : DEC cc p3 1 p4 .athrow) : VW k z n n' ws pc lo st := by
  intro H L la hP hD hS hl
  subst hw
  obtain ⟨d0, rfl⟩ := d0
  obtain ⟨d1, rfl⟩ := d1
  obtain ⟨d2, rfl⟩ := d2
  obtain ⟨d3, -⟩ := d3
  unfold ZW
  rw [hQ]
  have hat : ∀ u ∈ vx_at0 own ic (exN e) exNames, u.before (zA z) (zS z) = true := by
    intro u hu
    rcases w.2.2 u hu with h | ⟨C, T, rfl, h⟩ | ⟨y, rfl, h⟩
    · exact X.ts u h
    · exact va_Nw.use rfl (X.F.2.2.2.2.2.1 C T h)
    · exact va_Nw.use rfl (X.F.2.2.2.2.2.2.1 y h)
  have hgood : ∀ u ∈ Cond.classLink own ik (exN e) :: Cond.initialized (exN e) :: vx_at0 own ic (exN e) exNames, vx_ot u = true := by
    intro u hu
    rcases List.mem_cons.mp hu with rfl | hu
    · rfl
    · rcases List.mem_cons.mp hu with rfl | hu
      · rfl
      · rcases w.2.2 u hu with h | ⟨C, T, rfl, -⟩ | ⟨y, rfl, -⟩
        · unfold vx_ot; rw [(List.mem_filter.mp h).2, Bool.or_true]
        · rfl
        · rfl
  refine vx_throw0 X.1 X.2.1 X.F.2.2.2.2.2.2.2.2.1 (own := own) (cls := exN e) (names := exNames) (ik := ik) (ic := ic) (A := kA k) X.own1 ?_ ?_ (X.ts _ w.1) (X.ts _ w.2.1) hat hgood X.F.2.2.1 X.F.2.2.2.1 hS (hl.1.trans (hlo.trans X.ml.symm)) d0 d1 d2 d3 (fun x hx => absurd (hT x hx) id) ?_ ?_ ?_ ?_ X.locks ?_ hS.2.2 hc hs
  · rcases (show e = 0 ∨ e = 1 ∨ e = 2 ∨ e = 3 by omega) with rfl | rfl | rfl | rfl <;> decide
  · decide
  · rw [X.R]; exact hR.1
  · rw [X.R]; exact hR.2.1
  · rw [X.R]; exact Nat.le_trans hc hR.2.2.1
  · rw [X.R]; exact Nat.le_trans hs hR.2.2.2
  · intro t ha hz hk
    refine ⟨⟨e, ho, he, rfl⟩, hP.kept (fun i q hq => hk q.1 (hP i q hq).lt), hD, Nat.le_trans hS.1 hz, fun q h1 h2 => ?_⟩
    rw [hk q (Nat.lt_of_lt_of_le h1 hS.1)]
    exact hS.2.1 q h1 h2
-- f's own words
def gd {α : Type} (b : Bool) (x : Option α) : Option α := if b = true then x else none
theorem gdS {α : Type} {b : Bool} {x : Option α} {r : α} (h : gd b x = some r) : b = true ∧ x = some r := by
  unfold gd at h
  split at h
  · exact ⟨by assumption, h⟩
  · cases h
theorem bdS {α β : Type} {x : Option α} {f : α → Option β} {r : β} (h : x.bind f = some r) : ∃ u, x = some u ∧ f u = some r := Option.bind_eq_some_iff.mp h
theorem ifT {α : Type} {c : Prop} [Decidable c] {a b : Option α} {r : α} (h : (if c then a else b) = some r) (hc : c) : a = some r := by rwa [if_pos hc] at h
theorem ifF {α : Type} {c : Prop} [Decidable c] {a b : Option α} {r : α} (h : (if c then a else b) = some r) (hc : ¬ c) : b = some r := by rwa [if_neg hc] at h
end ROWS
