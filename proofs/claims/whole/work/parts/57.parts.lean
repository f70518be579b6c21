/-! a system, while its text is read -/
def d00 (a : AS) (og rl lk : Nat → Nat) : AD := (0, 0, 0, 0, fun c => 1000000 * AS_vol a c, og, rl, lk, fun _ => false, fun _ => false, fun _ => 0, fun _ => 0, fun _ _ => 0)
def PLC (a : AS) (og rl lk : Nat → Nat) (ly : LL) : Prop := RCs a ly ∧ (∀ c, c < AS_nC a → LL_firstOutgassing ly c = i4 (og c)) ∧ (∀ v, v < AS_nV a → LL_firstRule ly v = i4 (rl v)) ∧ (∀ f, f < AS_nF a → LL_firstLeak ly f = i4 (lk f))
def PLW (a : AS) (og rl lk : Nat → Nat) : Prop := WFs a ∧ (∀ c, c < AS_nC a → og c ≤ 9999) ∧ (∀ v, v < AS_nV a → rl v ≤ 1000000) ∧ (∀ f, f < AS_nF a → lk f ≤ 9999)
def PLM (a : AS) (og rl lk : Nat → Nat) (w : Nat → Int64) : Prop := RMs a w ∧ RMd a (d00 a og rl lk) w ∧ (∀ p, AS_nP a ≤ p → p < 6 → w (40 + 8 * p + 6) = 0 ∧ w (40 + 8 * p + 7) = 0) ∧ (∀ v, AS_nV a ≤ v → v < 10 → w (88 + 6 * v + 4) = 0 ∧ w (88 + 6 * v + 5) = 0)
def aF (a : AS) (c : Nat) : AS := AS_set_nF (AS_set_fH a (setN (AS_fH a) (AS_nF a) c)) (AS_nF a + 1)
theorem C_addF {a : AS} {og rl lk : Nat → Nat} {ly : LL} (hN : AS_nF a < 24) (h : PLC a og rl lk ly) (c x : Nat) : ∃ ly', f1_addFlange ly (i4 c) (i4 x) = some ly' ∧ PLC (aF a c) og rl (setN lk (AS_nF a) x) ly' := by
  obtain ⟨⟨⟨h0, h1, h2, h3⟩, hc, hp, hv, hf⟩, g1, g2, g3⟩ := h
  refine ⟨LL_set_flanges (LL_set_firstLeak (LL_set_flangeChamber ly (upd (LL_flangeChamber ly) (AS_nF a) (i4 c))) (upd (LL_firstLeak ly) (AS_nF a) (i4 x))) (i4 (AS_nF a + 1)), ?_, ⟨⟨h0, h1, h2, rfl⟩, hc, hp, hv, fun f hf' => ?_⟩, g1, g2, fun f hf' => ?_⟩
  · unfold f1_addFlange
    rw [h3, if_pos (show i4 (AS_nF a) < (24 : Int32) from (i4_lt (b := 24) (by omega) (by omega)).mpr hN), gdi _ (by omega) (by omega), ix4 (by omega), ad1]
  · have hf2 : f < AS_nF a + 1 := hf'
    show upd (LL_flangeChamber ly) (AS_nF a) (i4 c) f = i4 (setN (AS_fH a) (AS_nF a) c f)
    by_cases he : f = AS_nF a
    · rw [he, upd_self, setN_self]
    · rw [upd_ne _ _ he, setN_ne _ _ he]; exact hf f (by omega)
  · have hf2 : f < AS_nF a + 1 := hf'
    show upd (LL_firstLeak ly) (AS_nF a) (i4 x) f = i4 (setN lk (AS_nF a) x f)
    by_cases he : f = AS_nF a
    · rw [he, upd_self, setN_self]
    · rw [upd_ne _ _ he, setN_ne _ _ he]; exact g3 f (by omega)
theorem W_addF {a : AS} {og rl lk : Nat → Nat} (hN : AS_nF a < 24) (h : PLW a og rl lk) {c x : Nat} (hc : c < AS_nC a) (hx : x ≤ 9999) : PLW (aF a c) og rl (setN lk (AS_nF a) x) := by
  obtain ⟨⟨⟨n1, n2, n3, n4⟩, w1, w2, w3, w4⟩, g1, g2, g3⟩ := h
  refine ⟨⟨⟨n1, n2, n3, by show AS_nF a + 1 ≤ 24; omega⟩, w1, w2, w3, fun f hf => ?_⟩, g1, g2, fun f hf => ?_⟩
  · have hf2 : f < AS_nF a + 1 := hf
    show setN (AS_fH a) (AS_nF a) c f < AS_nC a
    by_cases he : f = AS_nF a
    · rw [he, setN_self]; exact hc
    · rw [setN_ne _ _ he]; exact w4 f (by omega)
  · have hf2 : f < AS_nF a + 1 := hf
    show setN lk (AS_nF a) x f ≤ 9999
    by_cases he : f = AS_nF a
    · rw [he, setN_self]; exact hx
    · rw [setN_ne _ _ he]; exact g3 f (by omega)
theorem M_addF {a : AS} {og rl lk : Nat → Nat} {w : Nat → Int64} (hN : AS_nF a < 24) (hW : PLW a og rl lk) (h : PLM a og rl lk w) (c x : Nat) : PLM (aF a c) og rl (setN lk (AS_nF a) x) (vp_updL (vp_updL (vp_updL w (148 + 2 * AS_nF a) (i8 c)) (148 + 2 * AS_nF a + 1) (i8 x)) 3 (i8 (AS_nF a + 1))) := by
  obtain ⟨n1, n2, n3, n4⟩ := hW.1.1
  obtain ⟨⟨⟨h0, h1, h2, h3⟩, hc, hp, hv, hf⟩, ⟨⟨d0, d1, d2, d3⟩, dc, dp, dv, df, dg⟩, zp, zv⟩ := h
  have lo : ∀ k, k ≠ 3 → k ≠ 148 + 2 * AS_nF a → k ≠ 148 + 2 * AS_nF a + 1 → vp_updL (vp_updL (vp_updL w (148 + 2 * AS_nF a) (i8 c)) (148 + 2 * AS_nF a + 1) (i8 x)) 3 (i8 (AS_nF a + 1)) k = w k := fun k k1 k2 k3 => by rw [updL_ne _ _ k1, updL_ne _ _ k3, updL_ne _ _ k2]
  refine ⟨⟨⟨?_, ?_, ?_, ?_⟩, fun c' hc' => ⟨?_, ?_⟩, fun p hp' => ⟨?_, ?_, ?_, ?_, ?_, ?_⟩, fun v hv' => ⟨?_, ?_, ?_⟩, fun f hf' => ?_⟩, ⟨⟨?_, ?_, ?_, ?_⟩, fun c' hc' => ⟨?_, ?_⟩, fun p hp' => ⟨?_, ?_⟩, fun v hv' => ⟨?_, ?_, ?_⟩, fun f hf' => ?_, fun g j hg hj => ?_⟩, fun p q1 q2 => ⟨?_, ?_⟩, fun v q1 q2 => ⟨?_, ?_⟩⟩
  · rw [lo _ (by omega) (by omega) (by omega)]; exact h0
  · rw [lo _ (by omega) (by omega) (by omega)]; exact h1
  · rw [lo _ (by omega) (by omega) (by omega)]; exact h2
  · rw [updL_self]; rfl
  · have hc2 : c' < AS_nC a := hc'
    rw [lo _ (by omega) (by omega) (by omega)]; exact (hc c' hc').1
  · have hc2 : c' < AS_nC a := hc'
    rw [lo _ (by omega) (by omega) (by omega)]; exact (hc c' hc').2
  · have hp2 : p < AS_nP a := hp'
    rw [lo _ (by omega) (by omega) (by omega)]; exact (hp p hp').1
  · have hp2 : p < AS_nP a := hp'
    rw [lo _ (by omega) (by omega) (by omega)]; exact (hp p hp').2.1
  · have hp2 : p < AS_nP a := hp'
    rw [lo _ (by omega) (by omega) (by omega)]; exact (hp p hp').2.2.1
  · have hp2 : p < AS_nP a := hp'
    rw [lo _ (by omega) (by omega) (by omega)]; exact (hp p hp').2.2.2.1
  · have hp2 : p < AS_nP a := hp'
    rw [lo _ (by omega) (by omega) (by omega)]; exact (hp p hp').2.2.2.2.1
  · have hp2 : p < AS_nP a := hp'
    rw [lo _ (by omega) (by omega) (by omega)]; exact (hp p hp').2.2.2.2.2
  · have hv2 : v < AS_nV a := hv'
    rw [lo _ (by omega) (by omega) (by omega)]; exact (hv v hv').1
  · have hv2 : v < AS_nV a := hv'
    rw [lo _ (by omega) (by omega) (by omega)]; exact (hv v hv').2.1
  · have hv2 : v < AS_nV a := hv'
    rw [lo _ (by omega) (by omega) (by omega)]; exact (hv v hv').2.2
  · have hf2 : f < AS_nF a + 1 := hf'
    show _ = i8 (setN (AS_fH a) (AS_nF a) c f)
    by_cases he : f = AS_nF a
    · rw [he, updL_ne _ _ (by omega), updL_ne _ _ (by omega), updL_self, setN_self]
    · rw [lo _ (by omega) (by omega) (by omega), setN_ne _ _ he]; exact hf f (by omega)
  · rw [lo _ (by omega) (by omega) (by omega)]; exact d0
  · rw [lo _ (by omega) (by omega) (by omega)]; exact d1
  · rw [lo _ (by omega) (by omega) (by omega)]; exact d2
  · rw [lo _ (by omega) (by omega) (by omega)]; exact d3
  · have hc2 : c' < AS_nC a := hc'
    rw [lo _ (by omega) (by omega) (by omega)]; exact (dc c' hc').1
  · have hc2 : c' < AS_nC a := hc'
    rw [lo _ (by omega) (by omega) (by omega)]; exact (dc c' hc').2
  · have hp2 : p < AS_nP a := hp'
    rw [lo _ (by omega) (by omega) (by omega)]; exact (dp p hp').1
  · have hp2 : p < AS_nP a := hp'
    rw [lo _ (by omega) (by omega) (by omega)]; exact (dp p hp').2
  · have hv2 : v < AS_nV a := hv'
    rw [lo _ (by omega) (by omega) (by omega)]; exact (dv v hv').1
  · have hv2 : v < AS_nV a := hv'
    rw [lo _ (by omega) (by omega) (by omega)]; exact (dv v hv').2.1
  · have hv2 : v < AS_nV a := hv'
    rw [lo _ (by omega) (by omega) (by omega)]; exact (dv v hv').2.2
  · have hf2 : f < AS_nF a + 1 := hf'
    show _ = i8 (setN lk (AS_nF a) x f)
    by_cases he : f = AS_nF a
    · rw [he, updL_ne _ _ (by omega), updL_self, setN_self]
    · rw [lo _ (by omega) (by omega) (by omega), setN_ne _ _ he]; exact df f (by omega)
  · exact absurd hg (Nat.not_lt_zero g)
  · rw [lo _ (by omega) (by omega) (by omega)]; exact (zp p q1 q2).1
  · rw [lo _ (by omega) (by omega) (by omega)]; exact (zp p q1 q2).2
  · rw [lo _ (by omega) (by omega) (by omega)]; exact (zv v q1 q2).1
  · rw [lo _ (by omega) (by omega) (by omega)]; exact (zv v q1 q2).2
