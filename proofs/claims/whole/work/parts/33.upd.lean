/-! writes -/
/-- places of the reference's row that a text settles -/
def stat (k : Nat) : Prop := k < 4 ∨ (8 ≤ k ∧ k < 40 ∧ (k % 4 = 0 ∨ k % 4 = 2)) ∨ (40 ≤ k ∧ k < 88 ∧ k % 8 < 6) ∨ (88 ≤ k ∧ k < 148 ∧ (k - 88) % 6 < 3) ∨ (148 ≤ k ∧ k < 196 ∧ k % 2 = 0)
theorem RMs_congr {a : AS} {w w' : Nat → Int64} (hW : WFs a) (h : RMs a w) (e : ∀ k, stat k → w' k = w k) : RMs a w' := by
  have hN := hW.1
  obtain ⟨h1, h2, h3, h4, h5⟩ := h
  refine ⟨⟨?_, ?_, ?_, ?_⟩, fun c hc => ⟨?_, ?_⟩, fun p hp => ⟨?_, ?_, ?_, ?_, ?_, ?_⟩, fun v hv => ⟨?_, ?_, ?_⟩, fun f hf => ?_⟩
  · rw [e _ (by unfold stat; omega)]; exact h1.1
  · rw [e _ (by unfold stat; omega)]; exact h1.2.1
  · rw [e _ (by unfold stat; omega)]; exact h1.2.2.1
  · rw [e _ (by unfold stat; omega)]; exact h1.2.2.2
  · rw [e _ (by unfold stat; omega)]; exact (h2 c hc).1
  · rw [e _ (by unfold stat; omega)]; exact (h2 c hc).2
  · rw [e _ (by unfold stat; omega)]; exact (h3 p hp).1
  · rw [e _ (by unfold stat; omega)]; exact (h3 p hp).2.1
  · rw [e _ (by unfold stat; omega)]; exact (h3 p hp).2.2.1
  · rw [e _ (by unfold stat; omega)]; exact (h3 p hp).2.2.2.1
  · rw [e _ (by unfold stat; omega)]; exact (h3 p hp).2.2.2.2.1
  · rw [e _ (by unfold stat; omega)]; exact (h3 p hp).2.2.2.2.2
  · rw [e _ (by unfold stat; omega)]; exact (h4 v hv).1
  · rw [e _ (by unfold stat; omega)]; exact (h4 v hv).2.1
  · rw [e _ (by unfold stat; omega)]; exact (h4 v hv).2.2
  · rw [e _ (by unfold stat; omega)]; exact h5 f hf
theorem RMs_upd {a : AS} {w : Nat → Int64} (hW : WFs a) (h : RMs a w) {k : Nat} (x : Int64) (hk : ¬ stat k) : RMs a (vp_updL w k x) :=
  RMs_congr hW h (fun j hj => updL_ne _ _ (fun e => hk (e ▸ hj)))
theorem RM_tm {a : AS} {d : AD} {w : Nat → Int64} (hW : WFs a) (hA : RMs a w) (h : RMd a d w) (x : Int64) : RMs a (vp_updL w (4) (x)) ∧ RMd a (AD_set_tm d x) (vp_updL w (4) (x)) := by
  have hN := hW.1
  refine ⟨RMs_upd hW hA _ (by unfold stat; omega), ?_⟩
  obtain ⟨h1, h2, h3, h4, h5, h6⟩ := h
  refine ⟨⟨?_, ?_, ?_, ?_⟩, fun c hc => ⟨?_, ?_⟩, fun p hp => ⟨?_, ?_⟩, fun v hv => ⟨?_, ?_, ?_⟩, fun f hf => ?_, fun g j hg hj => ?_⟩
  · rw [updL_self]; rfl
  · rw [updL_ne _ _ (by omega)]; exact h1.2.1
  · rw [updL_ne _ _ (by omega)]; exact h1.2.2.1
  · rw [updL_ne _ _ (by omega)]; exact h1.2.2.2
  · rw [updL_ne _ _ (by omega)]; exact (h2 c hc).1
  · rw [updL_ne _ _ (by omega)]; exact (h2 c hc).2
  · rw [updL_ne _ _ (by omega)]; exact (h3 p hp).1
  · rw [updL_ne _ _ (by omega)]; exact (h3 p hp).2
  · rw [updL_ne _ _ (by omega)]; exact (h4 v hv).1
  · rw [updL_ne _ _ (by omega)]; exact (h4 v hv).2.1
  · rw [updL_ne _ _ (by omega)]; exact (h4 v hv).2.2
  · rw [updL_ne _ _ (by omega)]; exact h5 f hf
  · rw [updL_ne _ _ (by omega)]; exact h6 g j hg hj
theorem RM_vTs {a : AS} {d : AD} {w : Nat → Int64} (hW : WFs a) (hA : RMs a w) (h : RMd a d w) (x : Int64) : RMs a (vp_updL w (5) (x)) ∧ RMd a (AD_set_vTs d x) (vp_updL w (5) (x)) := by
  have hN := hW.1
  refine ⟨RMs_upd hW hA _ (by unfold stat; omega), ?_⟩
  obtain ⟨h1, h2, h3, h4, h5, h6⟩ := h
  refine ⟨⟨?_, ?_, ?_, ?_⟩, fun c hc => ⟨?_, ?_⟩, fun p hp => ⟨?_, ?_⟩, fun v hv => ⟨?_, ?_, ?_⟩, fun f hf => ?_, fun g j hg hj => ?_⟩
  · rw [updL_ne _ _ (by omega)]; exact h1.1
  · rw [updL_self]; rfl
  · rw [updL_ne _ _ (by omega)]; exact h1.2.2.1
  · rw [updL_ne _ _ (by omega)]; exact h1.2.2.2
  · rw [updL_ne _ _ (by omega)]; exact (h2 c hc).1
  · rw [updL_ne _ _ (by omega)]; exact (h2 c hc).2
  · rw [updL_ne _ _ (by omega)]; exact (h3 p hp).1
  · rw [updL_ne _ _ (by omega)]; exact (h3 p hp).2
  · rw [updL_ne _ _ (by omega)]; exact (h4 v hv).1
  · rw [updL_ne _ _ (by omega)]; exact (h4 v hv).2.1
  · rw [updL_ne _ _ (by omega)]; exact (h4 v hv).2.2
  · rw [updL_ne _ _ (by omega)]; exact h5 f hf
  · rw [updL_ne _ _ (by omega)]; exact h6 g j hg hj
theorem RM_pTs {a : AS} {d : AD} {w : Nat → Int64} (hW : WFs a) (hA : RMs a w) (h : RMd a d w) (x : Int64) : RMs a (vp_updL w (6) (x)) ∧ RMd a (AD_set_pTs d x) (vp_updL w (6) (x)) := by
  have hN := hW.1
  refine ⟨RMs_upd hW hA _ (by unfold stat; omega), ?_⟩
  obtain ⟨h1, h2, h3, h4, h5, h6⟩ := h
  refine ⟨⟨?_, ?_, ?_, ?_⟩, fun c hc => ⟨?_, ?_⟩, fun p hp => ⟨?_, ?_⟩, fun v hv => ⟨?_, ?_, ?_⟩, fun f hf => ?_, fun g j hg hj => ?_⟩
  · rw [updL_ne _ _ (by omega)]; exact h1.1
  · rw [updL_ne _ _ (by omega)]; exact h1.2.1
  · rw [updL_self]; rfl
  · rw [updL_ne _ _ (by omega)]; exact h1.2.2.2
  · rw [updL_ne _ _ (by omega)]; exact (h2 c hc).1
  · rw [updL_ne _ _ (by omega)]; exact (h2 c hc).2
  · rw [updL_ne _ _ (by omega)]; exact (h3 p hp).1
  · rw [updL_ne _ _ (by omega)]; exact (h3 p hp).2
  · rw [updL_ne _ _ (by omega)]; exact (h4 v hv).1
  · rw [updL_ne _ _ (by omega)]; exact (h4 v hv).2.1
  · rw [updL_ne _ _ (by omega)]; exact (h4 v hv).2.2
  · rw [updL_ne _ _ (by omega)]; exact h5 f hf
  · rw [updL_ne _ _ (by omega)]; exact h6 g j hg hj
theorem RM_oug {a : AS} {d : AD} {w : Nat → Int64} (hW : WFs a) (hA : RMs a w) (h : RMd a d w) {c0 : Nat} (h0 : c0 < AS_nC a) (x : Nat) : RMs a (vp_updL w (8 + 4 * c0 + 1) (i8 x)) ∧ RMd a (AD_set_oug d (setN (AD_oug d) c0 x)) (vp_updL w (8 + 4 * c0 + 1) (i8 x)) := by
  have hN := hW.1
  refine ⟨RMs_upd hW hA _ (by unfold stat; omega), ?_⟩
  obtain ⟨h1, h2, h3, h4, h5, h6⟩ := h
  refine ⟨⟨?_, ?_, ?_, ?_⟩, fun c hc => ⟨?_, ?_⟩, fun p hp => ⟨?_, ?_⟩, fun v hv => ⟨?_, ?_, ?_⟩, fun f hf => ?_, fun g j hg hj => ?_⟩
  · rw [updL_ne _ _ (by omega)]; exact h1.1
  · rw [updL_ne _ _ (by omega)]; exact h1.2.1
  · rw [updL_ne _ _ (by omega)]; exact h1.2.2.1
  · rw [updL_ne _ _ (by omega)]; exact h1.2.2.2
  · show vp_updL w (8 + 4 * c0 + 1) (i8 x) (8 + 4 * c + 1) = i8 (setN (AD_oug d) c0 x c)
    by_cases hk : c = c0
    · rw [hk, updL_self, setN_self]
    · rw [updL_ne _ _ (by omega), setN_ne _ _ hk]; exact (h2 c hc).1
  · rw [updL_ne _ _ (by omega)]; exact (h2 c hc).2
  · rw [updL_ne _ _ (by omega)]; exact (h3 p hp).1
  · rw [updL_ne _ _ (by omega)]; exact (h3 p hp).2
  · rw [updL_ne _ _ (by omega)]; exact (h4 v hv).1
  · rw [updL_ne _ _ (by omega)]; exact (h4 v hv).2.1
  · rw [updL_ne _ _ (by omega)]; exact (h4 v hv).2.2
  · rw [updL_ne _ _ (by omega)]; exact h5 f hf
  · rw [updL_ne _ _ (by omega)]; exact h6 g j hg hj
theorem RM_gas {a : AS} {d : AD} {w : Nat → Int64} (hW : WFs a) (hA : RMs a w) (h : RMd a d w) {c0 : Nat} (h0 : c0 < AS_nC a) (x : Nat) : RMs a (vp_updL w (8 + 4 * c0 + 3) (i8 x)) ∧ RMd a (AD_set_gas d (setN (AD_gas d) c0 x)) (vp_updL w (8 + 4 * c0 + 3) (i8 x)) := by
  have hN := hW.1
  refine ⟨RMs_upd hW hA _ (by unfold stat; omega), ?_⟩
  obtain ⟨h1, h2, h3, h4, h5, h6⟩ := h
  refine ⟨⟨?_, ?_, ?_, ?_⟩, fun c hc => ⟨?_, ?_⟩, fun p hp => ⟨?_, ?_⟩, fun v hv => ⟨?_, ?_, ?_⟩, fun f hf => ?_, fun g j hg hj => ?_⟩
  · rw [updL_ne _ _ (by omega)]; exact h1.1
  · rw [updL_ne _ _ (by omega)]; exact h1.2.1
  · rw [updL_ne _ _ (by omega)]; exact h1.2.2.1
  · rw [updL_ne _ _ (by omega)]; exact h1.2.2.2
  · rw [updL_ne _ _ (by omega)]; exact (h2 c hc).1
  · show vp_updL w (8 + 4 * c0 + 3) (i8 x) (8 + 4 * c + 3) = i8 (setN (AD_gas d) c0 x c)
    by_cases hk : c = c0
    · rw [hk, updL_self, setN_self]
    · rw [updL_ne _ _ (by omega), setN_ne _ _ hk]; exact (h2 c hc).2
  · rw [updL_ne _ _ (by omega)]; exact (h3 p hp).1
  · rw [updL_ne _ _ (by omega)]; exact (h3 p hp).2
  · rw [updL_ne _ _ (by omega)]; exact (h4 v hv).1
  · rw [updL_ne _ _ (by omega)]; exact (h4 v hv).2.1
  · rw [updL_ne _ _ (by omega)]; exact (h4 v hv).2.2
  · rw [updL_ne _ _ (by omega)]; exact h5 f hf
  · rw [updL_ne _ _ (by omega)]; exact h6 g j hg hj
theorem RM_run {a : AS} {d : AD} {w : Nat → Int64} (hW : WFs a) (hA : RMs a w) (h : RMd a d w) {p0 : Nat} (h0 : p0 < AS_nP a) (x : Bool) : RMs a (vp_updL w (40 + 8 * p0 + 6) (b8 x)) ∧ RMd a (AD_set_run d (setN (AD_run d) p0 x)) (vp_updL w (40 + 8 * p0 + 6) (b8 x)) := by
  have hN := hW.1
  refine ⟨RMs_upd hW hA _ (by unfold stat; omega), ?_⟩
  obtain ⟨h1, h2, h3, h4, h5, h6⟩ := h
  refine ⟨⟨?_, ?_, ?_, ?_⟩, fun c hc => ⟨?_, ?_⟩, fun p hp => ⟨?_, ?_⟩, fun v hv => ⟨?_, ?_, ?_⟩, fun f hf => ?_, fun g j hg hj => ?_⟩
  · rw [updL_ne _ _ (by omega)]; exact h1.1
  · rw [updL_ne _ _ (by omega)]; exact h1.2.1
  · rw [updL_ne _ _ (by omega)]; exact h1.2.2.1
  · rw [updL_ne _ _ (by omega)]; exact h1.2.2.2
  · rw [updL_ne _ _ (by omega)]; exact (h2 c hc).1
  · rw [updL_ne _ _ (by omega)]; exact (h2 c hc).2
  · show vp_updL w (40 + 8 * p0 + 6) (b8 x) (40 + 8 * p + 6) = b8 (setN (AD_run d) p0 x p)
    by_cases hk : p = p0
    · rw [hk, updL_self, setN_self]
    · rw [updL_ne _ _ (by omega), setN_ne _ _ hk]; exact (h3 p hp).1
  · rw [updL_ne _ _ (by omega)]; exact (h3 p hp).2
  · rw [updL_ne _ _ (by omega)]; exact (h4 v hv).1
  · rw [updL_ne _ _ (by omega)]; exact (h4 v hv).2.1
  · rw [updL_ne _ _ (by omega)]; exact (h4 v hv).2.2
  · rw [updL_ne _ _ (by omega)]; exact h5 f hf
  · rw [updL_ne _ _ (by omega)]; exact h6 g j hg hj
theorem RM_pT {a : AS} {d : AD} {w : Nat → Int64} (hW : WFs a) (hA : RMs a w) (h : RMd a d w) {p0 : Nat} (h0 : p0 < AS_nP a) (x : Int64) : RMs a (vp_updL w (40 + 8 * p0 + 7) (x)) ∧ RMd a (AD_set_pT d (setN (AD_pT d) p0 x)) (vp_updL w (40 + 8 * p0 + 7) (x)) := by
  have hN := hW.1
  refine ⟨RMs_upd hW hA _ (by unfold stat; omega), ?_⟩
  obtain ⟨h1, h2, h3, h4, h5, h6⟩ := h
  refine ⟨⟨?_, ?_, ?_, ?_⟩, fun c hc => ⟨?_, ?_⟩, fun p hp => ⟨?_, ?_⟩, fun v hv => ⟨?_, ?_, ?_⟩, fun f hf => ?_, fun g j hg hj => ?_⟩
  · rw [updL_ne _ _ (by omega)]; exact h1.1
  · rw [updL_ne _ _ (by omega)]; exact h1.2.1
  · rw [updL_ne _ _ (by omega)]; exact h1.2.2.1
  · rw [updL_ne _ _ (by omega)]; exact h1.2.2.2
  · rw [updL_ne _ _ (by omega)]; exact (h2 c hc).1
  · rw [updL_ne _ _ (by omega)]; exact (h2 c hc).2
  · rw [updL_ne _ _ (by omega)]; exact (h3 p hp).1
  · show vp_updL w (40 + 8 * p0 + 7) (x) (40 + 8 * p + 7) = setN (AD_pT d) p0 x p
    by_cases hk : p = p0
    · rw [hk, updL_self, setN_self]
    · rw [updL_ne _ _ (by omega), setN_ne _ _ hk]; exact (h3 p hp).2
  · rw [updL_ne _ _ (by omega)]; exact (h4 v hv).1
  · rw [updL_ne _ _ (by omega)]; exact (h4 v hv).2.1
  · rw [updL_ne _ _ (by omega)]; exact (h4 v hv).2.2
  · rw [updL_ne _ _ (by omega)]; exact h5 f hf
  · rw [updL_ne _ _ (by omega)]; exact h6 g j hg hj
theorem RM_rul {a : AS} {d : AD} {w : Nat → Int64} (hW : WFs a) (hA : RMs a w) (h : RMd a d w) {v0 : Nat} (h0 : v0 < AS_nV a) (x : Nat) : RMs a (vp_updL w (88 + 6 * v0 + 3) (i8 x)) ∧ RMd a (AD_set_rul d (setN (AD_rul d) v0 x)) (vp_updL w (88 + 6 * v0 + 3) (i8 x)) := by
  have hN := hW.1
  refine ⟨RMs_upd hW hA _ (by unfold stat; omega), ?_⟩
  obtain ⟨h1, h2, h3, h4, h5, h6⟩ := h
  refine ⟨⟨?_, ?_, ?_, ?_⟩, fun c hc => ⟨?_, ?_⟩, fun p hp => ⟨?_, ?_⟩, fun v hv => ⟨?_, ?_, ?_⟩, fun f hf => ?_, fun g j hg hj => ?_⟩
  · rw [updL_ne _ _ (by omega)]; exact h1.1
  · rw [updL_ne _ _ (by omega)]; exact h1.2.1
  · rw [updL_ne _ _ (by omega)]; exact h1.2.2.1
  · rw [updL_ne _ _ (by omega)]; exact h1.2.2.2
  · rw [updL_ne _ _ (by omega)]; exact (h2 c hc).1
  · rw [updL_ne _ _ (by omega)]; exact (h2 c hc).2
  · rw [updL_ne _ _ (by omega)]; exact (h3 p hp).1
  · rw [updL_ne _ _ (by omega)]; exact (h3 p hp).2
  · show vp_updL w (88 + 6 * v0 + 3) (i8 x) (88 + 6 * v + 3) = i8 (setN (AD_rul d) v0 x v)
    by_cases hk : v = v0
    · rw [hk, updL_self, setN_self]
    · rw [updL_ne _ _ (by omega), setN_ne _ _ hk]; exact (h4 v hv).1
  · rw [updL_ne _ _ (by omega)]; exact (h4 v hv).2.1
  · rw [updL_ne _ _ (by omega)]; exact (h4 v hv).2.2
  · rw [updL_ne _ _ (by omega)]; exact h5 f hf
  · rw [updL_ne _ _ (by omega)]; exact h6 g j hg hj
theorem RM_opn {a : AS} {d : AD} {w : Nat → Int64} (hW : WFs a) (hA : RMs a w) (h : RMd a d w) {v0 : Nat} (h0 : v0 < AS_nV a) (x : Bool) : RMs a (vp_updL w (88 + 6 * v0 + 4) (b8 x)) ∧ RMd a (AD_set_opn d (setN (AD_opn d) v0 x)) (vp_updL w (88 + 6 * v0 + 4) (b8 x)) := by
  have hN := hW.1
  refine ⟨RMs_upd hW hA _ (by unfold stat; omega), ?_⟩
  obtain ⟨h1, h2, h3, h4, h5, h6⟩ := h
  refine ⟨⟨?_, ?_, ?_, ?_⟩, fun c hc => ⟨?_, ?_⟩, fun p hp => ⟨?_, ?_⟩, fun v hv => ⟨?_, ?_, ?_⟩, fun f hf => ?_, fun g j hg hj => ?_⟩
  · rw [updL_ne _ _ (by omega)]; exact h1.1
  · rw [updL_ne _ _ (by omega)]; exact h1.2.1
  · rw [updL_ne _ _ (by omega)]; exact h1.2.2.1
  · rw [updL_ne _ _ (by omega)]; exact h1.2.2.2
  · rw [updL_ne _ _ (by omega)]; exact (h2 c hc).1
  · rw [updL_ne _ _ (by omega)]; exact (h2 c hc).2
  · rw [updL_ne _ _ (by omega)]; exact (h3 p hp).1
  · rw [updL_ne _ _ (by omega)]; exact (h3 p hp).2
  · rw [updL_ne _ _ (by omega)]; exact (h4 v hv).1
  · show vp_updL w (88 + 6 * v0 + 4) (b8 x) (88 + 6 * v + 4) = b8 (setN (AD_opn d) v0 x v)
    by_cases hk : v = v0
    · rw [hk, updL_self, setN_self]
    · rw [updL_ne _ _ (by omega), setN_ne _ _ hk]; exact (h4 v hv).2.1
  · rw [updL_ne _ _ (by omega)]; exact (h4 v hv).2.2
  · rw [updL_ne _ _ (by omega)]; exact h5 f hf
  · rw [updL_ne _ _ (by omega)]; exact h6 g j hg hj
theorem RM_vT {a : AS} {d : AD} {w : Nat → Int64} (hW : WFs a) (hA : RMs a w) (h : RMd a d w) {v0 : Nat} (h0 : v0 < AS_nV a) (x : Int64) : RMs a (vp_updL w (88 + 6 * v0 + 5) (x)) ∧ RMd a (AD_set_vT d (setN (AD_vT d) v0 x)) (vp_updL w (88 + 6 * v0 + 5) (x)) := by
  have hN := hW.1
  refine ⟨RMs_upd hW hA _ (by unfold stat; omega), ?_⟩
  obtain ⟨h1, h2, h3, h4, h5, h6⟩ := h
  refine ⟨⟨?_, ?_, ?_, ?_⟩, fun c hc => ⟨?_, ?_⟩, fun p hp => ⟨?_, ?_⟩, fun v hv => ⟨?_, ?_, ?_⟩, fun f hf => ?_, fun g j hg hj => ?_⟩
  · rw [updL_ne _ _ (by omega)]; exact h1.1
  · rw [updL_ne _ _ (by omega)]; exact h1.2.1
  · rw [updL_ne _ _ (by omega)]; exact h1.2.2.1
  · rw [updL_ne _ _ (by omega)]; exact h1.2.2.2
  · rw [updL_ne _ _ (by omega)]; exact (h2 c hc).1
  · rw [updL_ne _ _ (by omega)]; exact (h2 c hc).2
  · rw [updL_ne _ _ (by omega)]; exact (h3 p hp).1
  · rw [updL_ne _ _ (by omega)]; exact (h3 p hp).2
  · rw [updL_ne _ _ (by omega)]; exact (h4 v hv).1
  · rw [updL_ne _ _ (by omega)]; exact (h4 v hv).2.1
  · show vp_updL w (88 + 6 * v0 + 5) (x) (88 + 6 * v + 5) = setN (AD_vT d) v0 x v
    by_cases hk : v = v0
    · rw [hk, updL_self, setN_self]
    · rw [updL_ne _ _ (by omega), setN_ne _ _ hk]; exact (h4 v hv).2.2
  · rw [updL_ne _ _ (by omega)]; exact h5 f hf
  · rw [updL_ne _ _ (by omega)]; exact h6 g j hg hj
theorem RM_lk {a : AS} {d : AD} {w : Nat → Int64} (hW : WFs a) (hA : RMs a w) (h : RMd a d w) {f0 : Nat} (h0 : f0 < AS_nF a) (x : Nat) : RMs a (vp_updL w (148 + 2 * f0 + 1) (i8 x)) ∧ RMd a (AD_set_lk d (setN (AD_lk d) f0 x)) (vp_updL w (148 + 2 * f0 + 1) (i8 x)) := by
  have hN := hW.1
  refine ⟨RMs_upd hW hA _ (by unfold stat; omega), ?_⟩
  obtain ⟨h1, h2, h3, h4, h5, h6⟩ := h
  refine ⟨⟨?_, ?_, ?_, ?_⟩, fun c hc => ⟨?_, ?_⟩, fun p hp => ⟨?_, ?_⟩, fun v hv => ⟨?_, ?_, ?_⟩, fun f hf => ?_, fun g j hg hj => ?_⟩
  · rw [updL_ne _ _ (by omega)]; exact h1.1
  · rw [updL_ne _ _ (by omega)]; exact h1.2.1
  · rw [updL_ne _ _ (by omega)]; exact h1.2.2.1
  · rw [updL_ne _ _ (by omega)]; exact h1.2.2.2
  · rw [updL_ne _ _ (by omega)]; exact (h2 c hc).1
  · rw [updL_ne _ _ (by omega)]; exact (h2 c hc).2
  · rw [updL_ne _ _ (by omega)]; exact (h3 p hp).1
  · rw [updL_ne _ _ (by omega)]; exact (h3 p hp).2
  · rw [updL_ne _ _ (by omega)]; exact (h4 v hv).1
  · rw [updL_ne _ _ (by omega)]; exact (h4 v hv).2.1
  · rw [updL_ne _ _ (by omega)]; exact (h4 v hv).2.2
  · show vp_updL w (148 + 2 * f0 + 1) (i8 x) (148 + 2 * f + 1) = i8 (setN (AD_lk d) f0 x f)
    by_cases hk : f = f0
    · rw [hk, updL_self, setN_self]
    · rw [updL_ne _ _ (by omega), setN_ne _ _ hk]; exact h5 f hf
  · rw [updL_ne _ _ (by omega)]; exact h6 g j hg hj
/-! the class's state -/
section RCW
variable {a : AS} {d : AD} {ly : LL} {S : SS}
theorem RC_gas (h : RCd a d S) {c0 : Nat} (h0 : c0 < 8) (x : Nat) : RCd a (AD_set_gas d (setN (AD_gas d) c0 x)) (SS_set_pressure (SS_set_gas S (vp_updL (SS_gas S) c0 (i8 x))) (upd (SS_pressure S) c0 (i4 (x / AS_vol a c0)))) := by
  refine ⟨h.1, ⟨fun c hc => ⟨?_, ?_⟩, ?_⟩, h.2.2.1, h.2.2.2.1, h.2.2.2.2.1, h.2.2.2.2.2.1, h.2.2.2.2.2.2.1, h.2.2.2.2.2.2.2⟩
  · show vp_updL (SS_gas S) c0 (i8 x) c = i8 (setN (AD_gas d) c0 x c)
    by_cases hk : c = c0
    · rw [hk, updL_self, setN_self]
    · rw [updL_ne _ _ hk, setN_ne _ _ hk]; exact (h.2.1.1 c hc).1
  · show upd (SS_pressure S) c0 (i4 (x / AS_vol a c0)) c = i4 (setN (AD_gas d) c0 x c / AS_vol a c)
    by_cases hk : c = c0
    · rw [hk, upd_self, setN_self]
    · rw [upd_ne _ _ hk, setN_ne _ _ hk]; exact (h.2.1.1 c hc).2
  · show upd (SS_pressure S) c0 (i4 (x / AS_vol a c0)) 8 = i4 1000000
    rw [upd_ne _ _ (by omega)]; exact h.2.1.2
theorem RC_oug (h : RCd a d S) {c0 : Nat} (x : Nat) : RCd a (AD_set_oug d (setN (AD_oug d) c0 x)) (SS_set_outgassing S (upd (SS_outgassing S) c0 (i4 x))) := by
  refine ⟨h.1, h.2.1, fun c hc => ?_, h.2.2.2.1, h.2.2.2.2.1, h.2.2.2.2.2.1, h.2.2.2.2.2.2.1, h.2.2.2.2.2.2.2⟩
  show upd (SS_outgassing S) c0 (i4 x) c = i4 (setN (AD_oug d) c0 x c)
  by_cases hk : c = c0
  · rw [hk, upd_self, setN_self]
  · rw [upd_ne _ _ hk, setN_ne _ _ hk]; exact h.2.2.1 c hc
theorem RC_rul (h : RCd a d S) {c0 : Nat} (x : Nat) : RCd a (AD_set_rul d (setN (AD_rul d) c0 x)) (SS_set_rule S (upd (SS_rule S) c0 (i4 x))) := by
  refine ⟨h.1, h.2.1, h.2.2.1, h.2.2.2.1, fun c hc => ?_, h.2.2.2.2.2.1, h.2.2.2.2.2.2.1, h.2.2.2.2.2.2.2⟩
  show upd (SS_rule S) c0 (i4 x) c = i4 (setN (AD_rul d) c0 x c)
  by_cases hk : c = c0
  · rw [hk, upd_self, setN_self]
  · rw [upd_ne _ _ hk, setN_ne _ _ hk]; exact h.2.2.2.2.1 c hc
theorem bit_set {x : Int32} {v j : Nat} (hv : v < 32) : bit (x ||| (1 <<< (i4 v &&& 31))) j = if j = v then true else bit x j := by
  rw [bit_or, bit_one_shl hv]
  by_cases h : j = v
  · simp [h]
  · simp [h]
theorem bit_clr {x : Int32} {v j : Nat} (hv : v < 32) (hj : j < 32) : bit (x &&& ((1 <<< (i4 v &&& 31)) ^^^ (-1))) j = if j = v then false else bit x j := by
  rw [bit_and, bit_not _ hj, bit_one_shl hv]
  by_cases h : j = v
  · simp [h]
  · simp [h]
theorem RC_opn1 (hW : WFs a) (h : RCd a d S) {v0 : Nat} (h0 : v0 < AS_nV a) : RCd a (AD_set_opn d (setN (AD_opn d) v0 true)) (SS_set_openValves S (SS_openValves S ||| (1 <<< (i4 v0 &&& 31)))) := by
  have hN := hW.1
  refine ⟨h.1, h.2.1, h.2.2.1, h.2.2.2.1, h.2.2.2.2.1, fun c hc => ⟨?_, (h.2.2.2.2.2.1 c hc).2⟩, h.2.2.2.2.2.2.1, h.2.2.2.2.2.2.2⟩
  show bit (SS_openValves S ||| (1 <<< (i4 v0 &&& 31))) c = setN (AD_opn d) v0 true c
  rw [bit_set (by omega), (h.2.2.2.2.2.1 c hc).1]
  rfl
theorem RC_opn0 (hW : WFs a) (h : RCd a d S) {v0 : Nat} (h0 : v0 < AS_nV a) : RCd a (AD_set_opn d (setN (AD_opn d) v0 false)) (SS_set_openValves S (SS_openValves S &&& ((1 <<< (i4 v0 &&& 31)) ^^^ (-1)))) := by
  have hN := hW.1
  refine ⟨h.1, h.2.1, h.2.2.1, h.2.2.2.1, h.2.2.2.2.1, fun c hc => ⟨?_, (h.2.2.2.2.2.1 c hc).2⟩, h.2.2.2.2.2.2.1, h.2.2.2.2.2.2.2⟩
  show bit (SS_openValves S &&& ((1 <<< (i4 v0 &&& 31)) ^^^ (-1))) c = setN (AD_opn d) v0 false c
  rw [bit_clr (by omega) (by omega), (h.2.2.2.2.2.1 c hc).1]
  rfl
theorem RC_run1 (hW : WFs a) (h : RCd a d S) {v0 : Nat} (h0 : v0 < AS_nP a) : RCd a (AD_set_run d (setN (AD_run d) v0 true)) (SS_set_runningPumps S (SS_runningPumps S ||| (1 <<< (i4 v0 &&& 31)))) := by
  have hN := hW.1
  refine ⟨h.1, h.2.1, h.2.2.1, h.2.2.2.1, h.2.2.2.2.1, h.2.2.2.2.2.1, fun c hc => ⟨?_, (h.2.2.2.2.2.2.1 c hc).2⟩, h.2.2.2.2.2.2.2⟩
  show bit (SS_runningPumps S ||| (1 <<< (i4 v0 &&& 31))) c = setN (AD_run d) v0 true c
  rw [bit_set (by omega), (h.2.2.2.2.2.2.1 c hc).1]
  rfl
theorem RC_run0 (hW : WFs a) (h : RCd a d S) {v0 : Nat} (h0 : v0 < AS_nP a) : RCd a (AD_set_run d (setN (AD_run d) v0 false)) (SS_set_runningPumps S (SS_runningPumps S &&& ((1 <<< (i4 v0 &&& 31)) ^^^ (-1)))) := by
  have hN := hW.1
  refine ⟨h.1, h.2.1, h.2.2.1, h.2.2.2.1, h.2.2.2.2.1, h.2.2.2.2.2.1, fun c hc => ⟨?_, (h.2.2.2.2.2.2.1 c hc).2⟩, h.2.2.2.2.2.2.2⟩
  show bit (SS_runningPumps S &&& ((1 <<< (i4 v0 &&& 31)) ^^^ (-1))) c = setN (AD_run d) v0 false c
  rw [bit_clr (by omega) (by omega), (h.2.2.2.2.2.2.1 c hc).1]
  rfl
theorem RC_vT (h : RCd a d S) {v0 : Nat} (x : Int64) (s : Int64) : RCd a (AD_set_vTs (AD_set_vT d (setN (AD_vT d) v0 x)) s) (SS_set_valveTrips S (upd (SS_valveTrips S) v0 x.toInt32)) := by
  refine ⟨h.1, h.2.1, h.2.2.1, h.2.2.2.1, h.2.2.2.2.1, fun c hc => ⟨(h.2.2.2.2.2.1 c hc).1, ?_⟩, h.2.2.2.2.2.2.1, h.2.2.2.2.2.2.2⟩
  show upd (SS_valveTrips S) v0 x.toInt32 c = (setN (AD_vT d) v0 x c).toInt32
  by_cases hk : c = v0
  · rw [hk, upd_self, setN_self]
  · rw [upd_ne _ _ hk, setN_ne _ _ hk]; exact (h.2.2.2.2.2.1 c hc).2
theorem RC_pT (h : RCd a d S) {v0 : Nat} (x : Int64) (s : Int64) : RCd a (AD_set_pTs (AD_set_pT d (setN (AD_pT d) v0 x)) s) (SS_set_pumpTrips S (upd (SS_pumpTrips S) v0 x.toInt32)) := by
  refine ⟨h.1, h.2.1, h.2.2.1, h.2.2.2.1, h.2.2.2.2.1, h.2.2.2.2.2.1, fun c hc => ⟨(h.2.2.2.2.2.2.1 c hc).1, ?_⟩, h.2.2.2.2.2.2.2⟩
  show upd (SS_pumpTrips S) v0 x.toInt32 c = (setN (AD_pT d) v0 x c).toInt32
  by_cases hk : c = v0
  · rw [hk, upd_self, setN_self]
  · rw [upd_ne _ _ hk, setN_ne _ _ hk]; exact (h.2.2.2.2.2.2.1 c hc).2
theorem RC_tm (h : RCd a d S) : RCd a (AD_set_tm d (AD_tm d + 1)) (SS_set_time S (SS_time S + 1)) := by
  refine ⟨?_, h.2.1, h.2.2.1, h.2.2.2.1, h.2.2.2.2.1, h.2.2.2.2.2.1, h.2.2.2.2.2.2.1, h.2.2.2.2.2.2.2⟩
  show SS_time S + 1 = (AD_tm d + 1).toInt32
  rw [Int64.toInt32_add, h.1]
  rfl
theorem sum8_setN {g : Nat → Int64} {v : Nat} : ∀ {n : Nat}, v < n → sum8 (setN g v (g v + 1)) n = sum8 g n + 1
  | 0, h => by omega
  | n + 1, h => by
    unfold sum8
    by_cases hv : v = n
    · subst hv
      rw [setN_self]
      have e : ∀ m, m ≤ v → sum8 (setN g v (g v + 1)) m = sum8 g m := by
        intro m
        induction m with
        | zero => intro _; rfl
        | succ m ih =>
          intro hm
          unfold sum8
          rw [ih (by omega), setN_ne _ _ (by omega)]
      rw [e v (Nat.le_refl v), Int64.add_assoc]
    · rw [sum8_setN (n := n) (by omega), setN_ne _ _ (Ne.symm hv), Int64.add_assoc, Int64.add_comm 1, ← Int64.add_assoc]
end RCW
