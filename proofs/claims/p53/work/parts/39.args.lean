/-! the arguments' checks -/
theorem in_cases (x : Int32) (N : Nat) : (∃ n, n < N ∧ n < 2147483648 ∧ x = i4 n) ∨ ¬ (0 ≤ x.toInt ∧ x.toInt < N) := by
  by_cases h : 0 ≤ x.toInt ∧ x.toInt < N
  · refine Or.inl ⟨n4 x, ?_, n4_lt x, (i4_n4 h.1).symm⟩
    unfold n4
    omega
  · exact Or.inr h
theorem z4 : (0 : Int32).toInt = 0 := by decide
theorem z8 : (0 : Int64).toInt = 0 := by decide
theorem i8_m1 {n : Nat} (h : n < 1000) : (i8 n - 1).toInt = (n : Int) - 1 := i8_neg_lt (x := n) (y := 1) (by omega) (by omega)
theorem lt0_i4 {n : Nat} (h : n < 2147483648) : ¬ (i4 n < 0) := fun q => by have := (i4_lt (b := 0) h (by omega)).mp q; omega
theorem i8_i8 {n : Nat} (h : n < 2147483648) : (i4 n).toInt64 = i8 n := i4_to8 h
section HAS
variable {a : AS} {ly : LL}
theorem C_hasC_y (hW : WFs a) (hL : RCs a ly) {n : Nat} (hn : n < AS_nC a) : f1_hasChamber ly (i4 n) = some 1 := by
  have hN := hW.1
  unfold f1_hasChamber
  rw [if_neg (lt0_i4 (by omega)), hL.1.1, if_neg (fun h => by have := (i4_le (by omega) (by omega)).mp h; omega)]
theorem C_hasC_n (hW : WFs a) (hL : RCs a ly) {x : Int32} (h : ¬ (0 ≤ x.toInt ∧ x.toInt < AS_nC a)) : f1_hasChamber ly x = some 0 := by
  have hN := hW.1
  unfold f1_hasChamber
  by_cases h1 : x < 0
  · rw [if_pos h1]
  · rw [if_neg h1, hL.1.1]
    rw [Int32.lt_iff_toInt_lt, z4] at h1
    rw [if_pos (by rw [Int32.le_iff_toInt_le, i4_toInt (by omega)]; omega)]
theorem C_hasP_y (hW : WFs a) (hL : RCs a ly) {n : Nat} (hn : n < AS_nP a) : f1_hasPump ly (i4 n) = some 1 := by
  have hN := hW.1
  unfold f1_hasPump
  rw [if_neg (lt0_i4 (by omega)), hL.1.2.1, if_neg (fun h => by have := (i4_le (by omega) (by omega)).mp h; omega)]
theorem C_hasP_n (hW : WFs a) (hL : RCs a ly) {x : Int32} (h : ¬ (0 ≤ x.toInt ∧ x.toInt < AS_nP a)) : f1_hasPump ly x = some 0 := by
  have hN := hW.1
  unfold f1_hasPump
  by_cases h1 : x < 0
  · rw [if_pos h1]
  · rw [if_neg h1, hL.1.2.1]
    rw [Int32.lt_iff_toInt_lt, z4] at h1
    rw [if_pos (by rw [Int32.le_iff_toInt_le, i4_toInt (by omega)]; omega)]
theorem C_hasV_y (hW : WFs a) (hL : RCs a ly) {n : Nat} (hn : n < AS_nV a) : f1_hasValve ly (i4 n) = some 1 := by
  have hN := hW.1
  unfold f1_hasValve
  rw [if_neg (lt0_i4 (by omega)), hL.1.2.2.1, if_neg (fun h => by have := (i4_le (by omega) (by omega)).mp h; omega)]
theorem C_hasV_n (hW : WFs a) (hL : RCs a ly) {x : Int32} (h : ¬ (0 ≤ x.toInt ∧ x.toInt < AS_nV a)) : f1_hasValve ly x = some 0 := by
  have hN := hW.1
  unfold f1_hasValve
  by_cases h1 : x < 0
  · rw [if_pos h1]
  · rw [if_neg h1, hL.1.2.2.1]
    rw [Int32.lt_iff_toInt_lt, z4] at h1
    rw [if_pos (by rw [Int32.le_iff_toInt_le, i4_toInt (by omega)]; omega)]
theorem C_hasF_y (hW : WFs a) (hL : RCs a ly) {n : Nat} (hn : n < AS_nF a) : f1_hasFlange ly (i4 n) = some 1 := by
  have hN := hW.1
  unfold f1_hasFlange
  rw [if_neg (lt0_i4 (by omega)), hL.1.2.2.2, if_neg (fun h => by have := (i4_le (by omega) (by omega)).mp h; omega)]
theorem C_hasF_n (hW : WFs a) (hL : RCs a ly) {x : Int32} (h : ¬ (0 ≤ x.toInt ∧ x.toInt < AS_nF a)) : f1_hasFlange ly x = some 0 := by
  have hN := hW.1
  unfold f1_hasFlange
  by_cases h1 : x < 0
  · rw [if_pos h1]
  · rw [if_neg h1, hL.1.2.2.2]
    rw [Int32.lt_iff_toInt_lt, z4] at h1
    rw [if_pos (by rw [Int32.le_iff_toInt_le, i4_toInt (by omega)]; omega)]
end HAS
theorem C_isTicks_y {n : Nat} (h1 : 1 ≤ n) (h2 : n ≤ 999) : f9_isTicks (i4 n) = some 1 := by
  unfold f9_isTicks
  rw [if_neg (show ¬ (i4 n < (1 : Int32)) from fun q => by have := (i4_lt (b := 1) (by omega) (by omega)).mp q; omega), if_neg (show ¬ ((999 : Int32) < i4 n) from fun q => by have := (i4_lt (a := 999) (by omega) (by omega)).mp q; omega)]
theorem C_isTicks_n {x : Int32} (h : ¬ (1 ≤ x.toInt ∧ x.toInt ≤ 999)) : f9_isTicks x = some 0 := by
  unfold f9_isTicks
  by_cases h1 : x < 1
  · rw [if_pos h1]
  · rw [if_neg h1]
    rw [Int32.lt_iff_toInt_lt, show (1 : Int32).toInt = 1 by decide] at h1
    rw [if_pos (by rw [Int32.lt_iff_toInt_lt, show (999 : Int32).toInt = 999 by decide]; omega)]
theorem ticks_cases (x : Int32) : (∃ n, 1 ≤ n ∧ n ≤ 999 ∧ x = i4 n) ∨ ¬ (1 ≤ x.toInt ∧ x.toInt ≤ 999) := by
  by_cases h : 1 ≤ x.toInt ∧ x.toInt ≤ 999
  · refine Or.inl ⟨n4 x, ?_, ?_, (i4_n4 (by omega)).symm⟩ <;> unfold n4 <;> omega
  · exact Or.inr h
theorem upto_cases (x : Int32) (N : Nat) : (∃ n, n ≤ N ∧ n < 2147483648 ∧ x = i4 n) ∨ ¬ (0 ≤ x.toInt ∧ x.toInt ≤ N) := by
  by_cases h : 0 ≤ x.toInt ∧ x.toInt ≤ N
  · refine Or.inl ⟨n4 x, ?_, n4_lt x, (i4_n4 h.1).symm⟩
    unfold n4
    omega
  · exact Or.inr h
theorem C_isPressure_y {n : Nat} (h2 : n ≤ 1000000) : f9_isPressure (i4 n) = some 1 := by
  unfold f9_isPressure
  rw [if_neg (lt0_i4 (by omega)), if_neg (show ¬ ((1000000 : Int32) < i4 n) from fun q => by have := (i4_lt (a := 1000000) (by omega) (by omega)).mp q; omega)]
theorem C_isPressure_n {x : Int32} (h : ¬ (0 ≤ x.toInt ∧ x.toInt ≤ (1000000 : Nat))) : f9_isPressure x = some 0 := by
  unfold f9_isPressure
  by_cases h1 : x < 0
  · rw [if_pos h1]
  · rw [if_neg h1]
    rw [Int32.lt_iff_toInt_lt, z4] at h1
    rw [if_pos (by rw [Int32.lt_iff_toInt_lt, show (1000000 : Int32).toInt = 1000000 by decide]; omega)]
/-! one part changed -/
theorem WF_opn {a : AS} {d : AD} (hD : WFd a d) (f : Nat → Bool) : WFd a (AD_set_opn d f) := hD
theorem WF_run {a : AS} {d : AD} (hD : WFd a d) (f : Nat → Bool) : WFd a (AD_set_run d f) := hD
theorem WF_oug {a : AS} {d : AD} (hD : WFd a d) {c x : Nat} (hx : x ≤ 9999) : WFd a (AD_set_oug d (setN (AD_oug d) c x)) := by
  refine ⟨fun c' hc' => ⟨(hD.1 c' hc').1, ?_⟩, hD.2⟩
  show setN (AD_oug d) c x c' ≤ 9999
  by_cases h : c' = c
  · rw [h, setN_self]; exact hx
  · rw [setN_ne _ _ h]; exact (hD.1 c' hc').2
theorem WF_rul {a : AS} {d : AD} (hD : WFd a d) {c x : Nat} (hx : x ≤ 1000000) : WFd a (AD_set_rul d (setN (AD_rul d) c x)) := by
  refine ⟨hD.1, fun c' hc' => ?_, hD.2.2⟩
  show setN (AD_rul d) c x c' ≤ 1000000
  by_cases h : c' = c
  · rw [h, setN_self]; exact hx
  · rw [setN_ne _ _ h]; exact hD.2.1 c' hc'
theorem WF_lk {a : AS} {d : AD} (hD : WFd a d) {c x : Nat} (hx : x ≤ 9999) : WFd a (AD_set_lk d (setN (AD_lk d) c x)) := by
  refine ⟨hD.1, hD.2.1, fun c' hc' => ?_, hD.2.2.2⟩
  show setN (AD_lk d) c x c' ≤ 9999
  by_cases h : c' = c
  · rw [h, setN_self]; exact hx
  · rw [setN_ne _ _ h]; exact hD.2.2.1 c' hc'
theorem lks_upd {a : AS} {d : AD} {f0 : Nat} (h0 : f0 < AS_nF a) (x : Nat) : lks a (AD_set_lk d (setN (AD_lk d) f0 x)) (AS_fH a f0) + AD_lk d f0 = lks a d (AS_fH a f0) + x := by
  have := sumN_upd (f := fun f => if AS_fH a f = AS_fH a f0 then setN (AD_lk d) f0 x f else 0) (g := fun f => if AS_fH a f = AS_fH a f0 then AD_lk d f else 0) (k := f0) h0 (fun i _ hi => by
    rw [setN_ne _ _ hi])
  rw [if_pos rfl, if_pos rfl, setN_self] at this
  exact this
theorem lks_ne {a : AS} {d : AD} {f0 c : Nat} (hc : c ≠ AS_fH a f0) (x : Nat) : lks a (AD_set_lk d (setN (AD_lk d) f0 x)) c = lks a d c := by
  refine sumN_congr (fun i _ => ?_)
  show (if AS_fH a i = c then setN (AD_lk d) f0 x i else 0) = if AS_fH a i = c then AD_lk d i else 0
  by_cases h : AS_fH a i = c
  · rw [if_pos h, if_pos h, setN_ne _ _ (fun e => hc (by rw [← h, e]))]
  · rw [if_neg h, if_neg h]
theorem C_putLeak {a : AS} {d : AD} {ly : LL} {S : SS} (hW : WFs a) (hL : RCs a ly) (hS : RCd a d S) {f0 : Nat} (h0 : f0 < AS_nF a) (x : Nat) : ∃ S', f5_putLeak ly S (i4 f0) (i4 x) = some S' ∧ RCd a (AD_set_lk d (setN (AD_lk d) f0 x)) S' := by
  have hN := hW.1
  have hH := hW.2.2.2.2 f0 h0
  have eH := hL.2.2.2.2 f0 h0
  obtain ⟨h1, h2, h3, ⟨l1, l2⟩, h5⟩ := hS
  refine ⟨SS_set_leak (SS_set_leakSum S (upd (SS_leakSum S) (AS_fH a f0) (i4 (lks a d (AS_fH a f0)) + (i4 x - i4 (AD_lk d f0))))) (upd (SS_leak S) f0 (i4 x)), by unfold f5_putLeak; rw [gdi _ (by omega) (by omega), ix4 (by omega), eH, gdi _ (by omega) (by omega), ix4 (by omega), l1 _ hH, l2 _ h0], h1, h2, h3, ⟨fun c hc => ?_, fun f hf => ?_⟩, h5⟩
  · show upd (SS_leakSum S) (AS_fH a f0) (i4 (lks a d (AS_fH a f0)) + (i4 x - i4 (AD_lk d f0))) c = i4 (lks a (AD_set_lk d (setN (AD_lk d) f0 x)) c)
    by_cases hk : c = AS_fH a f0
    · rw [hk, upd_self, Int32.sub_eq_add_neg, ← Int32.add_assoc, i4_add, ← lks_upd h0 x, ← i4_add, Int32.add_assoc, ← Int32.sub_eq_add_neg, Int32.sub_self, Int32.add_zero]
    · rw [upd_ne _ _ hk, lks_ne hk]; exact l1 c hc
  · show upd (SS_leak S) f0 (i4 x) f = i4 (setN (AD_lk d) f0 x f)
    by_cases hk : f = f0
    · rw [hk, upd_self, setN_self]
    · rw [upd_ne _ _ hk, setN_ne _ _ hk]; exact l2 f hf

