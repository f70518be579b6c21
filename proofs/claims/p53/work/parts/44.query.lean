/-! the plain questions -/
theorem ne_k {x : Int32} {N : Nat} (h : ¬ (0 ≤ x.toInt ∧ x.toInt ≤ N)) (k : Nat) (hk : k ≤ N) (hN : N < 1000000) : ¬ (x = i4 k) := fun e => h (by rw [e, i4_toInt (by omega)]; omega)
section QU
variable {a : AS} {d : AD} {lY : LL} {tp : TP} {st : Fin 12 → SS}
theorem C_sum_vt {S : SS} (hW : WFs a) (hD : WFd a d) (hS : RCd a d S) : f9_sum_vt S (i4 (AS_nV a)) = some (AD_vTs d).toInt32 := by
  have hN := hW.1
  have := FU_eq
  have key : ∀ (n v fu : Nat), v + n = AS_nV a → n < fu → f9_sum_vt_B4 S fu (i4 (AS_nV a)) (sum8 (AD_vT d) v).toInt32 (i4 v) = some (sum8 (AD_vT d) (AS_nV a)).toInt32 := by
    intro n
    induction n with
    | zero =>
      intro v fu hv hf
      obtain ⟨k, rfl, -⟩ := fuS hf
      rw [f9_sum_vt_B4, if_pos ((i4_le (by omega) (by omega)).mpr (by omega)), show v = AS_nV a by omega]
    | succ n ih =>
      intro v fu hv hf
      obtain ⟨k, rfl, -⟩ := fuS hf
      rw [f9_sum_vt_B4, if_neg (fun h => by have := (i4_le (by omega) (by omega)).mp h; omega), if_neg (show ¬ ((10 : Int32) ≤ i4 v) from fun h => by have := (i4_le (a := 10) (by omega) (by omega)).mp h; omega), gdi _ (by omega) (by omega), ix4 (by omega), (hS.2.2.2.2.2.1 v (by omega)).2, ← Int64.toInt32_add, ad1]
      exact ih (v + 1) k (by omega) (by omega)
  rw [← hD.2.2.2.2.1]
  exact key (AS_nV a) 0 FU (by omega) (by omega)
theorem C_sum_pt {S : SS} (hW : WFs a) (hD : WFd a d) (hS : RCd a d S) : f9_sum_pt S (i4 (AS_nP a)) = some (AD_pTs d).toInt32 := by
  have hN := hW.1
  have := FU_eq
  have key : ∀ (n v fu : Nat), v + n = AS_nP a → n < fu → f9_sum_pt_B4 S fu (i4 (AS_nP a)) (sum8 (AD_pT d) v).toInt32 (i4 v) = some (sum8 (AD_pT d) (AS_nP a)).toInt32 := by
    intro n
    induction n with
    | zero =>
      intro v fu hv hf
      obtain ⟨k, rfl, -⟩ := fuS hf
      rw [f9_sum_pt_B4, if_pos ((i4_le (by omega) (by omega)).mpr (by omega)), show v = AS_nP a by omega]
    | succ n ih =>
      intro v fu hv hf
      obtain ⟨k, rfl, -⟩ := fuS hf
      rw [f9_sum_pt_B4, if_neg (fun h => by have := (i4_le (by omega) (by omega)).mp h; omega), if_neg (show ¬ ((6 : Int32) ≤ i4 v) from fun h => by have := (i4_le (a := 6) (by omega) (by omega)).mp h; omega), gdi _ (by omega) (by omega), ix4 (by omega), (hS.2.2.2.2.2.2.1 v (by omega)).2, ← Int64.toInt32_add, ad1]
      exact ih (v + 1) k (by omega) (by omega)
  rw [← hD.2.2.2.2.2]
  exact key (AS_nP a) 0 FU (by omega) (by omega)
theorem told_m4 (e : Nat) (he : e = 8 ∨ e < 8) : f9_told (i4 e) = some (m4 e) := by
  unfold f9_told
  by_cases h : e = 8
  · subst h; rfl
  · rw [m4_lt h, if_neg (show ¬ (i4 e = (8 : Int32)) from fun q => h ((i4_eq (b := 8) (by omega) (by omega)).mp q))]
theorem C_slot {S : SS} {nx g : Nat} (hn : nx < 10) (hg : g < 10) (e : SS_next S = i4 nx) : f7_slot S (i4 g) = some (i4 (rg nx g)) := by
  unfold f7_slot rg
  rw [e, show i4 nx + 10 = i4 (nx + 10) from i4_add nx 10, show i4 (nx + 10) - 1 = i4 (nx + 9) from i4_sub (b := 1) (by omega), i4_sub (by omega)]
  exact congrArg some (i4_mod (b := 10) (by omega) (by omega))
theorem C_kept_n {S : SS} (hD : WFd a d) (hS : RCd a d S) {x : Int32} (h : ¬ (0 ≤ x.toInt ∧ x.toInt < AD_kt d)) : ¬ x < 0 → ¬ x < SS_kept S := by
  have hk := hD.2.2.2.1
  intro h1 h2
  rw [Int32.lt_iff_toInt_lt, z4] at h1
  rw [hS.2.2.2.2.2.2.2.1, Int32.lt_iff_toInt_lt, i4_toInt (by omega)] at h2
  omega
theorem at_t_add (g j : Nat) : i4 (196 + 6 * g) + i4 j = i4 (196 + 6 * g + j) := i4_add _ _
end QU

