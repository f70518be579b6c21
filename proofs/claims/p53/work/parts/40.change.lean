/-! the changes, but the test -/
section CH
variable {a : AS} {d : AD} {lY : LL} {tp : TP} {st : Fin 12 → SS}
theorem C_openBar {ly : LL} {S : SS} (hW : WFs a) (hD : WFd a d) (hL : RCs a ly) (hS : RCd a d S) {v : Nat} (hv : v < AS_nV a) : f5_openingBar ly S (i4 v) = some (if AD_opn d v = true then 1 else if dif a d v ≤ AD_rul d v then 0 else 2) := by
  have hN := hW.1
  have h1 := dif_le hW hD hv
  have h2 := hD.2.1 v hv
  unfold f5_openingBar
  rw [C_isOpen hW hS hv, sbind]
  by_cases hO : AD_opn d v = true
  · rw [if_pos hO, if_neg one_ne, if_pos hO]
  · rw [if_neg hO, if_pos rfl, if_neg hO, C_dif hW hD hL hS hv, sbind, gdi _ (by omega) (by omega), ix4 (by omega), hS.2.2.2.2.1 v hv]
    congr 1
    by_cases c : dif a d v ≤ AD_rul d v
    · rw [if_pos c, if_pos ((i4_le (by omega) (by omega)).mpr c)]
    · rw [if_neg c, if_neg (fun h => c ((i4_le (by omega) (by omega)).mp h))]
theorem C_startBar {ly : LL} {S : SS} (hW : WFs a) (hD : WFd a d) (hL : RCs a ly) (hS : RCd a d S) {p : Nat} (hp : p < AS_nP a) : f5_startingBar ly S (i4 p) = some (if AD_run d p = true then 1 else i4 (cnd a d p)) := by
  unfold f5_startingBar
  rw [C_isRunning hW hS hp, sbind]
  by_cases hO : AD_run d p = true
  · rw [if_pos hO, if_neg one_ne, if_pos hO]
  · rw [if_neg hO, if_pos rfl, if_neg hO, C_cnd hW hD hL hS hp, sbind]
end CH

