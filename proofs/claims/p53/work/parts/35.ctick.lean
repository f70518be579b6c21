/-! the class's tick -/
section CT1
variable {a : AS} {d : AD} {ly : LL} {S : SS}
theorem one_ne : ¬ ((1 : Int32) = 0) := by decide
theorem fuS {fu n : Nat} (h : n < fu) : ∃ k, fu = k + 1 ∧ n ≤ k := ⟨fu - 1, by omega, by omega⟩
theorem trip1_y {v t : Nat} (h1 : AD_opn d v = true) (h2 : AD_rul d v < dif a d v) : trip1 a v (d, t) = (tripV d v, t + 1) := if_pos ⟨h1, h2⟩
theorem trip1_n1 {v t : Nat} (h : ¬ AD_opn d v = true) : trip1 a v (d, t) = (d, t) := if_neg (fun q => h q.1)
theorem trip1_n2 {v t : Nat} (h : dif a d v ≤ AD_rul d v) : trip1 a v (d, t) = (d, t) := if_neg (fun q => Nat.not_lt.mpr h q.2)
theorem C_trip (hW : WFs a) (hL : RCs a ly) : ∀ (n v fu t : Nat) (d : AD) (S : SS), WFd a d → RCd a d S → v + n = AS_nV a → n < fu →
    ∃ S', f5_tripValves_B4 ly fu S (i4 t) (i4 v) = some (i4 (goN (trip1 a) n v (d, t)).2, S') ∧ RCd a (goN (trip1 a) n v (d, t)).1 S' := by
  intro n
  have hN := hW.1
  induction n with
  | zero =>
    intro v fu t d S hD hS hv hf
    obtain ⟨k, rfl, -⟩ := fuS hf
    rw [f5_tripValves_B4, hL.1.2.2.1, if_pos ((i4_le (by omega) (by omega)).mpr (by omega))]
    exact ⟨S, rfl, hS⟩
  | succ n ih =>
    intro v fu t d S hD hS hv hf
    obtain ⟨k, rfl, -⟩ := fuS hf
    have hvl : v < AS_nV a := by omega
    have hr := hD.2.1 v hvl
    have hd := dif_le hW hD hvl
    rw [goN_succ, f5_tripValves_B4, hL.1.2.2.1, if_neg (fun h => by have := (i4_le (by omega) (by omega)).mp h; omega), C_isOpen hW hS hvl, sbind]
    by_cases hO : AD_opn d v = true
    · rw [if_pos hO, if_neg one_ne, C_dif hW hD hL hS hvl, sbind, gdi _ (by omega) (by omega), ix4 (by omega), hS.2.2.2.2.1 v hvl]
      by_cases hR : dif a d v ≤ AD_rul d v
      · rw [if_pos ((i4_le (by omega) (by omega)).mpr hR), ad1, trip1_n2 hR]
        exact ih (v + 1) k t d S hD hS (by omega) (by omega)
      · rw [if_neg (fun h => hR ((i4_le (by omega) (by omega)).mp h)), trip1_y hO (by omega)]
        unfold f5_closeValve
        rw [sbind, ad1, ad1]
        refine ih (v + 1) k (t + 1) (tripV d v) _ (WF_tripV hD hvl) ?_ (by omega) (by omega)
        have h1 := RC_vT (v0 := v) (RC_opn0 hW hS hvl) (AD_vT d v + 1) (AD_vTs d + 1)
        rw [Int64.toInt32_add, ← (hS.2.2.2.2.2.1 v hvl).2] at h1
        exact h1
    · rw [if_neg hO, if_pos rfl, ad1, trip1_n1 hO]
      exact ih (v + 1) k t d S hD hS (by omega) (by omega)
theorem C_addGas (hW : WFs a) (hL : RCs a ly) (hS : RCd a d S) {c : Nat} (hc : c < AS_nC a) {x : Int64} {g : Nat} (hg : g < 4611686018427387904) (hx : i8 (AD_gas d c) + x = i8 g) :
    ∃ S', f5_addGas ly S (i4 c) x = some S' ∧ RCd a (AD_set_gas d (setN (AD_gas d) c g)) S' := by
  have hN := hW.1
  have hv := hW.2.1 c hc
  refine ⟨_, ?_, RC_gas hS (by omega) g⟩
  unfold f5_addGas
  rw [if_neg (show ¬ (i4 c = (8 : Int32)) from fun h => by have := (i4_eq (b := 8) (by omega) (by omega)).mp h; omega), gdi _ (by omega) (by omega), ix4 (by omega), (hL.2.1 c hc).1,
    if_neg (show ¬ (i4 (AS_vol a c) ≤ (0 : Int32)) from fun h => by have := (i4_le (b := 0) (by omega) (by omega)).mp h; omega), i4_to8 (by omega), gd_of (i8_ne0 (by omega) (by omega)), gdi _ (by omega) (by omega), updL_self, (hS.2.1.1 c hc).1, hx, i8_div (by omega) (by omega), i8_to4]
theorem C_addOut (ly : LL) (S : SS) (x : Int64) : f5_addGas ly S (i4 8) x = some S := by
  unfold f5_addGas
  rw [if_pos (by rfl)]
theorem C_give (hW : WFs a) (hD : WFd a d) (hL : RCs a ly) (hS : RCd a d S) {c : Nat} (hc : c = 8 ∨ c < AS_nC a) (u : Nat) (hu : u < 1000000000000000) : ∃ S', f5_addGas ly S (i4 c) (i8 u) = some S' ∧ RCd a (giveN c u d) S' := by
  unfold giveN
  by_cases h8 : c = 8
  · subst h8
    rw [if_pos rfl]
    exact ⟨S, C_addOut ly S _, hS⟩
  · rw [if_neg h8]
    have hc' : c < AS_nC a := by omega
    have := gas_lt hW hD hc'
    exact C_addGas hW hL hS hc' (by omega) (i8_add _ _)
theorem C_take (hW : WFs a) (hD : WFd a d) (hL : RCs a ly) (hS : RCd a d S) {c : Nat} (hc : c = 8 ∨ c < AS_nC a) (u : Nat) (hu : c ≠ 8 → u ≤ AD_gas d c) : ∃ S', f5_addGas ly S (i4 c) (-i8 u) = some S' ∧ RCd a (takeN c u d) S' := by
  unfold takeN
  by_cases h8 : c = 8
  · subst h8
    rw [if_pos rfl]
    exact ⟨S, C_addOut ly S _, hS⟩
  · rw [if_neg h8]
    have hc' : c < AS_nC a := by omega
    have := gas_lt hW hD hc'
    refine C_addGas hW hL hS hc' (by omega) ?_
    rw [← Int64.sub_eq_add_neg, i8_sub (hu h8)]
theorem C_gasIn1 (hW : WFs a) (hD : WFd a d) (hL : RCs a ly) (hS : RCd a d S) {c : Nat} (hc : c < AS_nC a) (rec : SS → Int32 → Option SS) (x2 : Int32) (hx : x2 = i4 (inn a d c)) :
    ∃ S', f5_letGasIn_B55 ly rec S (i4 c) x2 = rec S' (i4 (c + 1)) ∧ RCd a (gasIn1 a c d) S' := by
  have hN := hW.1
  have hv := hW.2.1 c hc
  have hi := inn_le hW hD hc
  have hg := gas_lt hW hD hc
  have ho := (hD.1 c hc).2
  subst hx
  unfold f5_letGasIn_B55
  obtain ⟨S1, e1, h1⟩ := C_addGas (d := d) (ly := ly) hW hL hS hc (x := i8 (inn a d c)) (g := AD_gas d c + inn a d c) (by omega) (i8_add _ _)
  rw [i4_to8 (by omega), e1, sbind, gdi _ (by omega) (by omega), ix4 (by omega), (hL.2.1 c hc).2, ad1]
  have ho1 : SS_outgassing S1 c = i4 (AD_oug d c) := h1.2.2.1 c hc
  by_cases hd : AS_dec a c = 0
  · rw [if_pos (show i4 (AS_dec a c) ≤ (0 : Int32) from (i4_le (b := 0) (by omega) (by omega)).mpr (by omega))]
    refine ⟨S1, rfl, ?_⟩
    have e : gasIn1 a c d = AD_set_gas d (setN (AD_gas d) c (AD_gas d c + inn a d c)) := by
      unfold gasIn1 decN
      rw [if_pos hd]
      have : setN (AD_oug d) c (AD_oug d c - 0) = AD_oug d := by
        funext i
        unfold setN
        split
        · rename_i h; rw [h]; rfl
        · rfl
      rw [this]
      rfl
    rw [e]
    exact h1
  · rw [if_neg (show ¬ (i4 (AS_dec a c) ≤ (0 : Int32)) from fun h => hd (by have := (i4_le (b := 0) (by omega) (by omega)).mp h; omega)), gd_of (i4_ne0 (by omega) (by omega)), ho1, i4_div (by omega) (by omega), i4_sub (Nat.div_le_self _ _)]
    refine ⟨_, rfl, ?_⟩
    have h2 := RC_oug (c0 := c) h1 (AD_oug d c - AD_oug d c / AS_dec a c)
    have e : gasIn1 a c d = AD_set_oug (AD_set_gas d (setN (AD_gas d) c (AD_gas d c + inn a d c))) (setN (AD_oug d) c (AD_oug d c - AD_oug d c / AS_dec a c)) := by
      unfold gasIn1 decN
      rw [if_neg hd]
    rw [e]
    exact h2
theorem C_gasIn (hW : WFs a) (hL : RCs a ly) : ∀ (n c fu : Nat) (d : AD) (S : SS), WFd a d → RCd a d S → c + n = AS_nC a → n < fu →
    ∃ S', f5_letGasIn_B2 ly fu S (i4 c) = some S' ∧ RCd a (goN (gasIn1 a) n c d) S' := by
  intro n
  have hN := hW.1
  induction n with
  | zero =>
    intro c fu d S hD hS hv hf
    obtain ⟨k, rfl, -⟩ := fuS hf
    rw [f5_letGasIn_B2, hL.1.1, if_pos ((i4_le (by omega) (by omega)).mpr (by omega))]
    exact ⟨S, rfl, hS⟩
  | succ n ih =>
    intro c fu d S hD hS hv hf
    obtain ⟨k, rfl, -⟩ := fuS hf
    have hc : c < AS_nC a := by omega
    have hp := prz_le hW hD (e := c) (Or.inr hc)
    have ho := (hD.1 c hc).2
    have hl := lks_le hW hD c
    rw [goN_succ, f5_letGasIn_B2, hL.1.1, if_neg (fun h => by have := (i4_le (by omega) (by omega)).mp h; omega), gdi _ (by omega) (by omega), ix4 (by omega), C_pr hS (Or.inr hc)]
    have fin : ∀ x2, x2 = i4 (inn a d c) → ∃ S', f5_letGasIn_B55 ly (f5_letGasIn_B2 ly k) S (i4 c) x2 = some S' ∧ RCd a (goN (gasIn1 a) n (c + 1) (gasIn1 a c d)) S' := by
      intro x2 hx
      obtain ⟨S1, e1, h1⟩ := C_gasIn1 hW hD hL hS hc (f5_letGasIn_B2 ly k) x2 hx
      rw [e1]
      exact ih (c + 1) k _ S1 (WF_gasIn hW hD hc) h1 (by omega) (by omega)
    by_cases h9 : prz a d c < 1000000000
    · rw [if_neg (show ¬ ((1000000000 : Int32) ≤ i4 (prz a d c)) from fun h => by have := (i4_le (a := 1000000000) (by omega) (by omega)).mp h; omega), gdi _ (by omega) (by omega), hS.2.2.1 c hc]
      unfold f5_letGasIn_B35
      rw [gdi _ (by omega) (by omega), ix4 (by omega), C_pr hS (Or.inr hc)]
      by_cases h6 : prz a d c < 1000000
      · rw [if_neg (show ¬ ((1000000 : Int32) ≤ i4 (prz a d c)) from fun h => by have := (i4_le (a := 1000000) (by omega) (by omega)).mp h; omega), gdi _ (by omega) (by omega), hS.2.2.2.1.1 c hc]
        refine fin _ ?_
        unfold inn
        rw [if_pos h9, if_pos h6, Int32.zero_add, i4_add]
      · rw [if_pos (show ((1000000 : Int32) ≤ i4 (prz a d c)) from (i4_le (a := 1000000) (by omega) (by omega)).mpr (by omega))]
        refine fin _ ?_
        unfold inn
        rw [if_pos h9, if_neg h6, Int32.zero_add]
        rfl
    · rw [if_pos (show ((1000000000 : Int32) ≤ i4 (prz a d c)) from (i4_le (a := 1000000000) (by omega) (by omega)).mpr (by omega))]
      unfold f5_letGasIn_B35
      rw [gdi _ (by omega) (by omega), ix4 (by omega), C_pr hS (Or.inr hc), if_pos (show ((1000000 : Int32) ≤ i4 (prz a d c)) from (i4_le (a := 1000000) (by omega) (by omega)).mpr (by omega))]
      refine fin _ ?_
      unfold inn
      rw [if_neg h9, if_neg (by omega)]
      rfl
theorem evn_lt (hW : WFs a) {v : Nat} (hv : v < AS_nV a) {df : Nat} (hd : df ≤ 1000250000) : evn a v df ≤ 1000250000 * 999 := by
  have h1 := evn_A hW hv df
  have h2 := hW.2.2.2.1 v hv
  have h3 := hW.2.1 _ h2.1
  exact Nat.le_trans h1 (Nat.mul_le_mul hd h3.2.1)
theorem evn_8 (hW : WFs a) {v : Nat} (hv : v < AS_nV a) {df : Nat} (hd : df ≤ 1000250000) (h8 : AS_vB a v ≠ 8) : i8 df * i8 (AS_vol a (AS_vA a v)) * i8 (AS_vol a (AS_vB a v)) / (i8 (AS_vol a (AS_vA a v)) + i8 (AS_vol a (AS_vB a v))) = i8 (evn a v df) := by
  have h2 := hW.2.2.2.1 v hv
  have hA := hW.2.1 _ h2.1
  have hB := hW.2.1 (AS_vB a v) (by omega)
  have m1 : df * AS_vol a (AS_vA a v) ≤ 1000250000 * 999 := Nat.mul_le_mul hd hA.2.1
  have m2 : df * AS_vol a (AS_vA a v) * AS_vol a (AS_vB a v) ≤ 1000250000 * 999 * 999 := Nat.mul_le_mul m1 hB.2.1
  unfold evn
  rw [if_neg h8, i8_mul, i8_mul, i8_add, i8_div (by omega) (by omega)]
theorem flw_8 (hW : WFs a) {v : Nat} (hv : v < AS_nV a) {df : Nat} (hd : df ≤ 1000250000) : (if i8 (evn a v df) < i8 (AS_vG a v) * i8 df then i8 (evn a v df) else i8 (AS_vG a v) * i8 df) = i8 (flw a v df) := by
  have h1 := evn_lt hW hv hd
  have h2 := hW.2.2.2.1 v hv
  have m1 : AS_vG a v * df ≤ 999 * 1000250000 := Nat.mul_le_mul h2.2.2.2.2 hd
  unfold flw
  rw [i8_mul]
  by_cases h : evn a v df < AS_vG a v * df
  · rw [if_pos h, if_pos ((i8_lt (by omega) (by omega)).mpr h)]
  · rw [if_neg h, if_neg (fun q => h ((i8_lt (by omega) (by omega)).mp q))]
theorem C_flow (hW : WFs a) (hL : RCs a ly) {v : Nat} (hv : v < AS_nV a) {df : Nat} (hd : df ≤ 1000250000) : f5_flow ly (i4 v) (i8 df) = some (i8 (flw a v df)) := by
  have hN := hW.1
  have h2 := hW.2.2.2.1 v hv
  have hA := hW.2.1 _ h2.1
  obtain ⟨e1, e2, e3⟩ := hL.2.2.2.1 v hv
  have fin : f5_flow_B87 ly (i4 v) (i8 df) (i8 (evn a v df)) = some (i8 (flw a v df)) := by
    unfold f5_flow_B87
    rw [gdi _ (by omega) (by omega), ix4 (by omega), e3, i4_to8 (by omega), flw_8 hW hv hd]
  unfold f5_flow
  rw [gdi _ (by omega) (by omega), ix4 (by omega), e1, e2, gdi _ (by omega) (by omega), ix4 (by omega), (hL.2.1 _ h2.1).1, i4_to8 (by omega)]
  by_cases h8 : AS_vB a v = 8
  · rw [if_pos (by rw [h8]; rfl), ← fin, i8_mul]
    unfold evn
    rw [if_pos h8]
  · have hB' : AS_vB a v < AS_nC a := by omega
    have hB := hW.2.1 _ hB'
    rw [if_neg (show ¬ (i4 (AS_vB a v) = (8 : Int32)) from fun h => h8 ((i4_eq (b := 8) (by omega) (by omega)).mp h)), gdi _ (by omega) (by omega), ix4 (by omega), (hL.2.1 _ hB').1, i4_to8 (by omega),
      if_neg (show ¬ (i8 (AS_vol a (AS_vA a v)) + i8 (AS_vol a (AS_vB a v)) ≤ (0 : Int64)) from fun h => by rw [i8_add] at h; have := (i8_le (b := 0) (by omega) (by omega)).mp h; omega), evn_8 hW hv hd h8, gd_of (by rw [i8_add]; exact i8_ne0 (by omega) (by omega)), fin]
theorem C_move (hW : WFs a) (hL : RCs a ly) : ∀ (n v fu : Nat) (d : AD) (S : SS), WFd a d → RCd a d S → v + n = AS_nV a → n < fu →
    ∃ S', f5_moveThroughValves_B2 ly fu S (i4 v) = some S' ∧ RCd a (goN (move1 a) n v d) S' := by
  intro n
  have hN := hW.1
  induction n with
  | zero =>
    intro v fu d S hD hS hv hf
    obtain ⟨k, rfl, -⟩ := fuS hf
    rw [f5_moveThroughValves_B2, hL.1.2.2.1, if_pos ((i4_le (by omega) (by omega)).mpr (by omega))]
    exact ⟨S, rfl, hS⟩
  | succ n ih =>
    intro v fu d S hD hS hv hf
    obtain ⟨k, rfl, -⟩ := fuS hf
    have hvl : v < AS_nV a := by omega
    obtain ⟨h1, h2, h3, h4, h5⟩ := hW.2.2.2.1 v hvl
    obtain ⟨e1, e2, e3⟩ := hL.2.2.2.1 v hvl
    have pA := prz_le hW hD (e := AS_vA a v) (Or.inr h1)
    have pB := prz_le hW hD (e := AS_vB a v) h2
    have hd := dif_le hW hD hvl
    have hfl := flw_le a v (dif a d v)
    have hel := evn_lt hW hvl hd
    have eA := evn_A hW hvl (dif a d v)
    rw [goN_succ, f5_moveThroughValves_B2, hL.1.2.2.1, if_neg (fun h => by have := (i4_le (by omega) (by omega)).mp h; omega), C_isOpen hW hS hvl, sbind]
    by_cases hO : AD_opn d v = true
    · rw [if_pos hO, if_neg one_ne, gdi _ (by omega) (by omega), ix4 (by omega), e1, e2, gdi _ (by omega) (by omega), gdi _ (by omega) (by omega), ix4 (by omega), ix4 (by omega), C_pr hS (Or.inr h1), C_pr hS h2]
      by_cases hc : prz a d (AS_vA a v) < prz a d (AS_vB a v)
      · rw [if_neg (fun h => by have := (i4_le (by omega) (by omega)).mp h; omega), show move1 a v d = giveN (AS_vA a v) (flw a v (dif a d v)) (takeN (AS_vB a v) (flw a v (dif a d v)) d) by unfold move1; rw [if_pos hO, if_pos hc]]
        unfold f5_moveThroughValves_B79
        rw [gdi _ (by omega) (by omega), gdi _ (by omega) (by omega), ix4 (by omega), ix4 (by omega), C_pr hS (Or.inr h1), C_pr hS h2, i4_to8 (by omega), i4_to8 (by omega), i8_sub (by omega), show prz a d (AS_vB a v) - prz a d (AS_vA a v) = dif a d v by unfold dif; omega, C_flow hW hL hvl hd, sbind]
        obtain ⟨S1, f1, g1⟩ := C_take hW hD hL hS h2 (flw a v (dif a d v)) (fun h8 => by
          have eB := evn_B (a := a) (v := v) (dif a d v) h8
          have gd := gas_dn (d := d) hW (c := AS_vB a v) (by omega)
          have : dif a d v * AS_vol a (AS_vB a v) ≤ prz a d (AS_vB a v) * AS_vol a (AS_vB a v) := Nat.mul_le_mul_right _ (by unfold dif; omega)
          omega)
        rw [f1, sbind]
        have D1 := WF_take hD (flw a v (dif a d v)) h2
        obtain ⟨S2, f2, g2⟩ := C_give hW D1 hL g1 (c := AS_vA a v) (Or.inr h1) (flw a v (dif a d v)) (by omega)
        rw [f2, sbind, ad1]
        have D2 := WF_move hW hD hvl
        rw [show move1 a v d = giveN (AS_vA a v) (flw a v (dif a d v)) (takeN (AS_vB a v) (flw a v (dif a d v)) d) by unfold move1; rw [if_pos hO, if_pos hc]] at D2
        exact ih (v + 1) k _ S2 D2 g2 (by omega) (by omega)
      · rw [if_pos ((i4_le (by omega) (by omega)).mpr (by omega)), show move1 a v d = giveN (AS_vB a v) (flw a v (dif a d v)) (takeN (AS_vA a v) (flw a v (dif a d v)) d) by unfold move1; rw [if_pos hO, if_neg hc]]
        unfold f5_moveThroughValves_B79
        rw [gdi _ (by omega) (by omega), gdi _ (by omega) (by omega), ix4 (by omega), ix4 (by omega), C_pr hS (Or.inr h1), C_pr hS h2, i4_to8 (by omega), i4_to8 (by omega), i8_sub (by omega), show prz a d (AS_vA a v) - prz a d (AS_vB a v) = dif a d v by unfold dif; omega, C_flow hW hL hvl hd, sbind]
        obtain ⟨S1, f1, g1⟩ := C_take hW hD hL hS (Or.inr h1) (flw a v (dif a d v)) (fun h8 => by
          have gd := gas_dn (d := d) hW (c := AS_vA a v) h1
          have : dif a d v * AS_vol a (AS_vA a v) ≤ prz a d (AS_vA a v) * AS_vol a (AS_vA a v) := Nat.mul_le_mul_right _ (by unfold dif; omega)
          omega)
        rw [f1, sbind]
        have D1 := WF_take hD (flw a v (dif a d v)) (Or.inr h1)
        obtain ⟨S2, f2, g2⟩ := C_give hW D1 hL g1 (c := AS_vB a v) h2 (flw a v (dif a d v)) (by omega)
        rw [f2, sbind, ad1]
        have D2 := WF_move hW hD hvl
        rw [show move1 a v d = giveN (AS_vB a v) (flw a v (dif a d v)) (takeN (AS_vA a v) (flw a v (dif a d v)) d) by unfold move1; rw [if_pos hO, if_neg hc]] at D2
        exact ih (v + 1) k _ S2 D2 g2 (by omega) (by omega)
    · rw [if_neg hO, if_pos rfl, ad1, show move1 a v d = d from if_neg hO]
      exact ih (v + 1) k d S hD hS (by omega) (by omega)
theorem pmp_8 (hW : WFs a) (hD : WFd a d) {p : Nat} (hp : p < AS_nP a) (hc : cnd a d p = 0) (hl : AS_pL a p ≤ prz a d (AS_pC a p)) : (if i8 (AD_gas d (AS_pC a p)) < i8 (AS_pS a p) * i8 (prz a d (AS_pC a p) - AS_pL a p) then i8 (AD_gas d (AS_pC a p)) else i8 (AS_pS a p) * i8 (prz a d (AS_pC a p) - AS_pL a p)) = i8 (pmp a d p) ∧ pmp a d p ≤ 999000000 := by
  obtain ⟨h1, h2, h3, h4, h5, h6, h7, h8⟩ := hW.2.2.1 p hp
  have c1 := (cnd_0 hc).1
  have hg := gas_lt hW hD h1
  have g3 : AS_pS a p * (prz a d (AS_pC a p) - AS_pL a p) ≤ 999 * 1000000 := Nat.mul_le_mul h5 (by omega)
  refine ⟨?_, Nat.le_trans (pmp_le a d p).2 g3⟩
  unfold pmp
  rw [i8_mul]
  by_cases h : AD_gas d (AS_pC a p) < AS_pS a p * (prz a d (AS_pC a p) - AS_pL a p)
  · rw [if_pos h, if_pos ((i8_lt (by omega) (by omega)).mpr h)]
  · rw [if_neg h, if_neg (fun q => h ((i8_lt (by omega) (by omega)).mp q))]
theorem C_pump (hW : WFs a) (hL : RCs a ly) : ∀ (n v fu t : Nat) (d : AD) (S : SS), WFd a d → RCd a d S → v + n = AS_nP a → n < fu →
    ∃ S', f5_runPumps_B4 ly fu S (i4 t) (i4 v) = some (i4 (goN (pump1 a) n v (d, t)).2, S') ∧ RCd a (goN (pump1 a) n v (d, t)).1 S' := by
  intro n
  have hN := hW.1
  induction n with
  | zero =>
    intro v fu t d S hD hS hv hf
    obtain ⟨k, rfl, -⟩ := fuS hf
    rw [f5_runPumps_B4, hL.1.2.1, if_pos ((i4_le (by omega) (by omega)).mpr (by omega))]
    exact ⟨S, rfl, hS⟩
  | succ n ih =>
    intro v fu t d S hD hS hv hf
    obtain ⟨k, rfl, -⟩ := fuS hf
    have hvl : v < AS_nP a := by omega
    obtain ⟨h1, h2, h3, h4, h5, h6, h7, h8⟩ := hW.2.2.1 v hvl
    obtain ⟨e1, e2, e3, e4, e5, e6⟩ := hL.2.2.1 v hvl
    have pC := prz_le hW hD (e := AS_pC a v) (Or.inr h1)
    have D2 := WF_pump (s := (d, t)) hW hD hvl
    have hcl : cnd a d v ≤ 3 := by unfold cnd; split <;> (try split) <;> omega
    rw [goN_succ, f5_runPumps_B4, hL.1.2.1, if_neg (fun h => by have := (i4_le (by omega) (by omega)).mp h; omega), C_isRunning hW hS hvl, sbind]
    by_cases hO : AD_run d v = true
    · rw [if_pos hO, if_neg one_ne, gdi _ (by omega) (by omega), ix4 (by omega), C_cnd hW hD hL hS hvl, sbind]
      by_cases hc : cnd a d v = 0
      · rw [if_pos (by rw [hc]; rfl), e1, e2, e3, e4, gdi _ (by omega) (by omega), ix4 (by omega), C_pr hS (Or.inr h1)]
        by_cases hl : prz a d (AS_pC a v) ≤ AS_pL a v
        · rw [if_pos ((i4_le (by omega) (by omega)).mpr hl), ad1]
          have e : pump1 a v (d, t) = (d, t) := by unfold pump1; rw [if_pos hO, if_pos hc, if_pos hl]
          rw [e]
          exact ih (v + 1) k t d S hD hS (by omega) (by omega)
        · obtain ⟨q1, q2⟩ := pmp_8 hW hD hvl hc (by omega)
          have e : pump1 a v (d, t) = (giveN (AS_pE a v) (pmp a d v) (takeN (AS_pC a v) (pmp a d v) d), t) := by unfold pump1; rw [if_pos hO, if_pos hc, if_neg hl]
          rw [if_neg (fun h => hl ((i4_le (by omega) (by omega)).mp h)), gdi _ (by omega) (by omega), (hS.2.1.1 _ h1).1, i4_to8 (by omega), i4_sub (by omega), i4_to8 (by omega), q1]
          obtain ⟨S1, f1, g1⟩ := C_take hW hD hL hS (Or.inr h1) (pmp a d v) (fun _ => (pmp_le a d v).1)
          rw [f1, sbind]
          have D1 := WF_take hD (pmp a d v) (Or.inr h1)
          obtain ⟨S2, f2, g2⟩ := C_give hW D1 hL g1 (c := AS_pE a v) h2 (pmp a d v) (by omega)
          rw [f2, sbind, ad1]
          rw [e] at D2 ⊢
          exact ih (v + 1) k t _ S2 D2 g2 (by omega) (by omega)
      · rw [if_neg (show ¬ (i4 (cnd a d v) = (0 : Int32)) from fun h => hc ((i4_eq (b := 0) (by omega) (by omega)).mp h))]
        have e : pump1 a v (d, t) = (tripP d v, t + 1) := by unfold pump1; rw [if_pos hO, if_neg hc]
        unfold f5_stopPump
        rw [sbind, ad1, ad1]
        rw [e] at D2 ⊢
        refine ih (v + 1) k (t + 1) (tripP d v) _ D2 ?_ (by omega) (by omega)
        have h1 := RC_pT (v0 := v) (RC_run0 hW hS hvl) (AD_pT d v + 1) (AD_pTs d + 1)
        rw [Int64.toInt32_add, ← (hS.2.2.2.2.2.2.1 v hvl).2] at h1
        exact h1
    · rw [if_neg hO, if_pos rfl, ad1]
      have e : pump1 a v (d, t) = (d, t) := if_neg hO
      rw [e]
      exact ih (v + 1) k t d S hD hS (by omega) (by omega)
theorem pump_n (a : AS) : ∀ (n v t : Nat) (d : AD), (goN (pump1 a) n v (d, t)).1 = (goN (pump1 a) n v (d, 0)).1 ∧ (goN (pump1 a) n v (d, t)).2 = t + (goN (pump1 a) n v (d, 0)).2
  | 0, _, _, _ => ⟨rfl, rfl⟩
  | n + 1, v, t, d => by
    rw [goN_succ, goN_succ]
    have e : pump1 a v (d, t) = ((pump1 a v (d, 0)).1, t + (pump1 a v (d, 0)).2) := by
      unfold pump1
      dsimp only
      split
      · split
        · split <;> rfl
        · rfl
      · rfl
    have h1 := pump_n a n (v + 1) (t + (pump1 a v (d, 0)).2) (pump1 a v (d, 0)).1
    have h2 := pump_n a n (v + 1) (pump1 a v (d, 0)).2 (pump1 a v (d, 0)).1
    rw [e]
    exact ⟨h1.1.trans h2.1.symm, by rw [h1.2, h2.2, Nat.add_assoc]⟩
theorem C_tick (hW : WFs a) (hD : WFd a d) (hL : RCs a ly) (hS : RCd a d S) : ∃ S', f5_tick ly S = some (i4 (tic a (d, 0)).2, S') ∧ RCd a (tic a (d, 0)).1 S' := by
  have hN := hW.1
  have FU4 := FU_eq
  have h1 : WFd a (ticT a (d, 0)).1 := goN_ind (P := fun t : AD × Nat => WFd a t.1) hD (fun i t h1 h2 ht => WF_trip hW ht (by omega))
  have h2 : WFd a (ticG a (ticT a (d, 0)).1) := goN_ind (P := fun t : AD => WFd a t) h1 (fun i t h1 h2 ht => WF_gasIn hW ht (by omega))
  have h3 : WFd a (ticM a (ticG a (ticT a (d, 0)).1)) := goN_ind (P := fun t : AD => WFd a t) h2 (fun i t h1 h2 ht => WF_move hW ht (by omega))
  obtain ⟨S1, e1, r1⟩ := C_trip hW hL (AS_nV a) 0 FU 0 d S hD hS (by omega) (by omega)
  obtain ⟨S2, e2, r2⟩ := C_gasIn hW hL (AS_nC a) 0 FU _ S1 h1 r1 (by omega) (by omega)
  obtain ⟨S3, e3, r3⟩ := C_move hW hL (AS_nV a) 0 FU _ S2 h2 r2 (by omega) (by omega)
  obtain ⟨S4, e4, r4⟩ := C_pump hW hL (AS_nP a) 0 FU 0 _ S3 h3 r3 (by omega) (by omega)
  have hp := pump_n a (AS_nP a) 0 (ticT a (d, 0)).2 (ticM a (ticG a (ticT a (d, 0)).1))
  refine ⟨SS_set_time S4 (SS_time S4 + 1), ?_, ?_⟩
  · unfold f5_tick f5_tripValves f5_letGasIn f5_moveThroughValves f5_runPumps
    rw [show f5_tripValves_B4 ly FU S 0 0 = _ from e1, sbind]
    dsimp only
    rw [show f5_letGasIn_B2 ly FU S1 0 = _ from e2, sbind, show f5_moveThroughValves_B2 ly FU S2 0 = _ from e3, sbind, show f5_runPumps_B4 ly FU S3 0 0 = _ from e4, sbind]
    dsimp only
    rw [i4_add]
    unfold tic tic0 ticP
    rw [hp.2]
    rfl
  · have := RC_tm r4
    unfold tic tic0 ticP
    rw [hp.1]
    exact this
end CT1

