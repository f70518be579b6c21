/-! a tick, in numbers -/
def tripV (d : AD) (v : Nat) : AD := AD_set_vTs (AD_set_vT (AD_set_opn d (setN (AD_opn d) v false)) (setN (AD_vT d) v (AD_vT d v + 1))) (AD_vTs d + 1)
def tripP (d : AD) (p : Nat) : AD := AD_set_pTs (AD_set_pT (AD_set_run d (setN (AD_run d) p false)) (setN (AD_pT d) p (AD_pT d p + 1))) (AD_pTs d + 1)
def trip1 (a : AS) (v : Nat) (s : AD × Nat) : AD × Nat := if AD_opn s.1 v = true ∧ AD_rul s.1 v < dif a s.1 v then (tripV s.1 v, s.2 + 1) else s
def inn (a : AS) (d : AD) (c : Nat) : Nat := (if prz a d c < 1000000000 then AD_oug d c else 0) + (if prz a d c < 1000000 then lks a d c else 0)
def decN (a : AS) (d : AD) (c : Nat) : Nat := AD_oug d c - (if AS_dec a c = 0 then 0 else AD_oug d c / AS_dec a c)
def gasIn1 (a : AS) (c : Nat) (d : AD) : AD := AD_set_oug (AD_set_gas d (setN (AD_gas d) c (AD_gas d c + inn a d c))) (setN (AD_oug d) c (decN a d c))
def giveN (c u : Nat) (d : AD) : AD := if c = 8 then d else AD_set_gas d (setN (AD_gas d) c (AD_gas d c + u))
def takeN (c u : Nat) (d : AD) : AD := if c = 8 then d else AD_set_gas d (setN (AD_gas d) c (AD_gas d c - u))
def evn (a : AS) (v df : Nat) : Nat := if AS_vB a v = 8 then df * AS_vol a (AS_vA a v) else df * AS_vol a (AS_vA a v) * AS_vol a (AS_vB a v) / (AS_vol a (AS_vA a v) + AS_vol a (AS_vB a v))
def flw (a : AS) (v df : Nat) : Nat := if evn a v df < AS_vG a v * df then evn a v df else AS_vG a v * df
def move1 (a : AS) (v : Nat) (d : AD) : AD := if AD_opn d v = true then (if prz a d (AS_vA a v) < prz a d (AS_vB a v) then giveN (AS_vA a v) (flw a v (dif a d v)) (takeN (AS_vB a v) (flw a v (dif a d v)) d) else giveN (AS_vB a v) (flw a v (dif a d v)) (takeN (AS_vA a v) (flw a v (dif a d v)) d)) else d
def pmp (a : AS) (d : AD) (p : Nat) : Nat := if AD_gas d (AS_pC a p) < AS_pS a p * (prz a d (AS_pC a p) - AS_pL a p) then AD_gas d (AS_pC a p) else AS_pS a p * (prz a d (AS_pC a p) - AS_pL a p)
def pump1 (a : AS) (p : Nat) (s : AD × Nat) : AD × Nat := if AD_run s.1 p = true then (if cnd a s.1 p = 0 then (if prz a s.1 (AS_pC a p) ≤ AS_pL a p then s else (giveN (AS_pE a p) (pmp a s.1 p) (takeN (AS_pC a p) (pmp a s.1 p) s.1), s.2)) else (tripP s.1 p, s.2 + 1)) else s
def ticT (a : AS) (s : AD × Nat) : AD × Nat := goN (trip1 a) (AS_nV a) 0 s
def ticG (a : AS) (d : AD) : AD := goN (gasIn1 a) (AS_nC a) 0 d
def ticM (a : AS) (d : AD) : AD := goN (move1 a) (AS_nV a) 0 d
def ticP (a : AS) (s : AD × Nat) : AD × Nat := goN (pump1 a) (AS_nP a) 0 s
def tic0 (a : AS) (s : AD × Nat) : AD × Nat := ticP a (ticM a (ticG a (ticT a s).1), (ticT a s).2)
/-- one tick; beside it the trips so far -/
def tic (a : AS) (s : AD × Nat) : AD × Nat := (AD_set_tm (tic0 a s).1 (AD_tm (tic0 a s).1 + 1), (tic0 a s).2)
theorem goN_zero {σ : Type} (f : Nat → σ → σ) (v : Nat) (s : σ) : goN f 0 v s = s := rfl
theorem goN_succ {σ : Type} (f : Nat → σ → σ) (n v : Nat) (s : σ) : goN f (n + 1) v s = goN f n (v + 1) (f v s) := rfl
section WFT
variable {a : AS} {d : AD}
theorem WF_tripV (hD : WFd a d) {v : Nat} (hv : v < AS_nV a) : WFd a (tripV d v) := by
  refine ⟨hD.1, hD.2.1, hD.2.2.1, hD.2.2.2.1, ?_, hD.2.2.2.2.2⟩
  show sum8 (setN (AD_vT d) v (AD_vT d v + 1)) (AS_nV a) = AD_vTs d + 1
  rw [sum8_setN hv, hD.2.2.2.2.1]
theorem WF_tripP (hD : WFd a d) {v : Nat} (hv : v < AS_nP a) : WFd a (tripP d v) := by
  refine ⟨hD.1, hD.2.1, hD.2.2.1, hD.2.2.2.1, hD.2.2.2.2.1, ?_⟩
  show sum8 (setN (AD_pT d) v (AD_pT d v + 1)) (AS_nP a) = AD_pTs d + 1
  rw [sum8_setN hv, hD.2.2.2.2.2]
theorem lks_le (hW : WFs a) (hD : WFd a d) (c : Nat) : lks a d c ≤ 239976 := by
  have hN := hW.1
  have h := sumN_le (f := fun f => if AS_fH a f = c then AD_lk d f else 0) (b := 9999) (n := AS_nF a) (fun i hi => by
    have := hD.2.2.1 i hi
    split <;> omega)
  have h2 : AS_nF a * 9999 ≤ 24 * 9999 := Nat.mul_le_mul_right _ hN.2.2.2
  unfold lks
  omega
theorem inn_le (hW : WFs a) (hD : WFd a d) {c : Nat} (hc : c < AS_nC a) : inn a d c ≤ 249975 := by
  have h1 := lks_le hW hD c
  have h2 := (hD.1 c hc).2
  unfold inn
  split <;> split <;> omega
theorem WF_gas (hD : WFd a d) {c : Nat} (x : Nat) (hx : x < (PMAX + 1) * AS_vol a c) : WFd a (AD_set_gas d (setN (AD_gas d) c x)) := by
  refine ⟨fun c' hc' => ⟨?_, (hD.1 c' hc').2⟩, hD.2⟩
  show setN (AD_gas d) c x c' < _
  by_cases h : c' = c
  · rw [h, setN_self]; exact hx
  · rw [setN_ne _ _ h]; exact (hD.1 c' hc').1
theorem prz_c (hW : WFs a) {c : Nat} (hc : c < AS_nC a) : prz a d c = AD_gas d c / AS_vol a c := by
  have := hW.1
  unfold prz
  rw [if_neg (by omega)]
theorem WF_gasIn (hW : WFs a) (hD : WFd a d) {c : Nat} (hc : c < AS_nC a) : WFd a (gasIn1 a c d) := by
  have hv := hW.2.1 c hc
  have h1 := inn_le hW hD hc
  have h2 := (hD.1 c hc).1
  have h3 := (hD.1 c hc).2
  have hg : AD_gas d c + inn a d c < (PMAX + 1) * AS_vol a c := by
    by_cases hp : prz a d c < 1000000000
    · have h4 : AD_gas d c < 1000000000 * AS_vol a c := by
        rw [prz_c hW hc] at hp
        exact (Nat.div_lt_iff_lt_mul (by omega)).mp hp
      unfold PMAX
      omega
    · have : inn a d c = 0 := by
        unfold inn
        rw [if_neg hp, if_neg (by omega)]
      omega
  have hG := WF_gas hD _ hg
  refine ⟨fun c' hc' => ⟨(hG.1 c' hc').1, ?_⟩, hG.2⟩
  show setN (AD_oug d) c (decN a d c) c' ≤ 9999
  by_cases h : c' = c
  · rw [h, setN_self]; unfold decN; omega
  · rw [setN_ne _ _ h]; exact (hD.1 c' hc').2
theorem gas_up (hW : WFs a) {c : Nat} (hc : c < AS_nC a) : AD_gas d c < (prz a d c + 1) * AS_vol a c := by
  have hv := hW.2.1 c hc
  rw [prz_c hW hc, Nat.mul_comm]
  exact Nat.lt_mul_div_succ _ (by omega)
theorem gas_dn (hW : WFs a) {c : Nat} (hc : c < AS_nC a) : prz a d c * AS_vol a c ≤ AD_gas d c := by
  rw [prz_c hW hc]
  exact Nat.div_mul_le_self _ _
theorem WF_take (hD : WFd a d) {c : Nat} (u : Nat) (hc : c = 8 ∨ c < AS_nC a) : WFd a (takeN c u d) := by
  unfold takeN
  split
  · exact hD
  · rename_i h8
    have h2 := (hD.1 c (by omega)).1
    exact WF_gas hD _ (by omega)
theorem WF_give (hD : WFd a d) {c u : Nat} (h : c ≠ 8 → AD_gas d c + u < (PMAX + 1) * AS_vol a c) : WFd a (giveN c u d) := by
  unfold giveN
  split
  · exact hD
  · rename_i h8
    exact WF_gas hD _ (h h8)
theorem take_gas_ne {c u c' : Nat} (h : c' ≠ c) : AD_gas (takeN c u d) c' = AD_gas d c' := by
  unfold takeN
  split
  · rfl
  · show setN (AD_gas d) c _ c' = _
    rw [setN_ne _ _ h]
theorem flw_le (a : AS) (v df : Nat) : flw a v df ≤ evn a v df := by
  unfold flw
  split <;> omega
theorem evn_A (hW : WFs a) {v : Nat} (hv : v < AS_nV a) (df : Nat) : evn a v df ≤ df * AS_vol a (AS_vA a v) := by
  unfold evn
  split
  · exact Nat.le_refl _
  · refine Nat.div_le_of_le_mul ?_
    rw [Nat.mul_comm (_ + _)]
    exact Nat.mul_le_mul_left _ (Nat.le_add_left _ _)
theorem evn_B {v : Nat} (df : Nat) (h8 : AS_vB a v ≠ 8) : evn a v df ≤ df * AS_vol a (AS_vB a v) := by
  unfold evn
  rw [if_neg h8]
  refine Nat.div_le_of_le_mul ?_
  rw [Nat.mul_assoc, Nat.mul_comm (AS_vol a (AS_vA a v)), ← Nat.mul_assoc, Nat.mul_comm (_ + _)]
  exact Nat.mul_le_mul_left _ (Nat.le_add_right _ _)
theorem up_ok {g p q df u T : Nat} (hg : g < (p + 1) * T) (hq : p + df ≤ q) (hu : u ≤ df * T) (hP : q ≤ PMAX) : g + u < (PMAX + 1) * T := by
  have h1 : (p + 1) * T + df * T ≤ (PMAX + 1) * T := by
    rw [← Nat.add_mul]
    exact Nat.mul_le_mul_right _ (by omega)
  omega
theorem WF_move (hW : WFs a) (hD : WFd a d) {v : Nat} (hv : v < AS_nV a) : WFd a (move1 a v d) := by
  obtain ⟨h1, h2, h3, h4, h5⟩ := hW.2.2.2.1 v hv
  have hN := hW.1
  have pA := prz_le hW hD (e := AS_vA a v) (Or.inr h1)
  have pB := prz_le hW hD (e := AS_vB a v) h2
  have hf := flw_le a v (dif a d v)
  have eA := evn_A hW hv (dif a d v)
  unfold move1
  split
  · split
    · rename_i c1
      refine WF_give (WF_take hD _ h2) (fun _ => ?_)
      rw [take_gas_ne (Ne.symm h3)]
      refine up_ok (q := prz a d (AS_vB a v)) (df := dif a d v) (gas_up hW h1) ?_ (by omega) (by unfold PMAX; omega)
      unfold dif
      omega
    · rename_i c1
      refine WF_give (WF_take hD _ (Or.inr h1)) (fun h8 => ?_)
      have hB : AS_vB a v < AS_nC a := by omega
      have eB := evn_B (a := a) (v := v) (dif a d v) h8
      rw [take_gas_ne h3]
      refine up_ok (q := prz a d (AS_vA a v)) (df := dif a d v) (gas_up hW hB) ?_ (by omega) (by unfold PMAX; omega)
      unfold dif
      omega
  · exact hD
theorem cnd_0 {p : Nat} (h : cnd a d p = 0) : prz a d (AS_pC a p) ≤ AS_pH a p ∧ (AS_pE a p = 8 ∨ prz a d (AS_pE a p) ≤ AS_pB a p) := by
  unfold cnd at h
  split at h
  · rename_i h1
    split at h
    · rename_i h2
      exact ⟨h1, h2⟩
    · omega
  · omega
theorem pmp_le (a : AS) (d : AD) (p : Nat) : pmp a d p ≤ AD_gas d (AS_pC a p) ∧ pmp a d p ≤ AS_pS a p * (prz a d (AS_pC a p) - AS_pL a p) := by
  unfold pmp
  split <;> omega
theorem WF_pump (hW : WFs a) {s : AD × Nat} (hD : WFd a s.1) {p : Nat} (hp : p < AS_nP a) : WFd a (pump1 a p s).1 := by
  obtain ⟨h1, h2, h3, h4, h5, h6, h7, h8⟩ := hW.2.2.1 p hp
  unfold pump1
  split
  · split
    · rename_i hc
      obtain ⟨c1, c2⟩ := cnd_0 hc
      split
      · exact hD
      · refine WF_give (WF_take hD _ (Or.inr h1)) (fun he => ?_)
        have hE : AS_pE a p < AS_nC a := by omega
        have hv := hW.2.1 _ hE
        rw [take_gas_ne h3]
        have g1 := gas_up (d := s.1) hW hE
        have g2 := (pmp_le a s.1 p).2
        have g3 : AS_pS a p * (prz a s.1 (AS_pC a p) - AS_pL a p) ≤ 999 * 1000000 := Nat.mul_le_mul h5 (by omega)
        have g4 : (prz a s.1 (AS_pE a p) + 1) * AS_vol a (AS_pE a p) ≤ 1000001 * AS_vol a (AS_pE a p) := Nat.mul_le_mul_right _ (by omega)
        unfold PMAX
        omega
    · exact WF_tripP hD hp
  · exact hD
theorem WF_trip (hW : WFs a) {s : AD × Nat} (hD : WFd a s.1) {v : Nat} (hv : v < AS_nV a) : WFd a (trip1 a v s).1 := by
  unfold trip1
  split
  · exact WF_tripV hD hv
  · exact hD
theorem WF_tic (hW : WFs a) {s : AD × Nat} (hD : WFd a s.1) : WFd a (tic a s).1 := by
  have h1 : WFd a (ticT a s).1 := goN_ind (P := fun t : AD × Nat => WFd a t.1) hD (fun i t h1 h2 ht => WF_trip hW ht (by omega))
  have h2 : WFd a (ticG a (ticT a s).1) := goN_ind (P := fun t : AD => WFd a t) h1 (fun i t h1 h2 ht => WF_gasIn hW ht (by omega))
  have h3 : WFd a (ticM a (ticG a (ticT a s).1)) := goN_ind (P := fun t : AD => WFd a t) h2 (fun i t h1 h2 ht => WF_move hW ht (by omega))
  have h4 : WFd a (tic0 a s).1 := goN_ind (P := fun t : AD × Nat => WFd a t.1) h3 (fun i t h1 h2 ht => WF_pump hW ht (by omega))
  exact h4
end WFT

