/-! reading: what the small methods answer -/
theorem ad0 (n : Nat) : i4 n + 0 = i4 n := Int32.add_zero _
theorem ad1 (n : Nat) : i4 n + 1 = i4 (n + 1) := i4_add n 1
theorem ad2 (n : Nat) : i4 n + 2 = i4 (n + 2) := i4_add n 2
theorem ad3 (n : Nat) : i4 n + 3 = i4 (n + 3) := i4_add n 3
theorem ad4 (n : Nat) : i4 n + 4 = i4 (n + 4) := i4_add n 4
theorem ad5 (n : Nat) : i4 n + 5 = i4 (n + 5) := i4_add n 5
theorem ad6 (n : Nat) : i4 n + 6 = i4 (n + 6) := i4_add n 6
theorem ad7 (n : Nat) : i4 n + 7 = i4 (n + 7) := i4_add n 7
theorem gdi {α : Type} {n m : Nat} (x : Option α) (h : n < m) (hn : n < 2147483648) : gd (inb (i4 n) m) x = x := gd_of (inb4 h hn)
def m4 (e : Nat) : Int32 := if e = 8 then -1 else i4 e
theorem mE_to4 (e : Nat) : (mE e).toInt32 = m4 e := by
  unfold mE m4
  split
  · exact m1_to4
  · exact i8_to4 e
theorem m4_lt {e : Nat} (h : e ≠ 8) : m4 e = i4 e := if_neg h
theorem m4_8 : m4 8 = -1 := rfl
section READS
variable {a : AS} {d : AD} {ly : LL} {S : SS}
theorem prz_le (hW : WFs a) (hD : WFd a d) {e : Nat} (he : e = 8 ∨ e < AS_nC a) : prz a d e ≤ 1000250000 := by
  unfold prz
  split
  · omega
  · rename_i h8
    have he' : e < AS_nC a := by omega
    have h1 := (hD.1 e he').1
    rw [Nat.mul_comm] at h1
    have h2 : AD_gas d e / AS_vol a e < PMAX + 1 := Nat.div_lt_of_lt_mul h1
    unfold PMAX at h2
    omega
theorem dif_le (hW : WFs a) (hD : WFd a d) {v : Nat} (hv : v < AS_nV a) : dif a d v ≤ 1000250000 := by
  have h1 := (hW.2.2.2.1 v hv)
  have h2 := prz_le hW hD (e := AS_vA a v) (Or.inr h1.1)
  have h3 := prz_le hW hD (e := AS_vB a v) h1.2.1
  unfold dif
  omega
/-! the class -/
theorem C_pr (hS : RCd a d S) {e : Nat} (he : e = 8 ∨ e < AS_nC a) : SS_pressure S e = i4 (prz a d e) := by
  unfold prz
  by_cases h8 : e = 8
  · subst h8
    rw [if_pos rfl]
    exact hS.2.1.2
  · rw [if_neg h8]
    exact (hS.2.1.1 e (by omega)).2
theorem bit01 (b : Bool) : (if (if b = true then (1 : Int32) else 0) = 0 then (0 : Int32) else 1) = if b = true then 1 else 0 := by
  cases b <;> rfl
theorem C_isOpen (hW : WFs a) (hS : RCd a d S) {v : Nat} (hv : v < AS_nV a) : f5_isOpen S (i4 v) = some (if AD_opn d v = true then 1 else 0) := by
  have := hW.1
  unfold f5_isOpen
  rw [bit_ask _ (by omega), (hS.2.2.2.2.2.1 v hv).1, bit01]
theorem C_isRunning (hW : WFs a) (hS : RCd a d S) {p : Nat} (hp : p < AS_nP a) : f5_isRunning S (i4 p) = some (if AD_run d p = true then 1 else 0) := by
  have := hW.1
  unfold f5_isRunning
  rw [bit_ask _ (by omega), (hS.2.2.2.2.2.2.1 p hp).1, bit01]
theorem i4_neg_lt {x y : Nat} (hx : x < 2147483648) (hy : y < 2147483648) : (i4 x - i4 y).toInt = (x : Int) - y := by
  rw [Int32.toInt_sub, i4_toInt hx, i4_toInt hy]
  exact Int.bmod_eq_of_le (by omega) (by omega)
theorem i8_neg_lt {x y : Nat} (hx : x < 4611686018427387904) (hy : y < 4611686018427387904) : (i8 x - i8 y).toInt = (x : Int) - y := by
  rw [Int64.toInt_sub, i8_toInt (by omega), i8_toInt (by omega)]
  exact Int.bmod_eq_of_le (by omega) (by omega)
theorem abs4 {x y : Nat} (hx : x < 2147483648) (hy : y < 2147483648) : (if 0 ≤ i4 x - i4 y then i4 x - i4 y else 0 - (i4 x - i4 y)) = i4 ((x - y) + (y - x)) := by
  have h0 : (0 : Int32).toInt = 0 := by decide
  by_cases h : y ≤ x
  · rw [if_pos (by rw [Int32.le_iff_toInt_le, i4_neg_lt hx hy, h0]; omega), i4_sub h]
    congr 1
    omega
  · rw [if_neg (by rw [Int32.le_iff_toInt_le, i4_neg_lt hx hy, h0]; omega), Int32.zero_sub, Int32.neg_sub, i4_sub (by omega)]
    congr 1
    omega
theorem abs8 {x y : Nat} (hx : x < 4611686018427387904) (hy : y < 4611686018427387904) : (if 0 < i8 x - i8 y then i8 x - i8 y else -(i8 x - i8 y)) = i8 ((x - y) + (y - x)) := by
  have h0 : (0 : Int64).toInt = 0 := by decide
  by_cases h : y < x
  · rw [if_pos (by rw [Int64.lt_iff_toInt_lt, i8_neg_lt hx hy, h0]; omega), i8_sub (by omega)]
    congr 1
    omega
  · rw [if_neg (by rw [Int64.lt_iff_toInt_lt, i8_neg_lt hx hy, h0]; omega), Int64.neg_sub, i8_sub (by omega)]
    congr 1
    omega
theorem C_dif (hW : WFs a) (hD : WFd a d) (hL : RCs a ly) (hS : RCd a d S) {v : Nat} (hv : v < AS_nV a) : f5_difference ly S (i4 v) = some (i4 (dif a d v)) := by
  have hN := hW.1
  obtain ⟨h1, h2, h3, -⟩ := hW.2.2.2.1 v hv
  obtain ⟨e1, e2, -⟩ := hL.2.2.2.1 v hv
  have p1 := prz_le hW hD (e := AS_vA a v) (Or.inr h1)
  have p2 := prz_le hW hD (e := AS_vB a v) h2
  unfold f5_difference
  rw [gdi _ (by omega) (by omega), ix4 (by omega), e1, e2, gdi _ (by omega) (by omega), gdi _ (by omega) (by omega), ix4 (by omega), ix4 (by omega), C_pr hS (Or.inr h1), C_pr hS h2, abs4 (by omega) (by omega)]
  rfl
def cnd (a : AS) (d : AD) (p : Nat) : Nat := if prz a d (AS_pC a p) ≤ AS_pH a p then (if AS_pE a p = 8 ∨ prz a d (AS_pE a p) ≤ AS_pB a p then 0 else 3) else 2
theorem C_cnd (hW : WFs a) (hD : WFd a d) (hL : RCs a ly) (hS : RCd a d S) {p : Nat} (hp : p < AS_nP a) : f5_conditionBar ly S (i4 p) = some (i4 (cnd a d p)) := by
  have hN := hW.1
  obtain ⟨h1, h2, h3, h4, h5, h6, h7, h8⟩ := hW.2.2.1 p hp
  obtain ⟨e1, e2, e3, e4, e5, e6⟩ := hL.2.2.1 p hp
  have p1 := prz_le hW hD (e := AS_pC a p) (Or.inr h1)
  have p2 := prz_le hW hD (e := AS_pE a p) h2
  unfold f5_conditionBar cnd
  rw [gdi _ (by omega) (by omega), ix4 (by omega), e1, e2, e5, gdi _ (by omega) (by omega), ix4 (by omega), C_pr hS (Or.inr h1)]
  by_cases c1 : prz a d (AS_pC a p) ≤ AS_pH a p
  · rw [if_pos c1, if_pos ((i4_le (by omega) (by omega)).mpr c1)]
    by_cases c2 : AS_pE a p = 8
    · rw [if_pos (Or.inl c2), c2, if_pos (by rfl)]
      rfl
    · rw [if_neg (show ¬ (i4 (AS_pE a p) = (8 : Int32)) from fun h => c2 ((i4_eq (b := 8) (by omega) (by omega)).mp h)), gdi _ (by omega) (by omega), ix4 (by omega), C_pr hS h2, e6 c2]
      by_cases c3 : prz a d (AS_pE a p) ≤ AS_pB a p
      · rw [if_pos ((i4_le (by omega) (by omega)).mpr c3), if_pos (Or.inr c3)]
        rfl
      · rw [if_neg (fun h => c3 ((i4_le (by omega) (by omega)).mp h)), if_neg (fun h => h.elim c2 c3)]
        rfl
  · rw [if_neg c1, if_neg (fun h => c1 ((i4_le (by omega) (by omega)).mp h))]
    rfl
/-! the reference -/
theorem gas_lt (hW : WFs a) (hD : WFd a d) {c : Nat} (hc : c < AS_nC a) : AD_gas d c < 1000250001 * 999 := by
  have h1 := (hD.1 c hc).1
  have h2 := (hW.2.1 c hc).2.1
  exact Nat.lt_of_lt_of_le h1 (Nat.mul_le_mul (by unfold PMAX; omega) h2)
theorem b8_to4 (b : Bool) : (if (b8 b).toInt32 = 1 then (1 : Int32) else 0) = if b = true then 1 else 0 := by
  cases b <;> rfl
end READS

