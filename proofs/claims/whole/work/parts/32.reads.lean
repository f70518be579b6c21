/-! reading: what the small methods answer -/
theorem ad0 (n : Nat) : i4 n + 0 = i4 n := Int32.add_zero _
theorem ad1 (n : Nat) : i4 n + 1 = i4 (n + 1) := i4_add n 1
theorem ad2 (n : Nat) : i4 n + 2 = i4 (n + 2) := i4_add n 2
theorem ad3 (n : Nat) : i4 n + 3 = i4 (n + 3) := i4_add n 3
theorem ad4 (n : Nat) : i4 n + 4 = i4 (n + 4) := i4_add n 4
theorem ad5 (n : Nat) : i4 n + 5 = i4 (n + 5) := i4_add n 5
theorem ad6 (n : Nat) : i4 n + 6 = i4 (n + 6) := i4_add n 6
theorem ad7 (n : Nat) : i4 n + 7 = i4 (n + 7) := i4_add n 7
theorem gdi {α : Type} {n m : Nat} (x : Option α) (h : n < m) (hn : n < 2147483648) : gd (inb (i4 n) m) x = x := gd_of (inb4 h hn)
theorem at_c (c : Nat) : f10_chamberAt (i4 c) = some (i4 (8 + 4 * c)) := by
  unfold f10_chamberAt
  congr 1
  show i4 8 + i4 4 * i4 c = _
  rw [i4_mul, i4_add]
theorem at_p (c : Nat) : f10_pumpAt (i4 c) = some (i4 (40 + 8 * c)) := by
  unfold f10_pumpAt
  congr 1
  show i4 40 + i4 8 * i4 c = _
  rw [i4_mul, i4_add]
theorem at_v (c : Nat) : f10_valveAt (i4 c) = some (i4 (88 + 6 * c)) := by
  unfold f10_valveAt
  congr 1
  show i4 88 + i4 6 * i4 c = _
  rw [i4_mul, i4_add]
theorem at_f (c : Nat) : f10_flangeAt (i4 c) = some (i4 (148 + 2 * c)) := by
  unfold f10_flangeAt
  congr 1
  show i4 148 + i4 2 * i4 c = _
  rw [i4_mul, i4_add]
theorem at_t (c : Nat) : f10_testAt (i4 c) = some (i4 (196 + 6 * c)) := by
  unfold f10_testAt
  congr 1
  show i4 196 + i4 6 * i4 c = _
  rw [i4_mul, i4_add]
def m4 (e : Nat) : Int32 := if e = 8 then -1 else i4 e
theorem mE_to4 (e : Nat) : (mE e).toInt32 = m4 e := by
  unfold mE m4
  split
  · exact m1_to4
  · exact i8_to4 e
theorem m4_lt {e : Nat} (h : e ≠ 8) : m4 e = i4 e := if_neg h
theorem m4_8 : m4 8 = -1 := rfl
section READS
variable {a : AS} {d : AD} {ly : LL} {S : SS} {w : Nat → Int64}
theorem prz_le (hW : WFs a) (hD : WFd a d) {e : Nat} (he : e = 8 ∨ e < AS_nC a) : prz a d e ≤ 1000250000 := by
  unfold prz
  split
  · omega
  · rename_i h8
    have he' : e < AS_nC a := by omega
    have h1 := (hD.1 e he').1
    rw [Nat.mul_comm] at h1
    have h2 : AD_gas d e / AS_vol a e < PMAX + 1 := Nat.div_lt_of_lt_mul h1
    unfold PMAX at h2
    omega
theorem dif_le (hW : WFs a) (hD : WFd a d) {v : Nat} (hv : v < AS_nV a) : dif a d v ≤ 1000250000 := by
  have h1 := (hW.2.2.2.1 v hv)
  have h2 := prz_le hW hD (e := AS_vA a v) (Or.inr h1.1)
  have h3 := prz_le hW hD (e := AS_vB a v) h1.2.1
  unfold dif
  omega
/-! the class -/
theorem C_pr (hS : RCd a d S) {e : Nat} (he : e = 8 ∨ e < AS_nC a) : SS_pressure S e = i4 (prz a d e) := by
  unfold prz
  by_cases h8 : e = 8
  · subst h8
    rw [if_pos rfl]
    exact hS.2.1.2
  · rw [if_neg h8]
    exact (hS.2.1.1 e (by omega)).2
theorem bit01 (b : Bool) : (if (if b = true then (1 : Int32) else 0) = 0 then (0 : Int32) else 1) = if b = true then 1 else 0 := by
  cases b <;> rfl
theorem C_isOpen (hW : WFs a) (hS : RCd a d S) {v : Nat} (hv : v < AS_nV a) : f5_isOpen S (i4 v) = some (if AD_opn d v = true then 1 else 0) := by
  have := hW.1
  unfold f5_isOpen
  rw [bit_ask _ (by omega), (hS.2.2.2.2.2.1 v hv).1, bit01]
theorem C_isRunning (hW : WFs a) (hS : RCd a d S) {p : Nat} (hp : p < AS_nP a) : f5_isRunning S (i4 p) = some (if AD_run d p = true then 1 else 0) := by
  have := hW.1
  unfold f5_isRunning
  rw [bit_ask _ (by omega), (hS.2.2.2.2.2.2.1 p hp).1, bit01]
theorem i4_neg_lt {x y : Nat} (hx : x < 2147483648) (hy : y < 2147483648) : (i4 x - i4 y).toInt = (x : Int) - y := by
  rw [Int32.toInt_sub, i4_toInt hx, i4_toInt hy]
  exact Int.bmod_eq_of_le (by omega) (by omega)
theorem i8_neg_lt {x y : Nat} (hx : x < 4611686018427387904) (hy : y < 4611686018427387904) : (i8 x - i8 y).toInt = (x : Int) - y := by
  rw [Int64.toInt_sub, i8_toInt (by omega), i8_toInt (by omega)]
  exact Int.bmod_eq_of_le (by omega) (by omega)
theorem abs4 {x y : Nat} (hx : x < 2147483648) (hy : y < 2147483648) : (if 0 ≤ i4 x - i4 y then i4 x - i4 y else 0 - (i4 x - i4 y)) = i4 ((x - y) + (y - x)) := by
  have h0 : (0 : Int32).toInt = 0 := by decide
  by_cases h : y ≤ x
  · rw [if_pos (by rw [Int32.le_iff_toInt_le, i4_neg_lt hx hy, h0]; omega), i4_sub h]
    congr 1
    omega
  · rw [if_neg (by rw [Int32.le_iff_toInt_le, i4_neg_lt hx hy, h0]; omega), Int32.zero_sub, Int32.neg_sub, i4_sub (by omega)]
    congr 1
    omega
theorem abs8 {x y : Nat} (hx : x < 4611686018427387904) (hy : y < 4611686018427387904) : (if 0 < i8 x - i8 y then i8 x - i8 y else -(i8 x - i8 y)) = i8 ((x - y) + (y - x)) := by
  have h0 : (0 : Int64).toInt = 0 := by decide
  by_cases h : y < x
  · rw [if_pos (by rw [Int64.lt_iff_toInt_lt, i8_neg_lt hx hy, h0]; omega), i8_sub (by omega)]
    congr 1
    omega
  · rw [if_neg (by rw [Int64.lt_iff_toInt_lt, i8_neg_lt hx hy, h0]; omega), Int64.neg_sub, i8_sub (by omega)]
    congr 1
    omega
theorem C_dif (hW : WFs a) (hD : WFd a d) (hL : RCs a ly) (hS : RCd a d S) {v : Nat} (hv : v < AS_nV a) : f5_difference ly S (i4 v) = some (i4 (dif a d v)) := by
  have hN := hW.1
  obtain ⟨h1, h2, h3, -⟩ := hW.2.2.2.1 v hv
  obtain ⟨e1, e2, -⟩ := hL.2.2.2.1 v hv
  have p1 := prz_le hW hD (e := AS_vA a v) (Or.inr h1)
  have p2 := prz_le hW hD (e := AS_vB a v) h2
  unfold f5_difference
  rw [gdi _ (by omega) (by omega), ix4 (by omega), e1, e2, gdi _ (by omega) (by omega), gdi _ (by omega) (by omega), ix4 (by omega), ix4 (by omega), C_pr hS (Or.inr h1), C_pr hS h2, abs4 (by omega) (by omega)]
  rfl
def cnd (a : AS) (d : AD) (p : Nat) : Nat := if prz a d (AS_pC a p) ≤ AS_pH a p then (if AS_pE a p = 8 ∨ prz a d (AS_pE a p) ≤ AS_pB a p then 0 else 3) else 2
theorem C_cnd (hW : WFs a) (hD : WFd a d) (hL : RCs a ly) (hS : RCd a d S) {p : Nat} (hp : p < AS_nP a) : f5_conditionBar ly S (i4 p) = some (i4 (cnd a d p)) := by
  have hN := hW.1
  obtain ⟨h1, h2, h3, h4, h5, h6, h7, h8⟩ := hW.2.2.1 p hp
  obtain ⟨e1, e2, e3, e4, e5, e6⟩ := hL.2.2.1 p hp
  have p1 := prz_le hW hD (e := AS_pC a p) (Or.inr h1)
  have p2 := prz_le hW hD (e := AS_pE a p) h2
  unfold f5_conditionBar cnd
  rw [gdi _ (by omega) (by omega), ix4 (by omega), e1, e2, e5, gdi _ (by omega) (by omega), ix4 (by omega), C_pr hS (Or.inr h1)]
  by_cases c1 : prz a d (AS_pC a p) ≤ AS_pH a p
  · rw [if_pos c1, if_pos ((i4_le (by omega) (by omega)).mpr c1)]
    by_cases c2 : AS_pE a p = 8
    · rw [if_pos (Or.inl c2), c2, if_pos (by rfl)]
      rfl
    · rw [if_neg (show ¬ (i4 (AS_pE a p) = (8 : Int32)) from fun h => c2 ((i4_eq (b := 8) (by omega) (by omega)).mp h)), gdi _ (by omega) (by omega), ix4 (by omega), C_pr hS h2, e6 c2]
      by_cases c3 : prz a d (AS_pE a p) ≤ AS_pB a p
      · rw [if_pos ((i4_le (by omega) (by omega)).mpr c3), if_pos (Or.inr c3)]
        rfl
      · rw [if_neg (fun h => c3 ((i4_le (by omega) (by omega)).mp h)), if_neg (fun h => h.elim c2 c3)]
        rfl
  · rw [if_neg c1, if_neg (fun h => c1 ((i4_le (by omega) (by omega)).mp h))]
    rfl
/-! the reference -/
theorem M_many (w : Nat → Int64) {k : Nat} (h : k < 256) : f10_many w (i4 k) = some (w k).toInt32 := by
  unfold f10_many
  rw [gdi _ h (by omega), ix4 (by omega)]
theorem M_nC (hA : RMs a w) : f10_many w 0 = some (i4 (AS_nC a)) := by
  have := M_many w (k := 0) (by omega)
  rw [hA.1.1, i8_to4] at this
  exact this
theorem M_nP (hA : RMs a w) : f10_many w 1 = some (i4 (AS_nP a)) := by
  have := M_many w (k := 1) (by omega)
  rw [hA.1.2.1, i8_to4] at this
  exact this
theorem M_nV (hA : RMs a w) : f10_many w 2 = some (i4 (AS_nV a)) := by
  have := M_many w (k := 2) (by omega)
  rw [hA.1.2.2.1, i8_to4] at this
  exact this
theorem M_nF (hA : RMs a w) : f10_many w 3 = some (i4 (AS_nF a)) := by
  have := M_many w (k := 3) (by omega)
  rw [hA.1.2.2.2, i8_to4] at this
  exact this
theorem M_volume (hW : WFs a) (hA : RMs a w) {c : Nat} (hc : c < AS_nC a) : f10_volume w (i4 c) = some (i8 (AS_vol a c)) := by
  have hN := hW.1
  unfold f10_volume
  rw [at_c, sbind, ad0, gdi _ (by omega) (by omega), ix4 (by omega), (hA.2.1 c hc).1]
theorem gas_lt (hW : WFs a) (hD : WFd a d) {c : Nat} (hc : c < AS_nC a) : AD_gas d c < 1000250001 * 999 := by
  have h1 := (hD.1 c hc).1
  have h2 := (hW.2.1 c hc).2.1
  exact Nat.lt_of_lt_of_le h1 (Nat.mul_le_mul (by unfold PMAX; omega) h2)
theorem M_pr (hW : WFs a) (hD : WFd a d) (hA : RMs a w) (hB : RMd a d w) {e : Nat} (he : e = 8 ∨ e < AS_nC a) : f10_pressure w (m4 e) = some (i8 (prz a d e)) := by
  have hN := hW.1
  unfold f10_pressure prz
  by_cases h8 : e = 8
  · subst h8
    rw [if_pos m4_8, if_pos rfl]
    rfl
  · have hc : e < AS_nC a := by omega
    have hv := hW.2.1 e hc
    have hg := gas_lt hW hD hc
    rw [m4_lt h8, if_neg (by rw [i4_ne_m1 (by omega)]; exact id), if_neg h8, at_c, sbind, ad3, gdi _ (by omega) (by omega), M_volume hW hA hc, sbind, gd_of (i8_ne0 (by omega) (by omega)), ix4 (by omega), (hB.2.1 e hc).2, i8_div (by omega) (by omega)]
theorem M_prc (hW : WFs a) (hD : WFd a d) (hA : RMs a w) (hB : RMd a d w) {c : Nat} (hc : c < AS_nC a) : f10_pressure w (i4 c) = some (i8 (prz a d c)) := by
  have hN := hW.1
  rw [← m4_lt (show c ≠ 8 by omega)]
  exact M_pr hW hD hA hB (Or.inr hc)
theorem M_ofValve (w : Nat → Int64) {v j : Nat} (h : 88 + 6 * v + j < 256) : f10_ofValve w (i4 v) (i4 j) = some (w (88 + 6 * v + j)).toInt32 := by
  unfold f10_ofValve
  rw [at_v, sbind, i4_add, gdi _ h (by omega), ix4 (by omega)]
theorem M_ofPump (w : Nat → Int64) {v j : Nat} (h : 40 + 8 * v + j < 256) : f10_ofPump w (i4 v) (i4 j) = some (w (40 + 8 * v + j)).toInt32 := by
  unfold f10_ofPump
  rw [at_p, sbind, i4_add, gdi _ h (by omega), ix4 (by omega)]
theorem M_vA (hW : WFs a) (hA : RMs a w) {v : Nat} (hv : v < AS_nV a) : f10_ofValve w (i4 v) 0 = some (i4 (AS_vA a v)) := by
  have hN := hW.1
  have := M_ofValve w (v := v) (j := 0) (by omega)
  rw [(show w (88 + 6 * v + 0) = i8 (AS_vA a v) from (hA.2.2.2.1 v hv).1), i8_to4] at this
  exact this
theorem M_vB (hW : WFs a) (hA : RMs a w) {v : Nat} (hv : v < AS_nV a) : f10_ofValve w (i4 v) 1 = some (m4 (AS_vB a v)) := by
  have hN := hW.1
  have := M_ofValve w (v := v) (j := 1) (by omega)
  rw [(hA.2.2.2.1 v hv).2.1, mE_to4] at this
  exact this
theorem M_pC (hW : WFs a) (hA : RMs a w) {v : Nat} (hv : v < AS_nP a) : f10_ofPump w (i4 v) 0 = some (i4 (AS_pC a v)) := by
  have hN := hW.1
  have := M_ofPump w (v := v) (j := 0) (by omega)
  rw [(show w (40 + 8 * v + 0) = i8 (AS_pC a v) from (hA.2.2.1 v hv).1), i8_to4] at this
  exact this
theorem M_pE (hW : WFs a) (hA : RMs a w) {v : Nat} (hv : v < AS_nP a) : f10_ofPump w (i4 v) 1 = some (m4 (AS_pE a v)) := by
  have hN := hW.1
  have := M_ofPump w (v := v) (j := 1) (by omega)
  rw [(hA.2.2.1 v hv).2.1, mE_to4] at this
  exact this
theorem b8_to4 (b : Bool) : (if (b8 b).toInt32 = 1 then (1 : Int32) else 0) = if b = true then 1 else 0 := by
  cases b <;> rfl
theorem M_isOpen (hW : WFs a) (hB : RMd a d w) {v : Nat} (hv : v < AS_nV a) : f10_isOpen w (i4 v) = some (if AD_opn d v = true then 1 else 0) := by
  have hN := hW.1
  have h : f10_ofValve w (i4 v) 4 = _ := M_ofValve w (v := v) (j := 4) (by omega)
  unfold f10_isOpen
  rw [h, sbind, (hB.2.2.2.1 v hv).2.1, b8_to4]
theorem M_isRunning (hW : WFs a) (hB : RMd a d w) {v : Nat} (hv : v < AS_nP a) : f10_isRunning w (i4 v) = some (if AD_run d v = true then 1 else 0) := by
  have hN := hW.1
  have h : f10_ofPump w (i4 v) 6 = _ := M_ofPump w (v := v) (j := 6) (by omega)
  unfold f10_isRunning
  rw [h, sbind, (hB.2.2.1 v hv).1, b8_to4]
theorem M_dif (hW : WFs a) (hD : WFd a d) (hA : RMs a w) (hB : RMd a d w) {v : Nat} (hv : v < AS_nV a) : f10_difference w (i4 v) = some (i8 (dif a d v)) := by
  obtain ⟨h1, h2, h3, -⟩ := hW.2.2.2.1 v hv
  have p1 := prz_le hW hD (e := AS_vA a v) (Or.inr h1)
  have p2 := prz_le hW hD (e := AS_vB a v) h2
  unfold f10_difference
  rw [M_vA hW hA hv, sbind, M_prc hW hD hA hB h1, sbind, M_vB hW hA hv, sbind, M_pr hW hD hA hB h2, sbind, abs8 (by omega) (by omega)]
  rfl
theorem M_mayJoin (hW : WFs a) (hD : WFd a d) (hA : RMs a w) (hB : RMd a d w) {v : Nat} (hv : v < AS_nV a) : f10_mayJoin w (i4 v) = some (if AD_rul d v < dif a d v then 0 else 1) := by
  have hN := hW.1
  have h1 := dif_le hW hD hv
  have h2 := hD.2.1 v hv
  unfold f10_mayJoin
  rw [M_dif hW hD hA hB hv, sbind, at_v, sbind, ad3, gdi _ (by omega) (by omega), ix4 (by omega), (hB.2.2.2.1 v hv).1]
  congr 1
  by_cases c : AD_rul d v < dif a d v
  · rw [if_pos c, if_pos ((i8_lt (by omega) (by omega)).mpr c)]
  · rw [if_neg c, if_neg (fun h => c ((i8_lt (by omega) (by omega)).mp h))]
theorem M_isLowEnough (hW : WFs a) (hD : WFd a d) (hA : RMs a w) (hB : RMd a d w) {p : Nat} (hp : p < AS_nP a) : f10_isLowEnough w (i4 p) = some (if prz a d (AS_pC a p) ≤ AS_pH a p then 1 else 0) := by
  have hN := hW.1
  obtain ⟨h1, h2, h3, h4, h5, h6, h7, h8⟩ := hW.2.2.1 p hp
  have p1 := prz_le hW hD (e := AS_pC a p) (Or.inr h1)
  unfold f10_isLowEnough
  rw [M_pC hW hA hp, sbind, M_prc hW hD hA hB h1, sbind, at_p, sbind, ad4, gdi _ (by omega) (by omega), ix4 (by omega), (hA.2.2.1 p hp).2.2.2.2.1]
  congr 1
  by_cases c : prz a d (AS_pC a p) ≤ AS_pH a p
  · rw [if_pos c, if_neg (fun h => by have := (i8_lt (by omega) (by omega)).mp h; omega)]
  · rw [if_neg c, if_pos ((i8_lt (by omega) (by omega)).mpr (by omega))]
theorem M_isBacked (hW : WFs a) (hD : WFd a d) (hA : RMs a w) (hB : RMd a d w) {p : Nat} (hp : p < AS_nP a) : f10_isBacked w (i4 p) = some (if AS_pE a p = 8 ∨ prz a d (AS_pE a p) ≤ AS_pB a p then 1 else 0) := by
  have hN := hW.1
  obtain ⟨h1, h2, h3, h4, h5, h6, h7, h8⟩ := hW.2.2.1 p hp
  have p1 := prz_le hW hD (e := AS_pE a p) h2
  unfold f10_isBacked
  rw [M_pE hW hA hp, sbind]
  by_cases c : AS_pE a p = 8
  · rw [c, if_pos m4_8, if_pos (Or.inl rfl)]
  · rw [if_neg (by rw [m4_lt c, i4_ne_m1 (by omega)]; exact id), M_pr hW hD hA hB h2, sbind, at_p, sbind, ad5, gdi _ (by omega) (by omega), ix4 (by omega), (hA.2.2.1 p hp).2.2.2.2.2, if_neg c]
    by_cases c3 : prz a d (AS_pE a p) ≤ AS_pB a p
    · rw [if_neg (fun h => by have := (i8_lt (by omega) (by omega)).mp h; omega), if_pos (Or.inr c3)]
    · rw [if_pos ((i8_lt (by omega) (by omega)).mpr (by omega)), if_neg (fun h => h.elim c c3)]
end READS
