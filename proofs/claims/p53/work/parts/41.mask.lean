/-! sets as bits; which parts touch a chamber -/
def mskN (p : Nat → Bool) : Nat → Int32
  | 0 => 0
  | n + 1 => if p n = true then mskN p n ||| (1 <<< (i4 n &&& 31)) else mskN p n
theorem bit_mskN (p : Nat → Bool) : ∀ {n : Nat} (j : Nat), n ≤ 32 → bit (mskN p n) j = (decide (j < n) && p j)
  | 0, j, _ => by rw [show mskN p 0 = 0 from rfl, bit_zero]; simp
  | n + 1, j, h => by
    unfold mskN
    by_cases hp : p n = true
    · rw [if_pos hp, bit_or, bit_mskN p j (by omega), bit_one_shl (by omega)]
      by_cases hj : j = n
      · subst hj; simp [hp]
      · have : (j < n + 1) = (j < n) := propext ⟨fun _ => by omega, fun _ => by omega⟩
        simp [hj, this]
    · rw [if_neg hp, bit_mskN p j (by omega)]
      by_cases hj : j = n
      · subst hj
        have : p j = false := by simpa using hp
        simp [this]
      · have : (j < n + 1) = (j < n) := propext ⟨fun _ => by omega, fun _ => by omega⟩
        simp [this]
theorem mskN_y {p : Nat → Bool} {n : Nat} (h : p n = true) : mskN p n ||| (1 <<< (i4 n &&& 31)) = mskN p (n + 1) := by
  show _ = if p n = true then mskN p n ||| (1 <<< (i4 n &&& 31)) else mskN p n
  rw [if_pos h]
theorem mskN_n {p : Nat → Bool} {n : Nat} (h : ¬ p n = true) : mskN p n = mskN p (n + 1) := by
  show _ = if p n = true then mskN p n ||| (1 <<< (i4 n &&& 31)) else mskN p n
  rw [if_neg h]
def anyF (p : Nat → Bool) : Nat → Nat → Bool
  | 0, _ => false
  | n + 1, v => p v || anyF p n (v + 1)
theorem anyF_false {p : Nat → Bool} : ∀ {n v : Nat}, anyF p n v = false ↔ ∀ i, v ≤ i → i < v + n → p i = false
  | 0, v => ⟨fun _ i h1 h2 => by omega, fun _ => rfl⟩
  | n + 1, v => by
    unfold anyF
    rw [Bool.or_eq_false_iff, anyF_false]
    refine ⟨fun ⟨h1, h2⟩ i h3 h4 => ?_, fun h => ⟨h v (Nat.le_refl v) (by omega), fun i h3 h4 => h i (by omega) (by omega)⟩⟩
    by_cases hi : i = v
    · rw [hi]; exact h1
    · exact h2 i (by omega) (by omega)
theorem int0_bits {x : Int32} : x = 0 ↔ ∀ j, j < 32 → bit x j = false :=
  ⟨fun h j _ => by rw [h, bit_zero], fun h => bit_ext (fun j hj => by rw [h j hj, bit_zero])⟩
def touV (a : AS) (c v : Nat) : Bool := decide (AS_vA a v = c ∨ AS_vB a v = c)
def touP (a : AS) (c p : Nat) : Bool := decide (AS_pC a p = c)
def touE (a : AS) (c p : Nat) : Bool := decide (AS_pC a p = c ∨ AS_pE a p = c)
theorem m4_eq {e c : Nat} (he : e = 8 ∨ e < 8) (hc : c < 8) : m4 e = i4 c ↔ e = c := by
  by_cases h8 : e = 8
  · subst h8
    rw [m4_8, m1_ne_i4 (by omega)]
    exact ⟨fun h => h.elim, fun h => by omega⟩
  · rw [m4_lt h8, i4_eq (by omega) (by omega)]
section MK
variable {a : AS} {d : AD} {ly : LL} {S : SS}
theorem C_valvesOf0 (hW : WFs a) (hL : RCs a ly) {c : Nat} (hc : c < AS_nC a) : ∀ (n v fu : Nat), v + n = AS_nV a → n < fu → f1_valvesOf_B4 ly fu (i4 c) (mskN (touV a c) v) (i4 v) = some (mskN (touV a c) (AS_nV a)) := by
  intro n
  have hN := hW.1
  induction n with
  | zero =>
    intro v fu hv hf
    obtain ⟨k, rfl, -⟩ := fuS hf
    rw [f1_valvesOf_B4, hL.1.2.2.1, if_pos ((i4_le (by omega) (by omega)).mpr (by omega)), show v = AS_nV a by omega]
  | succ n ih =>
    intro v fu hv hf
    obtain ⟨k, rfl, -⟩ := fuS hf
    have hvl : v < AS_nV a := by omega
    obtain ⟨h1, h2, h3, h4, h5⟩ := hW.2.2.2.1 v hvl
    obtain ⟨e1, e2, e3⟩ := hL.2.2.2.1 v hvl
    rw [f1_valvesOf_B4, hL.1.2.2.1, if_neg (fun h => by have := (i4_le (by omega) (by omega)).mp h; omega), gdi _ (by omega) (by omega), ix4 (by omega), e1, e2]
    by_cases q1 : AS_vA a v = c
    · rw [if_pos ((i4_eq (by omega) (by omega)).mpr q1)]
      unfold f1_valvesOf_B32
      rw [mskN_y (decide_eq_true (Or.inl q1)), ad1]
      exact ih (v + 1) k (by omega) (by omega)
    · rw [if_neg (fun h => q1 ((i4_eq (by omega) (by omega)).mp h))]
      by_cases q2 : AS_vB a v = c
      · rw [if_pos ((i4_eq (by omega) (by omega)).mpr q2)]
        unfold f1_valvesOf_B32
        rw [mskN_y (decide_eq_true (Or.inr q2)), ad1]
        exact ih (v + 1) k (by omega) (by omega)
      · rw [if_neg (fun h => q2 ((i4_eq (by omega) (by omega)).mp h)), mskN_n (fun h => (of_decide_eq_true h).elim q1 q2), ad1]
        exact ih (v + 1) k (by omega) (by omega)
theorem C_valvesOf (hW : WFs a) (hL : RCs a ly) {c : Nat} (hc : c < AS_nC a) : f1_valvesOf ly (i4 c) = some (mskN (touV a c) (AS_nV a)) :=
  C_valvesOf0 hW hL hc (AS_nV a) 0 FU (by omega) (by have := hW.1; have := FU_eq; omega)
theorem C_pumpsOf0 (hW : WFs a) (hL : RCs a ly) {c : Nat} (hc : c < AS_nC a) : ∀ (n v fu : Nat), v + n = AS_nP a → n < fu → f1_pumpsOf_B4 ly fu (i4 c) (mskN (touP a c) v) (i4 v) = some (mskN (touP a c) (AS_nP a)) := by
  intro n
  have hN := hW.1
  induction n with
  | zero =>
    intro v fu hv hf
    obtain ⟨k, rfl, -⟩ := fuS hf
    rw [f1_pumpsOf_B4, hL.1.2.1, if_pos ((i4_le (by omega) (by omega)).mpr (by omega)), show v = AS_nP a by omega]
  | succ n ih =>
    intro v fu hv hf
    obtain ⟨k, rfl, -⟩ := fuS hf
    have hvl : v < AS_nP a := by omega
    have h1 := (hW.2.2.1 v hvl).1
    have e1 := (hL.2.2.1 v hvl).1
    rw [f1_pumpsOf_B4, hL.1.2.1, if_neg (fun h => by have := (i4_le (by omega) (by omega)).mp h; omega), gdi _ (by omega) (by omega), ix4 (by omega), e1]
    by_cases q1 : AS_pC a v = c
    · rw [if_pos ((i4_eq (by omega) (by omega)).mpr q1), mskN_y (decide_eq_true q1), ad1]
      exact ih (v + 1) k (by omega) (by omega)
    · rw [if_neg (fun h => q1 ((i4_eq (by omega) (by omega)).mp h)), mskN_n (fun h => q1 (of_decide_eq_true h)), ad1]
      exact ih (v + 1) k (by omega) (by omega)
theorem C_pumpsOf (hW : WFs a) (hL : RCs a ly) {c : Nat} (hc : c < AS_nC a) : f1_pumpsOf ly (i4 c) = some (mskN (touP a c) (AS_nP a)) :=
  C_pumpsOf0 hW hL hc (AS_nP a) 0 FU (by omega) (by have := hW.1; have := FU_eq; omega)
/-- nothing moves at a chamber -/
def busV (a : AS) (d : AD) (c v : Nat) : Bool := touV a c v && AD_opn d v
def busP (a : AS) (d : AD) (c p : Nat) : Bool := touE a c p && AD_run d p
def aln (a : AS) (d : AD) (c : Nat) : Prop := anyF (busV a d c) (AS_nV a) 0 = false ∧ anyF (busP a d c) (AS_nP a) 0 = false
theorem C_open0 (hW : WFs a) (hS : RCd a d S) (c : Nat) : (mskN (touV a c) (AS_nV a) &&& SS_openValves S) = 0 ↔ anyF (busV a d c) (AS_nV a) 0 = false := by
  have hN := hW.1
  rw [int0_bits, anyF_false]
  refine ⟨fun h i _ hi => ?_, fun h j hj => ?_⟩
  · have := h i (by omega)
    rw [bit_and, bit_mskN _ _ (by omega), (hS.2.2.2.2.2.1 i (by omega)).1] at this
    have hd : decide (i < AS_nV a) = true := decide_eq_true (by omega)
    rw [hd, Bool.true_and] at this
    exact this
  · rw [bit_and, bit_mskN _ _ (by omega)]
    by_cases hv : j < AS_nV a
    · rw [(hS.2.2.2.2.2.1 j hv).1, decide_eq_true hv, Bool.true_and]
      exact h j (by omega) (by omega)
    · rw [decide_eq_false hv, Bool.false_and, Bool.false_and]
theorem C_shut0 (hW : WFs a) (hL : RCs a ly) (hS : RCd a d S) {c : Nat} (hc : c < AS_nC a) : ∀ (n v fu : Nat), v + n = AS_nP a → n < fu → f5_isShutOff_B20 ly S fu (i4 c) (i4 v) = some (if anyF (busP a d c) n v = false then 1 else 0) := by
  intro n
  have hN := hW.1
  induction n with
  | zero =>
    intro v fu hv hf
    obtain ⟨k, rfl, -⟩ := fuS hf
    rw [f5_isShutOff_B20, hL.1.2.1, if_pos ((i4_le (by omega) (by omega)).mpr (by omega))]
    rfl
  | succ n ih =>
    intro v fu hv hf
    obtain ⟨k, rfl, -⟩ := fuS hf
    have hvl : v < AS_nP a := by omega
    obtain ⟨h1, h2, -⟩ := hW.2.2.1 v hvl
    obtain ⟨e1, e2, -⟩ := hL.2.2.1 v hvl
    have B0 : f5_isShutOff_B62 ly S (f5_isShutOff_B20 ly S k) (i4 c) (i4 v) 0 = some (if anyF (busP a d c) n (v + 1) = false then 1 else 0) := by
      unfold f5_isShutOff_B62
      rw [if_pos rfl, ad1]
      exact ih (v + 1) k (by omega) (by omega)
    have B1 : f5_isShutOff_B62 ly S (f5_isShutOff_B20 ly S k) (i4 c) (i4 v) 1 = some (if (AD_run d v || anyF (busP a d c) n (v + 1)) = false then 1 else 0) := by
      unfold f5_isShutOff_B62
      rw [if_neg one_ne, C_isRunning hW hS hvl, sbind]
      by_cases hO : AD_run d v = true
      · rw [if_pos hO, if_neg one_ne, hO, Bool.true_or]
        rfl
      · rw [if_neg hO, if_pos rfl, ad1, (by simpa using hO : AD_run d v = false), Bool.false_or]
        exact ih (v + 1) k (by omega) (by omega)
    rw [f5_isShutOff_B20, hL.1.2.1, if_neg (fun h => by have := (i4_le (by omega) (by omega)).mp h; omega), gdi _ (by omega) (by omega), ix4 (by omega), e1, e2]
    unfold anyF busP
    by_cases q1 : AS_pC a v = c
    · rw [if_pos ((i4_eq (by omega) (by omega)).mpr q1), show touE a c v = true from decide_eq_true (Or.inl q1), Bool.true_and]
      exact B1
    · rw [if_neg (fun h => q1 ((i4_eq (by omega) (by omega)).mp h))]
      by_cases q2 : AS_pE a v = c
      · rw [if_pos ((i4_eq (by omega) (by omega)).mpr q2), show touE a c v = true from decide_eq_true (Or.inr q2), Bool.true_and]
        exact B1
      · rw [if_neg (fun h => q2 ((i4_eq (by omega) (by omega)).mp h)), show touE a c v = false from decide_eq_false (fun h => h.elim q1 q2), Bool.false_and, Bool.false_or]
        exact B0
theorem C_shut (hW : WFs a) (hL : RCs a ly) (hS : RCd a d S) {c : Nat} (hc : c < AS_nC a) : ∃ r, f5_isShutOff ly S (i4 c) = some r ∧ (aln a d c → r = 1) ∧ (¬ aln a d c → r = 0) := by
  have hN := hW.1
  have := FU_eq
  have h0 := C_shut0 hW hL hS hc (AS_nP a) 0 FU (by omega) (by omega)
  unfold f5_isShutOff aln
  rw [C_valvesOf hW hL hc, sbind]
  by_cases q1 : anyF (busV a d c) (AS_nV a) 0 = false
  · rw [if_pos ((C_open0 hW hS c).mpr q1), show f5_isShutOff_B20 ly S FU (i4 c) 0 = _ from h0]
    refine ⟨_, rfl, fun h => if_pos h.2, fun h => if_neg (fun q => h ⟨q1, q⟩)⟩
  · rw [if_neg (fun h => q1 ((C_open0 hW hS c).mp h))]
    exact ⟨0, rfl, fun h => absurd h.1 q1, fun _ => rfl⟩
end MK

