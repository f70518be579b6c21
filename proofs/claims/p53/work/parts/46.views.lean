/-! the views -/
def firN (p : Nat → Bool) : Nat → Nat → Int32
  | 0, _ => -1
  | n + 1, j => if p j = true then i4 j else firN p n (j + 1)
def firS (p : Nat → Bool) : Nat → Nat → Int32
  | 0, _ => -1
  | n + 1, j => if p j = true then i4 (j + 1) else firS p n (j + 1)
theorem firN_S {p q : Nat → Bool} (h : ∀ i, p (i + 1) = q i) : ∀ n j, firN p n (j + 1) = firS q n j
  | 0, _ => rfl
  | n + 1, j => by
    unfold firN firS
    rw [h j, firN_S h n (j + 1)]
theorem firN_congr {p q : Nat → Bool} (h : ∀ i, p i = q i) : ∀ n j, firN p n j = firN q n j := fun n j => by rw [show p = q from funext h]
theorem firS_last {q : Nat → Bool} : ∀ n j, (q (j + n) = true → ∃ i, j ≤ i ∧ i < j + n ∧ q i = true) → firS q (n + 1) j = firS q n j
  | 0, j, h => by
    unfold firS
    have : ¬ q j = true := fun e => by
      obtain ⟨i, h1, h2, -⟩ := h e
      omega
    rw [if_neg this]
    rfl
  | n + 1, j, h => by
    unfold firS
    by_cases hj : q j = true
    · rw [if_pos hj, if_pos hj]
    · rw [if_neg hj, if_neg hj]
      refine firS_last n (j + 1) (fun e => ?_)
      obtain ⟨i, h1, h2, h3⟩ := h (by rw [show j + (n + 1) = j + 1 + n by omega]; exact e)
      refine ⟨i, ?_, by omega, h3⟩
      by_cases hi : i = j
      · rw [hi] at h3; exact absurd h3 hj
      · omega
theorem allv_bit : ∀ n, n < 11 → ∀ j, j < 32 → bit ((1 <<< (i4 n &&& 31)) - 1) j = decide (j < n) := by decide +kernel
theorem i4_min {p q : Nat} (hp : p < 2147483648) (hq : q < 2147483648) : (if i4 p < i4 q then i4 p else i4 q) = i4 (if p < q then p else q) := by
  by_cases h : p < q
  · rw [if_pos h, if_pos ((i4_lt hp hq).mpr h)]
  · rw [if_neg h, if_neg (fun e => h ((i4_lt hp hq).mp e))]
theorem i8_min {p q : Nat} (hp : p < 2147483648) (hq : q < 2147483648) : (if i8 p < i8 q then i8 p else i8 q) = i8 (if p < q then p else q) := by
  by_cases h : p < q
  · rw [if_pos h, if_pos ((i8_lt (by omega) (by omega)).mpr h)]
  · rw [if_neg h, if_neg (fun e => h ((i8_lt (by omega) (by omega)).mp e))]
theorem i4_max {p q : Nat} (hp : p < 2147483648) (hq : q < 2147483648) : (if i4 q < i4 p then i4 p else i4 q) = i4 (if q < p then p else q) := by
  by_cases h : q < p
  · rw [if_pos h, if_pos ((i4_lt hq hp).mpr h)]
  · rw [if_neg h, if_neg (fun e => h ((i4_lt hq hp).mp e))]
theorem i8_max {p q : Nat} (hp : p < 2147483648) (hq : q < 2147483648) : (if i8 p < i8 q then i8 q else i8 p) = i8 (if q < p then p else q) := by
  by_cases h : q < p
  · rw [if_pos h, if_neg (fun e => by have := (i8_lt (by omega) (by omega)).mp e; omega)]
  · by_cases h2 : p < q
    · rw [if_neg h, if_pos ((i8_lt (by omega) (by omega)).mpr h2)]
    · rw [if_neg h, if_neg (fun e => h2 ((i8_lt (by omega) (by omega)).mp e)), show p = q by omega]
def spr (a : AS) (d : AD) (P : Nat → Bool) (c : Nat) (s : Nat × Nat) : Nat × Nat := if P c = true then (if prz a d c < s.1 then prz a d c else s.1, if s.2 < prz a d c then prz a d c else s.2) else s
def stl (a : AS) (d : AD) (P : Nat → Bool) (c : Nat) (s : Nat × Nat) : Nat × Nat := if P c = true then (s.1 + AD_gas d c, s.2 + AS_vol a c) else s
def wid (a : AS) (d : AD) (v : Nat) (o : Option Nat) : Option Nat := if AD_opn d v = true then o else match o with
  | none => some v
  | some b => if dif a d v ≤ dif a d b then some b else some v
def o4 (o : Option Nat) : Int32 := match o with
  | none => -1
  | some b => i4 b
def d4 (a : AS) (d : AD) (o : Option Nat) : Int32 := match o with
  | none => -1
  | some b => i4 (dif a d b)
section VI
variable {a : AS} {d : AD} {lY : LL} {tp : TP} {st : Fin 12 → SS}
theorem C_spread0 (hW : WFs a) (hD : WFd a d) (hL : RCs a lY) (hS : RCd a d (st (TP_pr tp))) {P : Nat → Bool} {x : Int32} (hP : ∀ c, c < AS_nC a → bit x c = P c) : ∀ (n c fu lo hi : Nat), c + n = AS_nC a → n < fu → lo ≤ 1000250000 → hi ≤ 1000250000 →
    f9_spread_B44 lY tp st fu x (i4 lo) (i4 hi) (i4 c) = some ((i4 (goN (spr a d P) n c (lo, hi)).2 - i4 (goN (spr a d P) n c (lo, hi)).1)) := by
  intro n
  have hN := hW.1
  induction n with
  | zero =>
    intro c fu lo hi hc hf h1 h2
    obtain ⟨q, rfl, -⟩ := fuS hf
    rw [f9_spread_B44, hL.1.1, if_pos ((i4_le (by omega) (by omega)).mpr (by omega))]
    rfl
  | succ n ih =>
    intro c fu lo hi hc hf h1 h2
    obtain ⟨q, rfl, -⟩ := fuS hf
    have hcl : c < AS_nC a := by omega
    have hp := prz_le hW hD (e := c) (Or.inr hcl)
    rw [f9_spread_B44, hL.1.1, if_neg (fun h => by have := (i4_le (by omega) (by omega)).mp h; omega), C_has _ (by omega), sbind, hP c hcl, goN_succ]
    by_cases hb : P c = true
    · rw [if_pos hb, if_neg one_ne, gdi _ (by omega) (by omega), ix4 (by omega), C_pr hS (Or.inr hcl), i4_min (by omega) (by omega), i4_max (by omega) (by omega), ad1, show spr a d P c (lo, hi) = (if prz a d c < lo then prz a d c else lo, if hi < prz a d c then prz a d c else hi) from if_pos hb]
      exact ih (c + 1) q _ _ (by omega) (by omega) (by split <;> omega) (by split <;> omega)
    · rw [if_neg hb, if_pos rfl, ad1, show spr a d P c (lo, hi) = (lo, hi) from if_neg hb]
      exact ih (c + 1) q _ _ (by omega) (by omega) h1 h2
theorem stl_pos (hW : WFs a) (P : Nat → Bool) : ∀ (n c : Nat) (s : Nat × Nat), c + n = AS_nC a → (0 < s.2 ∨ ∃ i, c ≤ i ∧ i < c + n ∧ P i = true) → 0 < (goN (stl a d P) n c s).2
  | 0, c, s, _, h => h.elim id (fun ⟨i, h1, h2, _⟩ => by omega)
  | n + 1, c, s, hc, h => by
    rw [goN_succ]
    have hv := hW.2.1 c (by omega)
    refine stl_pos hW P n (c + 1) _ (by omega) ?_
    unfold stl
    by_cases hb : P c = true
    · rw [if_pos hb]
      exact Or.inl (by show 0 < s.2 + AS_vol a c; omega)
    · rw [if_neg hb]
      rcases h with h | ⟨i, h1, h2, h3⟩
      · exact Or.inl h
      · refine Or.inr ⟨i, ?_, by omega, h3⟩
        by_cases hi : i = c
        · rw [hi] at h3; exact absurd h3 hb
        · omega
theorem stl_le (hW : WFs a) (hD : WFd a d) (P : Nat → Bool) : ∀ (n c : Nat) (s : Nat × Nat), c + n = AS_nC a → (goN (stl a d P) n c s).2 ≤ s.2 + 999 * n ∧ (goN (stl a d P) n c s).1 ≤ s.1 + 999249750999 * n
  | 0, c, s, _ => ⟨Nat.le_refl _, Nat.le_refl _⟩
  | n + 1, c, s, hc => by
    rw [goN_succ]
    have hv := hW.2.1 c (by omega)
    have hg := gas_lt hW hD (c := c) (by omega)
    obtain ⟨h1, h2⟩ := stl_le hW hD P n (c + 1) (stl a d P c s) (by omega)
    have h3 : (stl a d P c s).2 ≤ s.2 + 999 ∧ (stl a d P c s).1 ≤ s.1 + 999249750999 := by
      unfold stl
      split
      · exact ⟨by show s.2 + AS_vol a c ≤ _; omega, by show s.1 + AD_gas d c ≤ _; omega⟩
      · omega
    omega
theorem C_settled0 (hW : WFs a) (hD : WFd a d) (hL : RCs a lY) (hS : RCd a d (st (TP_pr tp))) {P : Nat → Bool} {x : Int32} (hP : ∀ c, c < AS_nC a → bit x c = P c) : ∀ (n c fu g v : Nat), c + n = AS_nC a → n < fu → 0 < (goN (stl a d P) n c (g, v)).2 → (goN (stl a d P) n c (g, v)).2 < 10000 → (goN (stl a d P) n c (g, v)).1 < 100000000000000 →
    f9_settled_B36 lY tp st fu x (i8 g) (i4 v) (i4 c) = some ((i4 ((goN (stl a d P) n c (g, v)).1 / (goN (stl a d P) n c (g, v)).2))) := by
  intro n
  have hN := hW.1
  induction n with
  | zero =>
    intro c fu g v hc hf h1 h2 h3
    obtain ⟨q, rfl, -⟩ := fuS hf
    rw [goN_zero] at h1 h2 h3 ⊢
    rw [f9_settled_B36, hL.1.1, if_pos ((i4_le (by omega) (by omega)).mpr (by omega)), if_neg (show ¬ (i4 v ≤ (0 : Int32)) from fun h => by have := (i4_le (b := 0) (by omega) (by omega)).mp h; omega), i4_to8 (by omega), gd_of (i8_ne0 (by omega) h1), i8_div (by omega) (by omega), i8_to4]
  | succ n ih =>
    intro c fu g v hc hf h1 h2 h3
    obtain ⟨q, rfl, -⟩ := fuS hf
    have hcl : c < AS_nC a := by omega
    rw [f9_settled_B36, hL.1.1, if_neg (fun h => by have := (i4_le (by omega) (by omega)).mp h; omega), C_has _ (by omega), sbind, hP c hcl]
    rw [goN_succ] at h1 h2 h3 ⊢
    by_cases hb : P c = true
    · rw [show stl a d P c (g, v) = (g + AD_gas d c, v + AS_vol a c) from if_pos hb] at h1 h2 h3 ⊢
      rw [if_pos hb, if_neg one_ne, gdi _ (by omega) (by omega), ix4 (by omega), (hS.2.1.1 c hcl).1, (hL.2.1 c hcl).1, i8_add, i4_add, ad1]
      exact ih (c + 1) q _ _ (by omega) (by omega) h1 h2 h3
    · rw [show stl a d P c (g, v) = (g, v) from if_neg hb] at h1 h2 h3 ⊢
      rw [if_neg hb, if_pos rfl, ad1]
      exact ih (c + 1) q _ _ (by omega) (by omega) h1 h2 h3
theorem it_up (hW : WFs a) (m : Nat → Bool) {j : Nat} : ∀ (n : Nat) {x : Int32}, bit x j = true → bit (itN (besF a m) n x) j = true
  | 0, _, h => h
  | n + 1, _, h => it_up hW m n (bes_up hW m h)
theorem C_fewest0 (hW : WFs a) (hL : RCs a lY) {t : Nat} (ht : t < 32) {m : Nat → Bool} (hm : m = bit ((1 <<< (i4 (AS_nV a) &&& 31)) - 1)) {c : Nat} : ∀ (n j fu : Nat), j + n = 9 → n < fu →
    f9_fewestValves_B63 lY fu (i4 t) (rch a m c j) (i4 j) = some ((firN (fun i => bit (rch a m c i) t) n j)) := by
  intro n
  induction n with
  | zero =>
    intro j fu hj hf
    obtain ⟨q, rfl, -⟩ := fuS hf
    rw [f9_fewestValves_B63, if_pos (show (8 : Int32) < i4 j from (i4_lt (a := 8) (by omega) (by omega)).mpr (by omega))]
    rfl
  | succ n ih =>
    intro j fu hj hf
    obtain ⟨q, rfl, -⟩ := fuS hf
    rw [f9_fewestValves_B63, if_neg (show ¬ ((8 : Int32) < i4 j) from fun h => by have := (i4_lt (a := 8) (by omega) (by omega)).mp h; omega), C_has _ ht, sbind]
    unfold firN
    by_cases hb : bit (rch a m c j) t = true
    · rw [if_pos hb, if_neg one_ne, if_pos hb]
    · rw [if_neg hb, if_pos rfl, if_neg hb]
      unfold f1_allValves
      rw [sbind, hL.1.2.2.1, C_grown hW hL, sbind, ad1, ← hm, show grwF a m (rch a m c j) = rch a m c (j + 1) from (itN_succ _ _ _).symm]
      exact ih (j + 1) q (by omega) (by omega)
def mayO (a : AS) (d : AD) (v : Nat) : Bool := !AD_opn d v && decide (dif a d v ≤ AD_rul d v)
end VI

