/-! the views -/
def firN (p : Nat → Bool) : Nat → Nat → Int32
  | 0, _ => -1
  | n + 1, j => if p j = true then i4 j else firN p n (j + 1)
def firS (p : Nat → Bool) : Nat → Nat → Int32
  | 0, _ => -1
  | n + 1, j => if p j = true then i4 (j + 1) else firS p n (j + 1)
theorem firN_S {p q : Nat → Bool} (h : ∀ i, p (i + 1) = q i) : ∀ n j, firN p n (j + 1) = firS q n j
  | 0, _ => rfl
  | n + 1, j => by
    unfold firN firS
    rw [h j, firN_S h n (j + 1)]
theorem firN_congr {p q : Nat → Bool} (h : ∀ i, p i = q i) : ∀ n j, firN p n j = firN q n j := fun n j => by rw [show p = q from funext h]
theorem firS_last {q : Nat → Bool} : ∀ n j, (q (j + n) = true → ∃ i, j ≤ i ∧ i < j + n ∧ q i = true) → firS q (n + 1) j = firS q n j
  | 0, j, h => by
    unfold firS
    have : ¬ q j = true := fun e => by
      obtain ⟨i, h1, h2, -⟩ := h e
      omega
    rw [if_neg this]
    rfl
  | n + 1, j, h => by
    unfold firS
    by_cases hj : q j = true
    · rw [if_pos hj, if_pos hj]
    · rw [if_neg hj, if_neg hj]
      refine firS_last n (j + 1) (fun e => ?_)
      obtain ⟨i, h1, h2, h3⟩ := h (by rw [show j + (n + 1) = j + 1 + n by omega]; exact e)
      refine ⟨i, ?_, by omega, h3⟩
      by_cases hi : i = j
      · rw [hi] at h3; exact absurd h3 hj
      · omega
theorem allv_bit : ∀ n, n < 11 → ∀ j, j < 32 → bit ((1 <<< (i4 n &&& 31)) - 1) j = decide (j < n) := by decide +kernel
theorem i4_min {p q : Nat} (hp : p < 2147483648) (hq : q < 2147483648) : (if i4 p < i4 q then i4 p else i4 q) = i4 (if p < q then p else q) := by
  by_cases h : p < q
  · rw [if_pos h, if_pos ((i4_lt hp hq).mpr h)]
  · rw [if_neg h, if_neg (fun e => h ((i4_lt hp hq).mp e))]
theorem i8_min {p q : Nat} (hp : p < 2147483648) (hq : q < 2147483648) : (if i8 p < i8 q then i8 p else i8 q) = i8 (if p < q then p else q) := by
  by_cases h : p < q
  · rw [if_pos h, if_pos ((i8_lt (by omega) (by omega)).mpr h)]
  · rw [if_neg h, if_neg (fun e => h ((i8_lt (by omega) (by omega)).mp e))]
theorem i4_max {p q : Nat} (hp : p < 2147483648) (hq : q < 2147483648) : (if i4 q < i4 p then i4 p else i4 q) = i4 (if q < p then p else q) := by
  by_cases h : q < p
  · rw [if_pos h, if_pos ((i4_lt hq hp).mpr h)]
  · rw [if_neg h, if_neg (fun e => h ((i4_lt hq hp).mp e))]
theorem i8_max {p q : Nat} (hp : p < 2147483648) (hq : q < 2147483648) : (if i8 p < i8 q then i8 q else i8 p) = i8 (if q < p then p else q) := by
  by_cases h : q < p
  · rw [if_pos h, if_neg (fun e => by have := (i8_lt (by omega) (by omega)).mp e; omega)]
  · by_cases h2 : p < q
    · rw [if_neg h, if_pos ((i8_lt (by omega) (by omega)).mpr h2)]
    · rw [if_neg h, if_neg (fun e => h2 ((i8_lt (by omega) (by omega)).mp e)), show p = q by omega]
def spr (a : AS) (d : AD) (P : Nat → Bool) (c : Nat) (s : Nat × Nat) : Nat × Nat := if P c = true then (if prz a d c < s.1 then prz a d c else s.1, if s.2 < prz a d c then prz a d c else s.2) else s
def stl (a : AS) (d : AD) (P : Nat → Bool) (c : Nat) (s : Nat × Nat) : Nat × Nat := if P c = true then (s.1 + AD_gas d c, s.2 + AS_vol a c) else s
def wid (a : AS) (d : AD) (v : Nat) (o : Option Nat) : Option Nat := if AD_opn d v = true then o else match o with
  | none => some v
  | some b => if dif a d v ≤ dif a d b then some b else some v
def o4 (o : Option Nat) : Int32 := match o with
  | none => -1
  | some b => i4 b
def d4 (a : AS) (d : AD) (o : Option Nat) : Int32 := match o with
  | none => -1
  | some b => i4 (dif a d b)
def GOODb (r1 : Int32 × (Nat → Int64)) (r2 : Int32 × (Int32)) : Prop := r2.2 = r1.1 ∧ (r1.1 = 0 → r1.2 (ix 0) = (if r2.1 = 0 then (0 : Int64) else (1 : Int64)))
section VI
variable {a : AS} {d : AD} {lY : LL} {tp : TP} {st : Fin 12 → SS} {w : Nat → Int64} {mu : MU} {th : Int32} {ou : Nat → Int64}
theorem YES_b {X1 : Option (Int32 × (Nat → Int64))} {X2 : Option (Int32 × (Int32))} (b : Prop) [Decidable b] (h1 : X1 = some (0, vp_updL ou (ix 0) (if b then 1 else 0))) (h2 : X2 = some (if b then 1 else 0, 0)) : ∃ r1 r2, X1 = some r1 ∧ X2 = some r2 ∧ GOODb r1 r2 := by
  refine ⟨_, _, h1, h2, rfl, fun _ => ?_⟩
  show vp_updL ou (ix 0) (if b then 1 else 0) (ix 0) = _
  rw [updL_self]
  by_cases h : b
  · simp [h]
  · simp [h]
theorem NO_b {X1 : Option (Int32 × (Nat → Int64))} {X2 : Option (Int32 × (Int32))} (c : Int32) (hc : c ≠ 0) (h1 : X1 = some (c, ou)) (h2 : X2 = some (0, c)) : ∃ r1 r2, X1 = some r1 ∧ X2 = some r2 ∧ GOODb r1 r2 :=
  ⟨_, _, h1, h2, rfl, fun h => absurd h hc⟩
theorem S_joined (hI : INVd a d lY tp st w mu) (x : Int32) : ∃ r1 r2, fL_joined lY tp st ou x = some r1 ∧ f10_joined w th x = some r2 ∧ GOODv r1 r2 := by
  obtain ⟨⟨hW, hD, hL, hS⟩, hA, hB, -⟩ := hI
  have hN := hW.1
  rcases in_cases x (AS_nC a) with ⟨v, hv, hv2, rfl⟩ | hx
  · have hm : ∀ v, v < AS_nV a → bit (SS_openValves (st (TP_pr tp))) v = AD_opn d v := fun v hv => (hS.2.2.2.2.2.1 v hv).1
    refine YES_v (ou := ou) (rchM a (AD_opn d) v 7) ?_ ?_
    · unfold fL_joined f9_joined
      rw [C_hasC_y hW hL hv, sbind, if_neg one_ne, C_reach hW hL, sbind, R8_and (rch_R8 hW hm (by omega) 8), rchM_8 hW _ (by omega)]
      rfl
    · unfold f10_joined
      rw [M_isC_y hW hA hv, sbind, fails_y, sbind]
      dsimp only
      rw [if_pos rfl, M_joined hW hA hB (by omega), sbind]
  · refine NO_v (ou := ou) 1 (by decide) ?_ ?_
    · unfold fL_joined f9_joined
      rw [C_hasC_n hW hL hx, sbind, if_pos rfl]
      rfl
    · unfold f10_joined
      rw [M_isC_n hW hA hx, sbind, fails_n, sbind]
      dsimp only
      rw [if_neg one_ne]
theorem S_isVented (hI : INVd a d lY tp st w mu) (x : Int32) : ∃ r1 r2, fL_isVented lY tp st ou x = some r1 ∧ f10_isVented w th x = some r2 ∧ GOODb r1 r2 := by
  obtain ⟨⟨hW, hD, hL, hS⟩, hA, hB, -⟩ := hI
  have hN := hW.1
  rcases in_cases x (AS_nC a) with ⟨v, hv, hv2, rfl⟩ | hx
  · have hm : ∀ v, v < AS_nV a → bit (SS_openValves (st (TP_pr tp))) v = AD_opn d v := fun v hv => (hS.2.2.2.2.2.1 v hv).1
    refine YES_b (ou := ou) (anyF (lead a (AD_opn d) (rchM a (AD_opn d) v 7)) (AS_nV a) 0 = true) ?_ ?_
    · unfold fL_isVented f9_isVented
      rw [C_hasC_y hW hL hv, sbind, if_neg one_ne, C_reach hW hL, sbind, show f9_has (rch a (bit (SS_openValves (st (TP_pr tp)))) v 8) 8 = _ from C_has (k := 8) _ (by omega), sbind, rch_8 hW hm (by omega) 7]
      by_cases hb : anyF (lead a (AD_opn d) (rchM a (AD_opn d) v 7)) (AS_nV a) 0 = true
      · rw [if_pos hb, if_pos hb]
        rfl
      · rw [if_neg hb, if_neg hb]
        rfl
    · unfold f10_isVented
      rw [M_isC_y hW hA hv, sbind, fails_y, sbind]
      dsimp only
      rw [if_pos rfl, M_joined hW hA hB (by omega), sbind, M_leads hW hA hB _ 0 (Or.inl ⟨rfl, rfl⟩), sbind]
      by_cases hb : anyF (lead a (AD_opn d) (rchM a (AD_opn d) v 7)) (AS_nV a) 0 = true
      · rw [if_pos hb, if_neg one_ne]
      · rw [if_neg hb, if_pos rfl]
  · refine NO_b (ou := ou) 1 (by decide) ?_ ?_
    · unfold fL_isVented f9_isVented
      rw [C_hasC_n hW hL hx, sbind, if_pos rfl]
      rfl
    · unfold f10_isVented
      rw [M_isC_n hW hA hx, sbind, fails_n, sbind]
      dsimp only
      rw [if_neg one_ne]
theorem S_isIsolated (hI : INVd a d lY tp st w mu) (x : Int32) : ∃ r1 r2, fL_isIsolated lY tp st ou x = some r1 ∧ f10_isIsolated w th x = some r2 ∧ GOODb r1 r2 := by
  obtain ⟨⟨hW, hD, hL, hS⟩, hA, hB, -⟩ := hI
  have hN := hW.1
  rcases in_cases x (AS_nC a) with ⟨v, hv, hv2, rfl⟩ | hx
  · obtain ⟨r, s1, s2, s3⟩ := C_shut hW hL hS hv
    obtain ⟨r', m1, m2, m3⟩ := M_alone hW hA hB hv
    by_cases hq : aln a d v
    · rw [s2 hq] at s1
      rw [m2 hq] at m1
      refine YES_b (ou := ou) True ?_ ?_
      · unfold fL_isIsolated f9_isIsolated
        rw [C_hasC_y hW hL hv, sbind, if_neg one_ne, s1, sbind]
        rfl
      · unfold f10_isIsolated
        rw [M_isC_y hW hA hv, sbind, fails_y, sbind]
        dsimp only
        rw [if_pos rfl, m1, sbind]
        rfl
    · rw [s3 hq] at s1
      rw [m3 hq] at m1
      refine YES_b (ou := ou) False ?_ ?_
      · unfold fL_isIsolated f9_isIsolated
        rw [C_hasC_y hW hL hv, sbind, if_neg one_ne, s1, sbind]
        rfl
      · unfold f10_isIsolated
        rw [M_isC_y hW hA hv, sbind, fails_y, sbind]
        dsimp only
        rw [if_pos rfl, m1, sbind]
        rfl
  · refine NO_b (ou := ou) 1 (by decide) ?_ ?_
    · unfold fL_isIsolated f9_isIsolated
      rw [C_hasC_n hW hL hx, sbind, if_pos rfl]
      rfl
    · unfold f10_isIsolated
      rw [M_isC_n hW hA hx, sbind, fails_n, sbind]
      dsimp only
      rw [if_neg one_ne]
theorem C_spread0 (hW : WFs a) (hD : WFd a d) (hL : RCs a lY) (hS : RCd a d (st (TP_pr tp))) {P : Nat → Bool} {x : Int32} (hP : ∀ c, c < AS_nC a → bit x c = P c) : ∀ (n c fu lo hi : Nat), c + n = AS_nC a → n < fu → lo ≤ 1000250000 → hi ≤ 1000250000 →
    f9_spread_B44 lY tp st fu x (i4 lo) (i4 hi) (i4 c) = some (.inl (i4 (goN (spr a d P) n c (lo, hi)).2 - i4 (goN (spr a d P) n c (lo, hi)).1)) := by
  intro n
  have hN := hW.1
  induction n with
  | zero =>
    intro c fu lo hi hc hf h1 h2
    obtain ⟨q, rfl, -⟩ := fuS hf
    rw [f9_spread_B44, hL.1.1, if_pos ((i4_le (by omega) (by omega)).mpr (by omega))]
    rfl
  | succ n ih =>
    intro c fu lo hi hc hf h1 h2
    obtain ⟨q, rfl, -⟩ := fuS hf
    have hcl : c < AS_nC a := by omega
    have hp := prz_le hW hD (e := c) (Or.inr hcl)
    rw [f9_spread_B44, hL.1.1, if_neg (fun h => by have := (i4_le (by omega) (by omega)).mp h; omega), C_has _ (by omega), sbind, hP c hcl, goN_succ]
    by_cases hb : P c = true
    · rw [if_pos hb, if_neg one_ne, gdi _ (by omega) (by omega), ix4 (by omega), C_pr hS (Or.inr hcl), i4_min (by omega) (by omega), i4_max (by omega) (by omega), ad1, show spr a d P c (lo, hi) = (if prz a d c < lo then prz a d c else lo, if hi < prz a d c then prz a d c else hi) from if_pos hb]
      exact ih (c + 1) q _ _ (by omega) (by omega) (by split <;> omega) (by split <;> omega)
    · rw [if_neg hb, if_pos rfl, ad1, show spr a d P c (lo, hi) = (lo, hi) from if_neg hb]
      exact ih (c + 1) q _ _ (by omega) (by omega) h1 h2
theorem M_spread0 (hW : WFs a) (hD : WFd a d) (hA : RMs a w) (hB : RMd a d w) (P : Nat → Bool) {x : Int32} (hP : ∀ c, c < AS_nC a → bit x c = P c) : ∀ (n c fu lo hi : Nat), c + n = AS_nC a → n < fu → lo ≤ 1000250000 → hi ≤ 1000250000 →
    f10_spread_B41 w fu th x (i8 lo) (i8 hi) (i4 c) = some (i4 (goN (spr a d P) n c (lo, hi)).2 - i4 (goN (spr a d P) n c (lo, hi)).1, th) := by
  intro n
  have hN := hW.1
  induction n with
  | zero =>
    intro c fu lo hi hc hf h1 h2
    obtain ⟨q, rfl, -⟩ := fuS hf
    rw [f10_spread_B41, M_nC hA, sbind, if_pos ((i4_le (by omega) (by omega)).mpr (by omega)), Int64.toInt32_sub, i8_to4, i8_to4]
    rfl
  | succ n ih =>
    intro c fu lo hi hc hf h1 h2
    obtain ⟨q, rfl, -⟩ := fuS hf
    have hcl : c < AS_nC a := by omega
    have hp := prz_le hW hD (e := c) (Or.inr hcl)
    rw [f10_spread_B41, M_nC hA, sbind, if_neg (fun h => by have := (i4_le (by omega) (by omega)).mp h; omega), bit_ask _ (by omega), hP c hcl, goN_succ]
    by_cases hb : P c = true
    · rw [if_pos hb, if_neg one_ne, M_prc hW hD hA hB hcl, sbind, sbind, i8_min (by omega) (by omega), i8_max (by omega) (by omega), ad1, show spr a d P c (lo, hi) = (if prz a d c < lo then prz a d c else lo, if hi < prz a d c then prz a d c else hi) from if_pos hb]
      exact ih (c + 1) q _ _ (by omega) (by omega) (by split <;> omega) (by split <;> omega)
    · rw [if_neg hb, if_pos rfl, ad1, show spr a d P c (lo, hi) = (lo, hi) from if_neg hb]
      exact ih (c + 1) q _ _ (by omega) (by omega) h1 h2
theorem S_spread (hI : INVd a d lY tp st w mu) (x : Int32) : ∃ r1 r2, fL_spread lY tp st ou x = some r1 ∧ f10_spread w th x = some r2 ∧ GOODv r1 r2 := by
  obtain ⟨⟨hW, hD, hL, hS⟩, hA, hB, -⟩ := hI
  have hN := hW.1
  have := FU_eq
  rcases in_cases x (AS_nC a) with ⟨v, hv, hv2, rfl⟩ | hx
  · have hm : ∀ v, v < AS_nV a → bit (SS_openValves (st (TP_pr tp))) v = AD_opn d v := fun v hv => (hS.2.2.2.2.2.1 v hv).1
    have hp := prz_le hW hD (e := v) (Or.inr hv)
    have e1 := C_spread0 hW hD hL hS (P := bit (rchM a (AD_opn d) v 7)) (x := rch a (bit (SS_openValves (st (TP_pr tp)))) v 8) (fun c hc => by
      rw [← rchM_8 hW _ (by omega)]
      exact (R8_lo (rch_R8 hW hm (by omega) 8) (by omega)).symm) (AS_nC a) 0 FU (prz a d v) (prz a d v) (by omega) (by omega) hp hp
    have e2 := M_spread0 (th := 0) hW hD hA hB (bit (rchM a (AD_opn d) v 7)) (x := rchM a (AD_opn d) v 7) (fun c hc => rfl) (AS_nC a) 0 FU (prz a d v) (prz a d v) (by omega) (by omega) hp hp
    refine YES_v (ou := ou) (i4 (goN (spr a d (bit (rchM a (AD_opn d) v 7))) (AS_nC a) 0 (prz a d v, prz a d v)).2 - i4 (goN (spr a d (bit (rchM a (AD_opn d) v 7))) (AS_nC a) 0 (prz a d v, prz a d v)).1) ?_ ?_
    · unfold fL_spread f9_spread
      rw [C_hasC_y hW hL hv, sbind, if_neg one_ne, C_reach hW hL, sbind, gdi _ (by omega) (by omega), ix4 (by omega), C_pr hS (Or.inr hv), show f9_spread_B44 lY tp st FU _ _ _ 0 = _ from e1]
      rfl
    · unfold f10_spread
      rw [M_isC_y hW hA hv, sbind, fails_y, sbind]
      dsimp only
      rw [if_pos rfl, M_joined hW hA hB (by omega), sbind, M_prc hW hD hA hB hv, sbind]
      exact e2
  · refine NO_v (ou := ou) 1 (by decide) ?_ ?_
    · unfold fL_spread f9_spread
      rw [C_hasC_n hW hL hx, sbind, if_pos rfl]
      rfl
    · unfold f10_spread
      rw [M_isC_n hW hA hx, sbind, fails_n, sbind]
      dsimp only
      rw [if_neg one_ne]
theorem stl_pos (hW : WFs a) (P : Nat → Bool) : ∀ (n c : Nat) (s : Nat × Nat), c + n = AS_nC a → (0 < s.2 ∨ ∃ i, c ≤ i ∧ i < c + n ∧ P i = true) → 0 < (goN (stl a d P) n c s).2
  | 0, c, s, _, h => h.elim id (fun ⟨i, h1, h2, _⟩ => by omega)
  | n + 1, c, s, hc, h => by
    rw [goN_succ]
    have hv := hW.2.1 c (by omega)
    refine stl_pos hW P n (c + 1) _ (by omega) ?_
    unfold stl
    by_cases hb : P c = true
    · rw [if_pos hb]
      exact Or.inl (by show 0 < s.2 + AS_vol a c; omega)
    · rw [if_neg hb]
      rcases h with h | ⟨i, h1, h2, h3⟩
      · exact Or.inl h
      · refine Or.inr ⟨i, ?_, by omega, h3⟩
        by_cases hi : i = c
        · rw [hi] at h3; exact absurd h3 hb
        · omega
theorem stl_le (hW : WFs a) (hD : WFd a d) (P : Nat → Bool) : ∀ (n c : Nat) (s : Nat × Nat), c + n = AS_nC a → (goN (stl a d P) n c s).2 ≤ s.2 + 999 * n ∧ (goN (stl a d P) n c s).1 ≤ s.1 + 999249750999 * n
  | 0, c, s, _ => ⟨Nat.le_refl _, Nat.le_refl _⟩
  | n + 1, c, s, hc => by
    rw [goN_succ]
    have hv := hW.2.1 c (by omega)
    have hg := gas_lt hW hD (c := c) (by omega)
    obtain ⟨h1, h2⟩ := stl_le hW hD P n (c + 1) (stl a d P c s) (by omega)
    have h3 : (stl a d P c s).2 ≤ s.2 + 999 ∧ (stl a d P c s).1 ≤ s.1 + 999249750999 := by
      unfold stl
      split
      · exact ⟨by show s.2 + AS_vol a c ≤ _; omega, by show s.1 + AD_gas d c ≤ _; omega⟩
      · omega
    omega
theorem C_settled0 (hW : WFs a) (hD : WFd a d) (hL : RCs a lY) (hS : RCd a d (st (TP_pr tp))) {P : Nat → Bool} {x : Int32} (hP : ∀ c, c < AS_nC a → bit x c = P c) : ∀ (n c fu g v : Nat), c + n = AS_nC a → n < fu → 0 < (goN (stl a d P) n c (g, v)).2 → (goN (stl a d P) n c (g, v)).2 < 10000 → (goN (stl a d P) n c (g, v)).1 < 100000000000000 →
    f9_settled_B36 lY tp st fu x (i8 g) (i4 v) (i4 c) = some (.inl (i4 ((goN (stl a d P) n c (g, v)).1 / (goN (stl a d P) n c (g, v)).2))) := by
  intro n
  have hN := hW.1
  induction n with
  | zero =>
    intro c fu g v hc hf h1 h2 h3
    obtain ⟨q, rfl, -⟩ := fuS hf
    rw [goN_zero] at h1 h2 h3 ⊢
    rw [f9_settled_B36, hL.1.1, if_pos ((i4_le (by omega) (by omega)).mpr (by omega)), if_neg (show ¬ (i4 v ≤ (0 : Int32)) from fun h => by have := (i4_le (b := 0) (by omega) (by omega)).mp h; omega), i4_to8 (by omega), gd_of (i8_ne0 (by omega) h1), i8_div (by omega) (by omega), i8_to4]
  | succ n ih =>
    intro c fu g v hc hf h1 h2 h3
    obtain ⟨q, rfl, -⟩ := fuS hf
    have hcl : c < AS_nC a := by omega
    rw [f9_settled_B36, hL.1.1, if_neg (fun h => by have := (i4_le (by omega) (by omega)).mp h; omega), C_has _ (by omega), sbind, hP c hcl]
    rw [goN_succ] at h1 h2 h3 ⊢
    by_cases hb : P c = true
    · rw [show stl a d P c (g, v) = (g + AD_gas d c, v + AS_vol a c) from if_pos hb] at h1 h2 h3 ⊢
      rw [if_pos hb, if_neg one_ne, gdi _ (by omega) (by omega), ix4 (by omega), (hS.2.1.1 c hcl).1, (hL.2.1 c hcl).1, i8_add, i4_add, ad1]
      exact ih (c + 1) q _ _ (by omega) (by omega) h1 h2 h3
    · rw [show stl a d P c (g, v) = (g, v) from if_neg hb] at h1 h2 h3 ⊢
      rw [if_neg hb, if_pos rfl, ad1]
      exact ih (c + 1) q _ _ (by omega) (by omega) h1 h2 h3
theorem M_settled0 (hW : WFs a) (hD : WFd a d) (hA : RMs a w) (hB : RMd a d w) (P : Nat → Bool) {x : Int32} (hP : ∀ c, c < AS_nC a → bit x c = P c) : ∀ (n c fu g v : Nat), c + n = AS_nC a → n < fu → 0 < (goN (stl a d P) n c (g, v)).2 → (goN (stl a d P) n c (g, v)).2 < 10000 → (goN (stl a d P) n c (g, v)).1 < 100000000000000 →
    f10_settled_B37 w fu th x (i8 g) (i8 v) (i4 c) = some (i4 ((goN (stl a d P) n c (g, v)).1 / (goN (stl a d P) n c (g, v)).2), th) := by
  intro n
  have hN := hW.1
  induction n with
  | zero =>
    intro c fu g v hc hf h1 h2 h3
    obtain ⟨q, rfl, -⟩ := fuS hf
    rw [goN_zero] at h1 h2 h3 ⊢
    rw [f10_settled_B37, M_nC hA, sbind, if_pos ((i4_le (by omega) (by omega)).mpr (by omega)), gd_of (i8_ne0 (by omega) h1), i8_div (by omega) (by omega), i8_to4]
  | succ n ih =>
    intro c fu g v hc hf h1 h2 h3
    obtain ⟨q, rfl, -⟩ := fuS hf
    have hcl : c < AS_nC a := by omega
    rw [f10_settled_B37, M_nC hA, sbind, if_neg (fun h => by have := (i4_le (by omega) (by omega)).mp h; omega), bit_ask _ (by omega), hP c hcl]
    rw [goN_succ] at h1 h2 h3 ⊢
    unfold f10_settled_B74
    rw [bit_ask _ (by omega), hP c hcl]
    by_cases hb : P c = true
    · rw [show stl a d P c (g, v) = (g + AD_gas d c, v + AS_vol a c) from if_pos hb] at h1 h2 h3 ⊢
      rw [if_pos hb, if_pos rfl, at_c, sbind, ad3, gdi _ (by omega) (by omega), ix4 (by omega), (hB.2.1 c hcl).2, if_pos rfl, M_volume hW hA hcl, sbind, i8_add, i8_add, ad1]
      exact ih (c + 1) q _ _ (by omega) (by omega) h1 h2 h3
    · rw [show stl a d P c (g, v) = (g, v) from if_neg hb] at h1 h2 h3 ⊢
      rw [if_neg hb, if_neg (by decide), if_neg (by decide), Int64.add_zero, Int64.add_zero, ad1]
      exact ih (c + 1) q _ _ (by omega) (by omega) h1 h2 h3
theorem it_up (hW : WFs a) (m : Nat → Bool) {j : Nat} : ∀ (n : Nat) {x : Int32}, bit x j = true → bit (itN (besF a m) n x) j = true
  | 0, _, h => h
  | n + 1, _, h => it_up hW m n (bes_up hW m h)
theorem S_settled (hI : INVd a d lY tp st w mu) (x : Int32) : ∃ r1 r2, fL_settled lY tp st ou x = some r1 ∧ f10_settled w th x = some r2 ∧ GOODv r1 r2 := by
  obtain ⟨⟨hW, hD, hL, hS⟩, hA, hB, -⟩ := hI
  have hN := hW.1
  have := FU_eq
  rcases in_cases x (AS_nC a) with ⟨v, hv, hv2, rfl⟩ | hx
  · have hm : ∀ v, v < AS_nV a → bit (SS_openValves (st (TP_pr tp))) v = AD_opn d v := fun v hv => (hS.2.2.2.2.2.1 v hv).1
    have hself : bit (rchM a (AD_opn d) v 7) v = true := it_up hW _ 7 (by rw [bit_one_shl (by omega)]; exact decide_eq_true rfl)
    have p1 := stl_pos (d := d) hW (bit (rchM a (AD_opn d) v 7)) (AS_nC a) 0 (0, 0) (by omega) (Or.inr ⟨v, by omega, by omega, hself⟩)
    obtain ⟨p2, p3⟩ := stl_le hW hD (bit (rchM a (AD_opn d) v 7)) (AS_nC a) 0 (0, 0) (by omega)
    have e1 := C_settled0 hW hD hL hS (P := bit (rchM a (AD_opn d) v 7)) (x := rch a (bit (SS_openValves (st (TP_pr tp)))) v 8) (fun c hc => by
      rw [← rchM_8 hW _ (by omega)]
      exact (R8_lo (rch_R8 hW hm (by omega) 8) (by omega)).symm) (AS_nC a) 0 FU 0 0 (by omega) (by omega) p1 (by omega) (by omega)
    have e2 := M_settled0 (th := 0) hW hD hA hB (bit (rchM a (AD_opn d) v 7)) (x := rchM a (AD_opn d) v 7) (fun c hc => rfl) (AS_nC a) 0 FU 0 0 (by omega) (by omega) p1 (by omega) (by omega)
    refine YES_v (ou := ou) (i4 ((goN (stl a d (bit (rchM a (AD_opn d) v 7))) (AS_nC a) 0 (0, 0)).1 / (goN (stl a d (bit (rchM a (AD_opn d) v 7))) (AS_nC a) 0 (0, 0)).2)) ?_ ?_
    · unfold fL_settled f9_settled
      rw [C_hasC_y hW hL hv, sbind, if_neg one_ne, C_reach hW hL, sbind, show f9_settled_B36 lY tp st FU _ 0 0 0 = _ from e1]
      rfl
    · unfold f10_settled
      rw [M_isC_y hW hA hv, sbind, fails_y, sbind]
      dsimp only
      rw [if_pos rfl, M_joined hW hA hB (by omega), sbind]
      exact e2
  · refine NO_v (ou := ou) 1 (by decide) ?_ ?_
    · unfold fL_settled f9_settled
      rw [C_hasC_n hW hL hx, sbind, if_pos rfl]
      rfl
    · unfold f10_settled
      rw [M_isC_n hW hA hx, sbind, fails_n, sbind]
      dsimp only
      rw [if_neg one_ne]
theorem C_fewest0 (hW : WFs a) (hL : RCs a lY) {t : Nat} (ht : t < 32) {m : Nat → Bool} (hm : m = bit ((1 <<< (i4 (AS_nV a) &&& 31)) - 1)) {c : Nat} : ∀ (n j fu : Nat), j + n = 9 → n < fu →
    f9_fewestValves_B63 lY fu (i4 t) (rch a m c j) (i4 j) = some (.inl (firN (fun i => bit (rch a m c i) t) n j)) := by
  intro n
  induction n with
  | zero =>
    intro j fu hj hf
    obtain ⟨q, rfl, -⟩ := fuS hf
    rw [f9_fewestValves_B63, if_pos (show (8 : Int32) < i4 j from (i4_lt (a := 8) (by omega) (by omega)).mpr (by omega))]
    rfl
  | succ n ih =>
    intro j fu hj hf
    obtain ⟨q, rfl, -⟩ := fuS hf
    rw [f9_fewestValves_B63, if_neg (show ¬ ((8 : Int32) < i4 j) from fun h => by have := (i4_lt (a := 8) (by omega) (by omega)).mp h; omega), C_has _ ht, sbind]
    unfold firN
    by_cases hb : bit (rch a m c j) t = true
    · rw [if_pos hb, if_neg one_ne, if_pos hb]
    · rw [if_neg hb, if_pos rfl, if_neg hb]
      unfold f1_allValves
      rw [sbind, hL.1.2.2.1, C_grown hW hL, sbind, ad1, ← hm, show grwF a m (rch a m c j) = rch a m c (j + 1) from (itN_succ _ _ _).symm]
      exact ih (j + 1) q (by omega) (by omega)
theorem M_fewest0 (hW : WFs a) (hA : RMs a w) (hB : RMd a d w) {c t : Nat} (ht : t < 8) : ∀ (n j fu : Nat), j + n = 9 → n < fu →
    f10_fewestValves_B56 w fu th (i4 t) (rchM a (fun _ => true) c j) (i4 j) = some (firN (fun i => bit (rchM a (fun _ => true) c i) t) n j, th) := by
  intro n
  induction n with
  | zero =>
    intro j fu hj hf
    obtain ⟨q, rfl, -⟩ := fuS hf
    rw [f10_fewestValves_B56, if_pos (show (8 : Int32) < i4 j from (i4_lt (a := 8) (by omega) (by omega)).mpr (by omega))]
    rfl
  | succ n ih =>
    intro j fu hj hf
    obtain ⟨q, rfl, -⟩ := fuS hf
    have hne : ¬ (i4 t = -1) := by rw [i4_ne_m1 (by omega)]; exact id
    rw [f10_fewestValves_B56, if_neg (show ¬ ((8 : Int32) < i4 j) from fun h => by have := (i4_lt (a := 8) (by omega) (by omega)).mp h; omega), if_neg hne, bit_ask _ (by omega)]
    unfold firN
    by_cases hb : bit (rchM a (fun _ => true) c j) t = true
    · rw [if_pos hb, if_pos rfl, if_pos hb]
    · rw [if_neg hb, if_neg (by decide), if_neg hb]
      unfold f10_fewestValves_B80
      rw [if_neg hne, M_beside hW hA hB _ 1 (Or.inr ⟨one_ne, rfl⟩), sbind, ad1, show besF a (fun _ => true) (rchM a (fun _ => true) c j) = rchM a (fun _ => true) c (j + 1) from (itN_succ _ _ _).symm]
      exact ih (j + 1) q (by omega) (by omega)
theorem M_fewest1 (hW : WFs a) (hA : RMs a w) (hB : RMd a d w) {c : Nat} : ∀ (n j fu : Nat), j + n = 9 → n < fu →
    f10_fewestValves_B56 w fu th (-1) (rchM a (fun _ => true) c j) (i4 j) = some (firS (fun i => anyF (lead a (fun _ => true) (rchM a (fun _ => true) c i)) (AS_nV a) 0) n j, th) := by
  intro n
  induction n with
  | zero =>
    intro j fu hj hf
    obtain ⟨q, rfl, -⟩ := fuS hf
    rw [f10_fewestValves_B56, if_pos (show (8 : Int32) < i4 j from (i4_lt (a := 8) (by omega) (by omega)).mpr (by omega))]
    rfl
  | succ n ih =>
    intro j fu hj hf
    obtain ⟨q, rfl, -⟩ := fuS hf
    rw [f10_fewestValves_B56, if_neg (show ¬ ((8 : Int32) < i4 j) from fun h => by have := (i4_lt (a := 8) (by omega) (by omega)).mp h; omega), if_pos rfl]
    unfold firS f10_fewestValves_B80
    rw [if_pos rfl, M_leads hW hA hB _ 1 (Or.inr ⟨one_ne, rfl⟩), sbind]
    by_cases hb : anyF (lead a (fun _ => true) (rchM a (fun _ => true) c j)) (AS_nV a) 0 = true
    · rw [if_pos hb, if_neg one_ne, if_pos hb, ad1]
    · rw [if_neg hb, if_pos rfl, if_neg hb, M_beside hW hA hB _ 1 (Or.inr ⟨one_ne, rfl⟩), sbind, ad1, show besF a (fun _ => true) (rchM a (fun _ => true) c j) = rchM a (fun _ => true) c (j + 1) from (itN_succ _ _ _).symm]
      exact ih (j + 1) q (by omega) (by omega)
theorem S_fewestValves (hI : INVd a d lY tp st w mu) (x y : Int32) : ∃ r1 r2, fL_fewestValves lY ou x y = some r1 ∧ f10_fewestValves w th x y = some r2 ∧ GOODv r1 r2 := by
  obtain ⟨⟨hW, hD, hL, hS⟩, hA, hB, -⟩ := hI
  have hN := hW.1
  have := FU_eq
  rcases in_cases x (AS_nC a) with ⟨v, hv, hv2, rfl⟩ | hx
  · have hm : ∀ v, v < AS_nV a → bit ((1 <<< (i4 (AS_nV a) &&& 31)) - 1) v = true := fun v hv => by
      rw [allv_bit _ (by omega) _ (by omega)]
      exact decide_eq_true hv
    by_cases hy1 : y = -1
    · subst hy1
      have e1 := C_fewest0 hW hL (t := 8) (by omega) (c := v) rfl 9 0 FU (by omega) (by omega)
      have e2 := M_fewest1 (th := 0) hW hA hB (c := v) 9 0 FU (by omega) (by omega)
      have r8 := rch_8 hW hm (c := v) (by omega)
      have hq : firN (fun i => bit (rch a (bit ((1 <<< (i4 (AS_nV a) &&& 31)) - 1)) v i) 8) 9 0 = firS (fun i => anyF (lead a (fun _ => true) (rchM a (fun _ => true) v i)) (AS_nV a) 0) 9 0 := by
        rw [firS_last 8 0 (fun e => ⟨7, by omega, by omega, by
          rw [show 0 + 8 = 8 from rfl, rchM_8 hW _ (by omega)] at e
          exact e⟩)]
        show (if bit (1 <<< (i4 v &&& 31)) 8 = true then i4 0 else firN (fun i => bit (rch a (bit ((1 <<< (i4 (AS_nV a) &&& 31)) - 1)) v i) 8) 8 1) = _
        rw [sing_in (by omega) 8 (by omega), if_neg (by decide)]
        exact firN_S (fun i => r8 i) 8 0
      refine YES_v (ou := ou) (firS (fun i => anyF (lead a (fun _ => true) (rchM a (fun _ => true) v i)) (AS_nV a) 0) 9 0) ?_ ?_
      · unfold fL_fewestValves f9_fewestValves f9_fewestValves_B43
        rw [C_hasC_y hW hL hv, sbind, if_neg one_ne, if_pos rfl, if_pos rfl, show f9_fewestValves_B63 lY FU 8 (1 <<< (i4 v &&& 31)) 0 = _ from e1, hq]
        rfl
      · unfold f10_fewestValves f10_fewestValves_B40
        rw [M_isC_y hW hA hv, sbind, fails_y, sbind]
        dsimp only
        rw [if_pos rfl, if_pos rfl, show f10_fails 0 0 2 = some (0, 0) from rfl, sbind]
        dsimp only
        rw [if_pos rfl]
        exact e2
    · rcases in_cases y (AS_nC a) with ⟨t, ht, ht2, rfl⟩ | hy
      · have e1 := C_fewest0 hW hL (t := t) (by omega) (c := v) rfl 9 0 FU (by omega) (by omega)
        have e2 := M_fewest0 (th := 0) hW hA hB (c := v) (t := t) (by omega) 9 0 FU (by omega) (by omega)
        have hq : firN (fun i => bit (rch a (bit ((1 <<< (i4 (AS_nV a) &&& 31)) - 1)) v i) t) 9 0 = firN (fun i => bit (rchM a (fun _ => true) v i) t) 9 0 := firN_congr (fun i => (R8_lo (rch_R8 hW hm (by omega) i) (by omega)).symm) 9 0
        refine YES_v (ou := ou) (firN (fun i => bit (rchM a (fun _ => true) v i) t) 9 0) ?_ ?_
        · unfold fL_fewestValves f9_fewestValves f9_fewestValves_B43
          rw [C_hasC_y hW hL hv, sbind, if_neg one_ne, if_neg hy1, C_hasC_y hW hL ht, sbind, if_neg one_ne, if_neg hy1, show f9_fewestValves_B63 lY FU (i4 t) (1 <<< (i4 v &&& 31)) 0 = _ from e1, hq]
          rfl
        · unfold f10_fewestValves f10_fewestValves_B40
          rw [M_isC_y hW hA hv, sbind, fails_y, sbind]
          dsimp only
          rw [if_pos rfl, if_neg hy1, M_isC_y hW hA ht, sbind, if_neg one_ne, show f10_fails 0 0 2 = some (0, 0) from rfl, sbind]
          dsimp only
          rw [if_pos rfl]
          exact e2
      · refine NO_v (ou := ou) 2 (by decide) ?_ ?_
        · unfold fL_fewestValves f9_fewestValves
          rw [C_hasC_y hW hL hv, sbind, if_neg one_ne, if_neg hy1, C_hasC_n hW hL hy, sbind, if_pos rfl]
          rfl
        · unfold f10_fewestValves f10_fewestValves_B40
          rw [M_isC_y hW hA hv, sbind, fails_y, sbind]
          dsimp only
          rw [if_pos rfl, if_neg hy1, M_isC_n hW hA hy, sbind, if_pos rfl, show f10_fails 0 1 2 = some (1, 2) from rfl, sbind]
          dsimp only
          rw [if_neg one_ne]
  · refine NO_v (ou := ou) 1 (by decide) ?_ ?_
    · unfold fL_fewestValves f9_fewestValves
      rw [C_hasC_n hW hL hx, sbind, if_pos rfl]
      rfl
    · unfold f10_fewestValves
      rw [M_isC_n hW hA hx, sbind, fails_n, sbind]
      dsimp only
      rw [if_neg one_ne]
def mayO (a : AS) (d : AD) (v : Nat) : Bool := !AD_opn d v && decide (dif a d v ≤ AD_rul d v)
theorem S_openable (hI : INVd a d lY tp st w mu) : ∃ r1 r2, f9_openable lY tp st = some r1 ∧ f10_openable w th = some r2 ∧ r1 = r2.1 ∧ r2.2 = 0 := by
  obtain ⟨⟨hW, hD, hL, hS⟩, hA, hB, -⟩ := hI
  have hN := hW.1
  have := FU_eq
  have kC : ∀ (n v fu : Nat), v + n = AS_nV a → n < fu → f9_openable_B4 lY tp st fu (mskN (mayO a d) v) (i4 v) = some (mskN (mayO a d) (AS_nV a)) := by
    intro n
    induction n with
    | zero =>
      intro v fu hv hf
      obtain ⟨q, rfl, -⟩ := fuS hf
      rw [f9_openable_B4, hL.1.2.2.1, if_pos ((i4_le (by omega) (by omega)).mpr (by omega)), show v = AS_nV a by omega]
    | succ n ih =>
      intro v fu hv hf
      obtain ⟨q, rfl, -⟩ := fuS hf
      rw [f9_openable_B4, hL.1.2.2.1, if_neg (fun h => by have := (i4_le (by omega) (by omega)).mp h; omega), C_openBar hW hD hL hS (by omega), sbind, ad1]
      by_cases hO : AD_opn d v = true
      · rw [if_pos hO, if_neg one_ne, mskN_n (show ¬ mayO a d v = true from fun h => by unfold mayO at h; rw [hO] at h; simp at h)]
        exact ih (v + 1) q (by omega) (by omega)
      · rw [if_neg hO]
        have hO' : AD_opn d v = false := by simpa using hO
        by_cases hR : dif a d v ≤ AD_rul d v
        · rw [if_pos hR, if_pos rfl, mskN_y (show mayO a d v = true by unfold mayO; rw [hO', decide_eq_true hR]; rfl)]
          exact ih (v + 1) q (by omega) (by omega)
        · rw [if_neg hR, if_neg (by decide), mskN_n (show ¬ mayO a d v = true from fun h => by unfold mayO at h; rw [decide_eq_false hR] at h; simp at h)]
          exact ih (v + 1) q (by omega) (by omega)
  have kM : ∀ (n v fu : Nat), v + n = AS_nV a → n < fu → f10_openable_B9 w fu 0 (mskN (mayO a d) v) (i4 v) = some (mskN (mayO a d) (AS_nV a), 0) := by
    intro n
    induction n with
    | zero =>
      intro v fu hv hf
      obtain ⟨q, rfl, -⟩ := fuS hf
      rw [f10_openable_B9, M_nV hA, sbind, if_pos ((i4_le (by omega) (by omega)).mpr (by omega)), show v = AS_nV a by omega]
    | succ n ih =>
      intro v fu hv hf
      obtain ⟨q, rfl, -⟩ := fuS hf
      rw [f10_openable_B9, M_nV hA, sbind, if_neg (fun h => by have := (i4_le (by omega) (by omega)).mp h; omega), M_canOpen hW hD hA hB (by omega), sbind, ad1]
      by_cases hO : AD_opn d v = true
      · rw [if_pos hO, if_pos rfl, Int32.or_zero, mskN_n (show ¬ mayO a d v = true from fun h => by unfold mayO at h; rw [hO] at h; simp at h)]
        exact ih (v + 1) q (by omega) (by omega)
      · rw [if_neg hO]
        have hO' : AD_opn d v = false := by simpa using hO
        by_cases hR : dif a d v ≤ AD_rul d v
        · rw [if_pos hR, if_neg one_ne, mskN_y (show mayO a d v = true by unfold mayO; rw [hO', decide_eq_true hR]; rfl)]
          exact ih (v + 1) q (by omega) (by omega)
        · rw [if_neg hR, if_pos rfl, Int32.or_zero, mskN_n (show ¬ mayO a d v = true from fun h => by unfold mayO at h; rw [decide_eq_false hR] at h; simp at h)]
          exact ih (v + 1) q (by omega) (by omega)
  exact ⟨_, _, kC (AS_nV a) 0 FU (by omega) (by omega), kM (AS_nV a) 0 FU (by omega) (by omega), rfl, rfl⟩
theorem C_widest0 (hW : WFs a) (hD : WFd a d) (hL : RCs a lY) (hS : RCd a d (st (TP_pr tp))) : ∀ (n v fu : Nat) (o : Option Nat), v + n = AS_nV a → n < fu → (∀ b, o = some b → b < AS_nV a) →
    f9_widest_B6 lY tp st fu (o4 o) (d4 a d o) (i4 v) = match goN (wid a d) n v o with | none => some (.inr 3) | some b => some (.inl (i4 b)) := by
  intro n
  have hN := hW.1
  induction n with
  | zero =>
    intro v fu o hv hf ho
    obtain ⟨q, rfl, -⟩ := fuS hf
    rw [f9_widest_B6, hL.1.2.2.1, if_pos ((i4_le (by omega) (by omega)).mpr (by omega)), goN_zero]
    cases o with
    | none => rw [if_pos (show o4 none = -1 from rfl)]
    | some b =>
      have := ho b rfl
      rw [if_neg (show ¬ (o4 (some b) = -1) from by show ¬ (i4 b = -1); rw [i4_ne_m1 (by omega)]; exact id)]
      rfl
  | succ n ih =>
    intro v fu o hv hf ho
    obtain ⟨q, rfl, -⟩ := fuS hf
    have hvl : v < AS_nV a := by omega
    have hd := dif_le hW hD hvl
    rw [f9_widest_B6, hL.1.2.2.1, if_neg (fun h => by have := (i4_le (by omega) (by omega)).mp h; omega), C_isOpen hW hS hvl, sbind, goN_succ, ad1]
    by_cases hO : AD_opn d v = true
    · rw [if_pos hO, if_neg one_ne, show wid a d v o = o from if_pos hO]
      exact ih (v + 1) q o (by omega) (by omega) ho
    · rw [if_neg hO, if_pos rfl, C_dif hW hD hL hS hvl, sbind, sbind]
      cases o with
      | none =>
        rw [show wid a d v none = some v from if_neg hO, if_neg (show ¬ (i4 (dif a d v) ≤ d4 a d none) from fun h => by
          have h2 : i4 (dif a d v) ≤ -1 := h
          rw [Int32.le_iff_toInt_le, i4_toInt (by omega), show (-1 : Int32).toInt = -1 by decide] at h2
          omega)]
        exact ih (v + 1) q (some v) (by omega) (by omega) (fun b hb => by cases hb; exact hvl)
      | some b =>
        have hb := ho b rfl
        have hdb := dif_le hW hD hb
        rw [show wid a d v (some b) = if dif a d v ≤ dif a d b then some b else some v from if_neg hO]
        by_cases hR : dif a d v ≤ dif a d b
        · rw [if_pos (show i4 (dif a d v) ≤ d4 a d (some b) from (i4_le (by omega) (by omega)).mpr hR), if_pos hR]
          exact ih (v + 1) q (some b) (by omega) (by omega) ho
        · rw [if_neg (show ¬ (i4 (dif a d v) ≤ d4 a d (some b)) from fun h => hR ((i4_le (by omega) (by omega)).mp h)), if_neg hR]
          exact ih (v + 1) q (some v) (by omega) (by omega) (fun b hb => by cases hb; exact hvl)
theorem M_widest0 (hW : WFs a) (hD : WFd a d) (hA : RMs a w) (hB : RMd a d w) : ∀ (n v fu : Nat) (o : Option Nat), v + n = AS_nV a → n < fu → (∀ b, o = some b → b < AS_nV a) →
    f10_widest_B4 w fu th (o4 o) (i4 v) = match goN (wid a d) n v o with | none => some (0, 1) | some b => some (i4 b, 0) := by
  intro n
  have hN := hW.1
  induction n with
  | zero =>
    intro v fu o hv hf ho
    obtain ⟨q, rfl, -⟩ := fuS hf
    rw [f10_widest_B4, M_nV hA, sbind, if_pos ((i4_le (by omega) (by omega)).mpr (by omega)), goN_zero]
    cases o with
    | none => rw [if_pos (show o4 none = -1 from rfl)]; rfl
    | some b =>
      have := ho b rfl
      rw [if_neg (show ¬ (o4 (some b) = -1) from by show ¬ (i4 b = -1); rw [i4_ne_m1 (by omega)]; exact id)]
      rfl
  | succ n ih =>
    intro v fu o hv hf ho
    obtain ⟨q, rfl, -⟩ := fuS hf
    have hvl : v < AS_nV a := by omega
    have hd := dif_le hW hD hvl
    rw [f10_widest_B4, M_nV hA, sbind, if_neg (fun h => by have := (i4_le (by omega) (by omega)).mp h; omega), M_isOpen hW hB hvl, sbind, goN_succ, ad1]
    by_cases hO : AD_opn d v = true
    · rw [if_pos hO, if_neg one_ne, show wid a d v o = o from if_pos hO]
      exact ih (v + 1) q o (by omega) (by omega) ho
    · rw [if_neg hO, if_pos rfl]
      cases o with
      | none =>
        rw [show wid a d v none = some v from if_neg hO, if_pos (show o4 none = -1 from rfl)]
        exact ih (v + 1) q (some v) (by omega) (by omega) (fun b hb => by cases hb; exact hvl)
      | some b =>
        have hb := ho b rfl
        have hdb := dif_le hW hD hb
        rw [show wid a d v (some b) = if dif a d v ≤ dif a d b then some b else some v from if_neg hO, if_neg (show ¬ (o4 (some b) = -1) from by show ¬ (i4 b = -1); rw [i4_ne_m1 (by omega)]; exact id), M_dif hW hD hA hB hvl, sbind, show f10_difference w (o4 (some b)) = _ from M_dif hW hD hA hB hb, sbind]
        by_cases hR : dif a d v ≤ dif a d b
        · rw [if_pos ((i8_le (by omega) (by omega)).mpr hR), if_pos hR]
          exact ih (v + 1) q (some b) (by omega) (by omega) ho
        · rw [if_neg (fun h => hR ((i8_le (by omega) (by omega)).mp h)), if_neg hR]
          exact ih (v + 1) q (some v) (by omega) (by omega) (fun b hb => by cases hb; exact hvl)
theorem S_widest (hI : INVd a d lY tp st w mu) : ∃ r1 r2, fL_widest lY tp st ou = some r1 ∧ f10_widest w th = some r2 ∧ GOODv r1 r2 := by
  obtain ⟨⟨hW, hD, hL, hS⟩, hA, hB, -⟩ := hI
  have hN := hW.1
  have := FU_eq
  have e1 := C_widest0 hW hD hL hS (AS_nV a) 0 FU none (by omega) (by omega) (fun b hb => by cases hb)
  have e2 := M_widest0 (th := th) hW hD hA hB (AS_nV a) 0 FU none (by omega) (by omega) (fun b hb => by cases hb)
  cases hr : goN (wid a d) (AS_nV a) 0 none with
  | none =>
    rw [hr] at e1 e2
    refine NO_v (ou := ou) 1 (by decide) ?_ e2
    unfold fL_widest f9_widest
    rw [show f9_widest_B6 lY tp st FU (-1) (-1) 0 = _ from e1]
    rfl
  | some b =>
    rw [hr] at e1 e2
    refine YES_v (ou := ou) (i4 b) ?_ e2
    unfold fL_widest f9_widest
    rw [show f9_widest_B6 lY tp st FU (-1) (-1) 0 = _ from e1]
    rfl
end VI
