/-! the report -/
abbrev PG : Type := (Nat → Int32) × Nat
def wr (x : Int32) (s : PG) : PG := (setN s.1 s.2 (vp_nar .byte x.toInt8.toInt32), s.2 + 1)
def wn : Nat → Nat → PG → PG
  | 0, _, s => s
  | f + 1, n, s => wr (i4 (48 + n % 10)) (if n ≤ 9 then s else wn f (n / 10) s)
def dn : Nat → Nat → PG → PG
  | 0, n, s => wr (i4 (48 + n % 10)) s
  | m + 1, n, s => dn m n (wr (i4 (48 + n / 10 ^ (m + 1) % 10)) s)
def RPr (rp : RP) (s : PG) : Prop := RP_length rp = i4 s.2 ∧ ∀ i, i < s.2 → RP_bytes rp i = s.1 i
theorem wr_len (x : Int32) (s : PG) : (wr x s).2 = s.2 + 1 := rfl
theorem wn_len : ∀ (f m n : Nat) (s : PG), n < 10 ^ (m + 1) → (wn f n s).2 ≤ s.2 + (m + 1)
  | 0, m, n, s, _ => by show s.2 ≤ _; omega
  | f + 1, m, n, s, h => by
    show (if n ≤ 9 then s else wn f (n / 10) s).2 + 1 ≤ _
    by_cases h9 : n ≤ 9
    · rw [if_pos h9]; omega
    · rw [if_neg h9]
      cases m with
      | zero => rw [Nat.zero_add, Nat.pow_one] at h; omega
      | succ m =>
        have := wn_len f m (n / 10) s (by rw [Nat.pow_succ] at h; omega)
        omega
theorem dn_last : ∀ (m n : Nat) (s : PG), dn (m + 1) n s = wr (i4 (48 + n % 10)) (dn m (n / 10) s)
  | 0, n, s => by
    show wr (i4 (48 + n % 10)) (wr (i4 (48 + n / 10 ^ (0 + 1) % 10)) s) = wr (i4 (48 + n % 10)) (wr (i4 (48 + n / 10 % 10)) s)
    rw [Nat.zero_add, Nat.pow_one]
  | m + 1, n, s => by
    show dn (m + 1) n (wr (i4 (48 + n / 10 ^ (m + 1 + 1) % 10)) s) = wr (i4 (48 + n % 10)) (dn m (n / 10) (wr (i4 (48 + n / 10 / 10 ^ (m + 1) % 10)) s))
    rw [dn_last m n, Nat.div_div_eq_div_mul, Nat.pow_succ 10 (m + 1), Nat.mul_comm 10]
theorem dn_wn : ∀ (m f n : Nat) (s : PG), m < f → n < 10 ^ (m + 1) → (m = 0 ∨ 10 ^ m ≤ n) → dn m n s = wn f n s
  | 0, 0, _, _, h, _, _ => by omega
  | m + 1, 0, _, _, h, _, _ => by omega
  | 0, f + 1, n, s, _, hn, _ => by
    rw [Nat.zero_add, Nat.pow_one] at hn
    show _ = wr (i4 (48 + n % 10)) (if n ≤ 9 then s else wn f (n / 10) s)
    rw [if_pos (by omega)]
    rfl
  | m + 1, f + 1, n, s, h, hn, hm => by
    rw [Nat.pow_succ 10 (m + 1)] at hn
    have h1 : 10 ^ (m + 1) ≤ n := hm.elim (fun q => by omega) id
    have h10 : 10 ≤ 10 ^ (m + 1) := by
      have := Nat.pow_le_pow_right (n := 10) (by omega) (show 1 ≤ m + 1 by omega)
      rw [Nat.pow_one] at this
      exact this
    rw [dn_last]
    show _ = wr (i4 (48 + n % 10)) (if n ≤ 9 then s else wn f (n / 10) s)
    rw [if_neg (by omega), dn_wn m f (n / 10) s (by omega) (by omega) (Or.inr (by rw [Nat.pow_succ] at h1; omega))]
theorem C_byte {rp : RP} {s : PG} (x : Int32) (h : RPr rp s) (hl : s.2 < 246) : ∃ rp', f4_addByte rp x = some rp' ∧ RPr rp' (wr x s) := by
  refine ⟨RP_set_length (RP_set_bytes rp (upd (RP_bytes rp) s.2 (vp_nar .byte x.toInt8.toInt32))) (i4 (s.2 + 1)), ?_, rfl, fun i hi => ?_⟩
  · unfold f4_addByte
    rw [h.1, if_neg (show ¬ ((246 : Int32) ≤ i4 s.2) from fun q => by have := (i4_le (a := 246) (by omega) (by omega)).mp q; omega), gdi _ (by omega) (by omega), ix4 (by omega), ad1]
  · show upd (RP_bytes rp) s.2 (vp_nar .byte x.toInt8.toInt32) i = setN s.1 s.2 (vp_nar .byte x.toInt8.toInt32) i
    rw [wr_len] at hi
    by_cases he : i = s.2
    · rw [he, upd_self, setN_self]
    · rw [upd_ne _ _ he, setN_ne _ _ he]
      exact h.2 i (by omega)
def wt (i : Nat) (s : PG) : PG := goN (fun j s => wr (sCh i j) s) (sN i) 0 s
theorem goW_len (i : Nat) : ∀ (n v : Nat) (s : PG), (goN (fun j s => wr (sCh i j) s) n v s).2 = s.2 + n
  | 0, _, _ => rfl
  | n + 1, v, s => by
    rw [goN_succ, goW_len i n (v + 1), wr_len]
    omega
theorem C_text {i : Nat} (hi : i < 11) {rp : RP} {s : PG} (h : RPr rp s) (hl : s.2 + sN i ≤ 246) : ∃ rp', f4_addText rp i = some rp' ∧ RPr rp' (wt i s) := by
  have := FU_eq
  have key : ∀ (n v fu : Nat) (rp : RP) (s : PG), v + n = sN i → n < fu → RPr rp s → s.2 + n ≤ 246 → ∃ rp', f4_addText_B2 fu rp i (i4 v) = some rp' ∧ RPr rp' (goN (fun j s => wr (sCh i j) s) n v s) := by
    intro n
    induction n with
    | zero =>
      intro v fu rp s hv hf h hl
      obtain ⟨q, rfl, -⟩ := fuS hf
      rw [f4_addText_B2, gd_of (decide_eq_true hi), if_pos (show sLen i ≤ i4 v by rw [show v = sN i by omega]; exact Int32.le_refl _)]
      exact ⟨rp, rfl, h⟩
    | succ n ih =>
      intro v fu rp s hv hf h hl
      obtain ⟨q, rfl, -⟩ := fuS hf
      rw [f4_addText_B2, gd_of (decide_eq_true hi), if_neg (show ¬ (sLen i ≤ i4 v) from fun q => by have := (i4_le (a := sN i) (by omega) (by omega)).mp q; omega), gdi _ (by omega) (by omega), ix4 (by omega), ad1, goN_succ]
      obtain ⟨rp1, e1, h1⟩ := C_byte (sCh i v) h (by omega)
      rw [e1, sbind]
      exact ih (v + 1) q rp1 _ (by omega) (by omega) h1 (by rw [wr_len]; omega)
  exact key (sN i) 0 FU rp s (by omega) (by omega) h hl
theorem pow9 {m : Nat} (h : m ≤ 9) : 10 ^ m ≤ 1000000000 := Nat.pow_le_pow_right (n := 10) (by omega) h
theorem pow_1 (m : Nat) : 1 ≤ 10 ^ m := Nat.pow_le_pow_right (n := 10) (by omega) (Nat.zero_le m)
theorem C_dn {n : Nat} (hn : n < 2147483648) : ∀ (m fu : Nat) (rp : RP) (s : PG), m ≤ 9 → m + 1 < fu → RPr rp s → s.2 + (m + 1) ≤ 246 → ∃ rp', f4_addNumber_B24 fu rp (i4 n) (i4 (10 ^ m)) = some rp' ∧ RPr rp' (dn m n s) := by
  intro m
  induction m with
  | zero =>
    intro fu rp s hm hf h hl
    obtain ⟨q, rfl, hq⟩ := fuS hf
    obtain ⟨q2, rfl, -⟩ := fuS (n := 0) (fu := q) (by omega)
    obtain ⟨rp1, e1, h1⟩ := C_byte (i4 (48 + n % 10)) h (by omega)
    rw [f4_addNumber_B24, if_neg (by decide), gd_of (by decide), show i4 n / i4 (10 ^ 0) = i4 n by rw [i4_div hn (by decide), Nat.pow_zero, Nat.div_one], show i4 n - i4 n / 10 * 10 = i4 (n % 10) from i4_mod (b := 10) hn (by omega), show (48 : Int32) + i4 (n % 10) = i4 (48 + n % 10) from i4_add 48 _, e1, sbind, f4_addNumber_B24, if_pos (by decide)]
    exact ⟨rp1, rfl, h1⟩
  | succ m ih =>
    intro fu rp s hm hf h hl
    obtain ⟨q, rfl, hq⟩ := fuS hf
    have hp := pow9 hm
    have hp1 := pow_1 (m + 1)
    have hd : n / 10 ^ (m + 1) ≤ n := Nat.div_le_self _ _
    obtain ⟨rp1, e1, h1⟩ := C_byte (i4 (48 + n / 10 ^ (m + 1) % 10)) h (by omega)
    rw [f4_addNumber_B24, if_neg (show ¬ (i4 (10 ^ (m + 1)) ≤ (0 : Int32)) from fun q => by have := (i4_le (b := 0) (by omega) (by omega)).mp q; omega), gd_of (i4_ne0 (by omega) (by omega)), i4_div hn (by omega), show i4 (n / 10 ^ (m + 1)) - i4 (n / 10 ^ (m + 1)) / 10 * 10 = i4 (n / 10 ^ (m + 1) % 10) from i4_mod (b := 10) (by omega) (by omega), show (48 : Int32) + i4 (n / 10 ^ (m + 1) % 10) = i4 (48 + n / 10 ^ (m + 1) % 10) from i4_add 48 _, e1, sbind, show i4 (10 ^ (m + 1)) / 10 = i4 (10 ^ m) by
      rw [show i4 (10 ^ (m + 1)) / 10 = i4 (10 ^ (m + 1) / 10) from i4_div (b := 10) (by omega) (by omega), Nat.pow_succ, Nat.mul_div_cancel _ (by omega)]]
    exact ih q rp1 _ (by omega) (by omega) h1 (by rw [wr_len]; omega)
theorem C_num {n m : Nat} (hn : n < 2147483648) (hm : m ≤ 9) (hd : n < 10 ^ (m + 1)) {rp : RP} {s : PG} (h : RPr rp s) (hl : s.2 + (m + 1) ≤ 246) : ∃ rp', f4_addNumber rp (i4 n) = some rp' ∧ RPr rp' (wn 24 n s) := by
  have := FU_eq
  have fin : ∀ k, k ≤ 9 → n < 10 ^ (k + 1) → (k = 0 ∨ 10 ^ k ≤ n) → ∃ rp', f4_addNumber_B24 FU rp (i4 n) (i4 (10 ^ k)) = some rp' ∧ RPr rp' (wn 24 n s) := by
    intro k hk h1 h2
    have hkm : k ≤ m := by
      refine Nat.le_of_not_lt (fun q => ?_)
      have : 10 ^ (m + 1) ≤ 10 ^ k := Nat.pow_le_pow_right (n := 10) (by omega) (by omega)
      omega
    obtain ⟨rp', e, h'⟩ := C_dn hn k FU rp s hk (by omega) h (by omega)
    rw [dn_wn k 24 n s (by omega) h1 h2] at h'
    exact ⟨rp', e, h'⟩
  have key : ∀ (r k fu : Nat), k + r = 9 → r < fu → (k = 0 ∨ 10 ^ k ≤ n) → ∃ rp', f4_addNumber_B2 fu rp (i4 n) (i4 (10 ^ k)) = some rp' ∧ RPr rp' (wn 24 n s) := by
    intro r
    induction r with
    | zero =>
      intro k fu hk hf h2
      obtain ⟨q, rfl, -⟩ := fuS hf
      obtain rfl : k = 9 := by omega
      rw [f4_addNumber_B2, if_pos (by decide)]
      exact fin 9 (by omega) (by omega) h2
    | succ r ih =>
      intro k fu hk hf h2
      obtain ⟨q, rfl, -⟩ := fuS hf
      have hp := pow9 (m := k) (by omega)
      have hp1 := pow_1 k
      have hp9 : 10 ^ k ≤ 10 ^ 8 := Nat.pow_le_pow_right (n := 10) (by omega) (by omega)
      have hdl : n / 10 ^ k ≤ n := Nat.div_le_self _ _
      rw [f4_addNumber_B2, if_neg (show ¬ ((1000000000 : Int32) ≤ i4 (10 ^ k)) from fun q => by have := (i4_le (a := 1000000000) (by omega) (by omega)).mp q; omega), gd_of (i4_ne0 (by omega) (by omega)), i4_div hn (by omega)]
      by_cases hlt : n / 10 ^ k < 10
      · rw [if_pos (show i4 (n / 10 ^ k) < (10 : Int32) from (i4_lt (b := 10) (by omega) (by omega)).mpr hlt)]
        refine fin k (by omega) ?_ h2
        rw [Nat.pow_succ]
        have := (Nat.div_lt_iff_lt_mul (show 0 < 10 ^ k by omega)).mp hlt
        omega
      · rw [if_neg (show ¬ (i4 (n / 10 ^ k) < (10 : Int32)) from fun q => hlt ((i4_lt (b := 10) (by omega) (by omega)).mp q)), show i4 (10 ^ k) * 10 = i4 (10 ^ (k + 1)) by rw [Nat.pow_succ]; exact i4_mul _ 10]
        refine ih (k + 1) q (by omega) (by omega) (Or.inr ?_)
        rw [Nat.pow_succ]
        have : ¬ n < 10 * 10 ^ k := fun q => hlt ((Nat.div_lt_iff_lt_mul (show 0 < 10 ^ k by omega)).mpr q)
        omega
  exact key 9 0 FU (by omega) (by omega) (Or.inl rfl)
