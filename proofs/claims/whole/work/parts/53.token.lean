/-! one token -/
def chr (n : Nat) (b : Nat → Int32) (i : Nat) : Int32 := if i < n then b i &&& 255 else -1
def kn (x : Int32) : Nat := if x = -1 then 0 else if 97 ≤ x.toInt ∧ x.toInt ≤ 122 then 1 else if 48 ≤ x.toInt ∧ x.toInt ≤ 57 then 2 else if x = 59 then 3 else 4
theorem kn_le (x : Int32) : kn x ≤ 4 := by
  unfold kn
  split
  · omega
  · split
    · omega
    · split
      · omega
      · split <;> omega
def skp (n : Nat) (b : Nat → Int32) : Nat → Nat → Nat
  | 0, i => i
  | r + 1, i => if chr n b i = 32 ∨ chr n b i = 10 then skp n b r (i + 1) else i
def ext (n : Nat) (b : Nat → Int32) (k : Nat) : Nat → Nat → Nat
  | 0, i => i
  | r + 1, i => if kn (chr n b i) = k then ext n b k r (i + 1) else i
def tS (n : Nat) (b : Nat → Int32) (e : Nat) : Nat := skp n b (n - e) e
def tE (n : Nat) (b : Nat → Int32) (s : Nat) : Nat := if kn (chr n b s) = 1 ∨ kn (chr n b s) = 2 then ext n b (kn (chr n b s)) (n - (s + 1)) (s + 1) else if s < n then s + 1 else n
def vlN (n : Nat) (b : Nat → Int32) : Nat → Nat → Int32 → Int32
  | 0, _, v => v
  | r + 1, i, v => vlN n b r (i + 1) (v * 10 + chr n b i - 48)
theorem chr_n {n : Nat} {b : Nat → Int32} {i : Nat} (h : n ≤ i) : chr n b i = -1 := if_neg (by omega)
theorem skp_le (n : Nat) (b : Nat → Int32) : ∀ (r i : Nat), i + r = n → i ≤ skp n b r i ∧ skp n b r i ≤ n
  | 0, i, h => ⟨Nat.le_refl i, by show i ≤ n; omega⟩
  | r + 1, i, h => by
    unfold skp
    split
    · have := skp_le n b r (i + 1) (by omega)
      omega
    · omega
theorem ext_le (n : Nat) (b : Nat → Int32) (k : Nat) : ∀ (r i : Nat), i + r = n → i ≤ ext n b k r i ∧ ext n b k r i ≤ n
  | 0, i, h => ⟨Nat.le_refl i, by show i ≤ n; omega⟩
  | r + 1, i, h => by
    unfold ext
    split
    · have := ext_le n b k r (i + 1) (by omega)
      omega
    · omega
theorem kn_n {n : Nat} {b : Nat → Int32} {i : Nat} (h : n ≤ i) : kn (chr n b i) = 0 := by
  rw [chr_n h]
  rfl
theorem tS_le {n : Nat} {b : Nat → Int32} {e : Nat} (h : e ≤ n) : e ≤ tS n b e ∧ tS n b e ≤ n := skp_le n b (n - e) e (by omega)
theorem tE_le {n : Nat} {b : Nat → Int32} {s : Nat} (h : s ≤ n) : s ≤ tE n b s ∧ tE n b s ≤ n := by
  unfold tE
  split
  · rename_i hk
    have hs : s < n := by
      refine Nat.lt_of_not_le (fun q => ?_)
      rw [kn_n q] at hk
      omega
    have := ext_le n b (kn (chr n b s)) (n - (s + 1)) (s + 1) (by omega)
    omega
  · split <;> omega
/-- the text, for either side -/
def TXc (T : TT) (n : Nat) (b : Nat → Int32) : Prop := n ≤ 900 ∧ TT_length T = i4 n ∧ ∀ i, i < n → TT_bytes T i = b i
def TXm (mp : MP) (n : Nat) (b : Nat → Int32) : Prop := n ≤ 900 ∧ MP_end_ mp = i4 n ∧ ∀ i, i < n → MP_text mp i = b i
section TO
variable {T : TT} {R : RR} {mp : MP} {n : Nat} {b : Nat → Int32}
theorem C_chr (h : TXc T n b) {i : Nat} (hi : i < 2147483648) : f8_byteAt T (i4 i) = some (chr n b i) := by
  obtain ⟨h1, h2, h3⟩ := h
  unfold f8_byteAt chr
  rw [if_neg (lt0_i4 hi), h2]
  by_cases hn : i < n
  · rw [if_neg (fun q => by have := (i4_le (by omega) (by omega)).mp q; omega), if_pos hn, gdi _ (by omega) hi, ix4 hi, h3 i hn]
  · rw [if_pos ((i4_le (by omega) (by omega)).mpr (by omega)), if_neg hn]
theorem M_chr (h : TXm mp n b) {i : Nat} (hi : i < 2147483648) : f10_byteAt mp (i4 i) = some (chr n b i) := by
  obtain ⟨h1, h2, h3⟩ := h
  unfold f10_byteAt chr
  rw [h2]
  by_cases hn : i < n
  · rw [if_neg (fun q => by have := (i4_le (by omega) (by omega)).mp q; omega), if_pos hn, gdi _ (by omega) hi, ix4 hi, h3 i hn]
  · rw [if_pos ((i4_le (by omega) (by omega)).mpr (by omega)), if_neg hn]
theorem C_kind (x : Int32) : f2_kindOf x = some (i4 (kn x)) := by
  have e97 : (97 : Int32).toInt = 97 := by decide
  have e122 : (122 : Int32).toInt = 122 := by decide
  have e48 : (48 : Int32).toInt = 48 := by decide
  have e57 : (57 : Int32).toInt = 57 := by decide
  have B35 : ¬ (48 ≤ x.toInt ∧ x.toInt ≤ 57) → f2_kindOf_B35 x = some (i4 (if 48 ≤ x.toInt ∧ x.toInt ≤ 57 then 2 else if x = 59 then 3 else 4)) := by
    intro h
    unfold f2_kindOf_B35
    rw [if_neg h]
    by_cases q : x = 59
    · rw [if_pos q, if_pos q]; rfl
    · rw [if_neg q, if_neg q]; rfl
  have B21 : f2_kindOf_B21 x = some (i4 (if 48 ≤ x.toInt ∧ x.toInt ≤ 57 then 2 else if x = 59 then 3 else 4)) := by
    unfold f2_kindOf_B21
    by_cases q1 : x < 48
    · rw [if_pos q1]
      rw [Int32.lt_iff_toInt_lt, e48] at q1
      exact B35 (by omega)
    · rw [if_neg q1]
      rw [Int32.lt_iff_toInt_lt, e48] at q1
      by_cases q2 : 57 < x
      · rw [if_pos q2]
        rw [Int32.lt_iff_toInt_lt, e57] at q2
        exact B35 (by omega)
      · rw [if_neg q2]
        rw [Int32.lt_iff_toInt_lt, e57] at q2
        rw [if_pos (by omega)]
        rfl
  unfold f2_kindOf kn
  by_cases h1 : x = -1
  · rw [if_pos h1, if_pos h1]; rfl
  · rw [if_neg h1, if_neg h1]
    by_cases q1 : x < 97
    · rw [if_pos q1]
      rw [Int32.lt_iff_toInt_lt, e97] at q1
      rw [if_neg (show ¬ (97 ≤ x.toInt ∧ x.toInt ≤ 122) by omega)]
      exact B21
    · rw [if_neg q1]
      rw [Int32.lt_iff_toInt_lt, e97] at q1
      by_cases q2 : 122 < x
      · rw [if_pos q2]
        rw [Int32.lt_iff_toInt_lt, e122] at q2
        rw [if_neg (show ¬ (97 ≤ x.toInt ∧ x.toInt ≤ 122) by omega)]
        exact B21
      · rw [if_neg q2]
        rw [Int32.lt_iff_toInt_lt, e122] at q2
        rw [if_pos (show 97 ≤ x.toInt ∧ x.toInt ≤ 122 by omega)]
        rfl
theorem kn_1 (x : Int32) : kn x = 1 ↔ 97 ≤ x.toInt ∧ x.toInt ≤ 122 := by
  unfold kn
  by_cases h1 : x = -1
  · subst h1
    rw [if_pos rfl, show (-1 : Int32).toInt = -1 by decide]
    omega
  · rw [if_neg h1]
    by_cases h2 : 97 ≤ x.toInt ∧ x.toInt ≤ 122
    · rw [if_pos h2]; exact ⟨fun _ => h2, fun _ => rfl⟩
    · rw [if_neg h2]
      refine ⟨fun h => ?_, fun h => absurd h h2⟩
      split at h
      · omega
      · split at h <;> omega
theorem kn_2 (x : Int32) : kn x = 2 ↔ 48 ≤ x.toInt ∧ x.toInt ≤ 57 := by
  unfold kn
  by_cases h1 : x = -1
  · subst h1
    rw [if_pos rfl, show (-1 : Int32).toInt = -1 by decide]
    omega
  · rw [if_neg h1]
    by_cases h2 : 97 ≤ x.toInt ∧ x.toInt ≤ 122
    · rw [if_pos h2]; omega
    · rw [if_neg h2]
      by_cases h3 : 48 ≤ x.toInt ∧ x.toInt ≤ 57
      · rw [if_pos h3]; exact ⟨fun _ => h3, fun _ => rfl⟩
      · rw [if_neg h3]
        refine ⟨fun h => ?_, fun h => absurd h h3⟩
        split at h <;> omega
theorem M_letter (h : TXm mp n b) {i : Nat} (hi : i < 2147483648) : f10_isLetterAt mp (i4 i) = some (if kn (chr n b i) = 1 then 1 else 0) := by
  unfold f10_isLetterAt
  rw [M_chr h hi, sbind]
  by_cases q : kn (chr n b i) = 1
  · obtain ⟨q1, q2⟩ := (kn_1 _).mp q
    rw [M_in_y (show (97 : Int64).toInt ≤ _ by rw [show (97 : Int64).toInt = 97 by decide]; exact q1) (show _ ≤ (122 : Int64).toInt by rw [show (122 : Int64).toInt = 122 by decide]; exact q2), sbind, if_pos q]
    rfl
  · rw [M_in_n (show ¬ ((97 : Int64).toInt ≤ _ ∧ _ ≤ (122 : Int64).toInt) by rw [show (97 : Int64).toInt = 97 by decide, show (122 : Int64).toInt = 122 by decide]; exact fun z => q ((kn_1 _).mpr z)), sbind, if_neg q]
    rfl
theorem M_digit (h : TXm mp n b) {i : Nat} (hi : i < 2147483648) : f10_isDigitAt mp (i4 i) = some (if kn (chr n b i) = 2 then 1 else 0) := by
  unfold f10_isDigitAt
  rw [M_chr h hi, sbind]
  by_cases q : kn (chr n b i) = 2
  · obtain ⟨q1, q2⟩ := (kn_2 _).mp q
    rw [M_in_y (show (48 : Int64).toInt ≤ _ by rw [show (48 : Int64).toInt = 48 by decide]; exact q1) (show _ ≤ (57 : Int64).toInt by rw [show (57 : Int64).toInt = 57 by decide]; exact q2), sbind, if_pos q]
    rfl
  · rw [M_in_n (show ¬ ((48 : Int64).toInt ≤ _ ∧ _ ≤ (57 : Int64).toInt) by rw [show (48 : Int64).toInt = 48 by decide, show (57 : Int64).toInt = 57 by decide]; exact fun z => q ((kn_2 _).mpr z)), sbind, if_neg q]
    rfl
/-- the reader's token -/
def TKc (R : RR) (n : Nat) (b : Nat → Int32) (s : Nat) : Prop := RR_start R = i4 s ∧ RR_end_ R = i4 (tE n b s) ∧ RR_kind R = i4 (kn (chr n b s)) ∧ (kn (chr n b s) = 2 → RR_value R = vlN n b (if tE n b s - s < 7 then tE n b s - s else 7) s 0)
def TKm (mp : MP) (n : Nat) (b : Nat → Int32) (s : Nat) : Prop := MP_from mp = i4 s ∧ MP_to mp = i4 (tE n b s)
theorem C_179 (h : TXc T n b) {s e : Nat} (he : e ≤ 900) (hs : s ≤ e) : ∀ (r i fu : Nat) (R : RR), RR_kind R = i4 2 → RR_end_ R = i4 e → RR_start R = i4 s → i + r = (if e < s + 7 then e else s + 7) → r < fu →
    ∃ R', f2_advance_B179 T fu R (i4 i) = some R' ∧ R' = RR_set_value R (vlN n b r i (RR_value R)) := by
  intro r
  induction r with
  | zero =>
    intro i fu R h1 h2 h3 hi hf
    obtain ⟨q, rfl, -⟩ := fuS hf
    rw [f2_advance_B179, h1, if_pos (show i4 2 = (2 : Int32) from rfl), h2, h3, show i4 s + 7 = i4 (s + 7) from i4_add s 7]
    by_cases q1 : e < s + 7
    · rw [if_pos q1] at hi
      rw [if_pos ((i4_le (by omega) (by omega)).mpr (by omega))]
      exact ⟨R, rfl, rfl⟩
    · rw [if_neg q1] at hi
      by_cases q2 : e ≤ i
      · rw [if_pos ((i4_le (by omega) (by omega)).mpr q2)]
        exact ⟨R, rfl, rfl⟩
      · rw [if_neg (fun z => q2 ((i4_le (by omega) (by omega)).mp z)), if_pos ((i4_le (by omega) (by omega)).mpr (by omega))]
        exact ⟨R, rfl, rfl⟩
  | succ r ih =>
    intro i fu R h1 h2 h3 hi hf
    obtain ⟨q, rfl, -⟩ := fuS hf
    have hb : i < e ∧ i < s + 7 := by split at hi <;> omega
    rw [f2_advance_B179, h1, if_pos (show i4 2 = (2 : Int32) from rfl), h2, h3, show i4 s + 7 = i4 (s + 7) from i4_add s 7, if_neg (fun z => by have := (i4_le (by omega) (by omega)).mp z; omega), if_neg (fun z => by have := (i4_le (by omega) (by omega)).mp z; omega), C_chr h (by omega), sbind, ad1]
    obtain ⟨R', e1, e2⟩ := ih (i + 1) q (RR_set_value R (RR_value R * 10 + chr n b i - 48)) h1 h2 h3 (by omega) (by omega)
    exact ⟨R', e1, e2⟩
theorem C_val (h : TXc T n b) {s : Nat} {R : RR} (hs : s ≤ n) (h1 : RR_start R = i4 s) (h2 : RR_end_ R = i4 (tE n b s)) (h3 : RR_kind R = i4 (kn (chr n b s))) : ∃ R', f2_advance_B179 T FU (RR_set_value R 0) (RR_start R) = some R' ∧ TKc R' n b s ∧ RR_errorCode R' = RR_errorCode R ∧ RR_errorPosition R' = RR_errorPosition R := by
  have hE := tE_le (b := b) hs
  have hn := h.1
  have := FU_eq
  by_cases hk : kn (chr n b s) = 2
  · obtain ⟨R', e1, e2⟩ := C_179 h (s := s) (e := tE n b s) (by omega) hE.1 ((if tE n b s < s + 7 then tE n b s else s + 7) - s) s FU (RR_set_value R 0) (by rw [← hk]; exact h3) h2 h1 (by split <;> omega) (by split <;> omega)
    rw [h1]
    refine ⟨R', e1, ?_, by rw [e2]; rfl, by rw [e2]; rfl⟩
    rw [e2]
    refine ⟨h1, h2, h3, fun _ => ?_⟩
    show vlN n b ((if tE n b s < s + 7 then tE n b s else s + 7) - s) s 0 = _
    congr 1
    split <;> split <;> omega
  · have e : FU = 4095 + 1 := rfl
    rw [e, f2_advance_B179, if_neg (show ¬ (RR_kind (RR_set_value R 0) = 2) from fun q => hk (by
      have q2 : i4 (kn (chr n b s)) = (2 : Int32) := h3.symm.trans q
      have := kn_le (chr n b s)
      exact (i4_eq (b := 2) (by omega) (by omega)).mp q2))]
    exact ⟨_, rfl, ⟨h1, h2, h3, fun q => absurd q hk⟩, rfl, rfl⟩
theorem C_121 (h : TXc T n b) {s : Nat} (hs : s ≤ n) : ∀ (r i fu : Nat) (R : RR), i + r = n → r < fu → RR_start R = i4 s → RR_end_ R = i4 i → RR_kind R = i4 (kn (chr n b s)) → ext n b (kn (chr n b s)) r i = tE n b s →
    ∃ R', f2_advance_B121 T fu R = some R' ∧ TKc R' n b s ∧ RR_errorCode R' = RR_errorCode R ∧ RR_errorPosition R' = RR_errorPosition R := by
  intro r
  have hn := h.1
  induction r with
  | zero =>
    intro i fu R hi hf h1 h2 h3 hx
    obtain ⟨q, rfl, -⟩ := fuS hf
    rw [f2_advance_B121, h.2.1, h2, if_pos ((i4_le (by omega) (by omega)).mpr (by omega))]
    exact C_val h hs h1 (by rw [h2, ← hx]; rfl) h3
  | succ r ih =>
    intro i fu R hi hf h1 h2 h3 hx
    obtain ⟨q, rfl, -⟩ := fuS hf
    have k1 := kn_le (chr n b i)
    have k2 := kn_le (chr n b s)
    rw [f2_advance_B121, h.2.1, h2, if_neg (fun z => by have := (i4_le (by omega) (by omega)).mp z; omega), C_chr h (by omega), sbind, C_kind, sbind, h3, ad1]
    unfold ext at hx
    by_cases hk : kn (chr n b i) = kn (chr n b s)
    · rw [if_pos hk] at hx
      rw [if_pos (by rw [hk])]
      exact ih (i + 1) q (RR_set_end_ R (i4 (i + 1))) (by omega) (by omega) h1 rfl h3 hx
    · rw [if_neg hk] at hx
      rw [if_neg (fun z => hk ((i4_eq (by omega) (by omega)).mp z))]
      exact C_val h hs h1 (by rw [h2, ← hx]) h3
theorem C_67 (h : TXc T n b) {s : Nat} (hs : s ≤ n) {R : RR} (h1 : RR_start R = i4 s) : ∃ R', f2_advance_B67 T R = some R' ∧ TKc R' n b s ∧ RR_errorCode R' = RR_errorCode R ∧ RR_errorPosition R' = RR_errorPosition R := by
  have hn := h.1
  have := FU_eq
  have k := kn_le (chr n b s)
  have emin : (if i4 n < i4 (s + 1) then i4 n else i4 (s + 1)) = i4 (if s < n then s + 1 else n) := by
    by_cases q : s < n
    · rw [if_pos q, if_neg (fun z => by have := (i4_lt (by omega) (by omega)).mp z; omega)]
    · rw [if_neg q, if_pos ((i4_lt (by omega) (by omega)).mpr (by omega))]
  unfold f2_advance_B67
  rw [h1, C_chr h (by omega), sbind, C_kind, sbind, h.2.1, ad1, emin]
  have two : (kn (chr n b s) = 1 ∨ kn (chr n b s) = 2) → ∃ R', f2_advance_B121 T FU (RR_set_end_ (RR_set_kind R (i4 (kn (chr n b s)))) (i4 (if s < n then s + 1 else n))) = some R' ∧ TKc R' n b s ∧ RR_errorCode R' = RR_errorCode R ∧ RR_errorPosition R' = RR_errorPosition R := by
    intro hk
    have hsn : s < n := by
      refine Nat.lt_of_not_le (fun q => ?_)
      rw [kn_n q] at hk
      omega
    rw [if_pos hsn]
    refine C_121 h hs (n - (s + 1)) (s + 1) FU (RR_set_end_ (RR_set_kind R (i4 (kn (chr n b s)))) (i4 (s + 1))) (by omega) (by omega) h1 rfl rfl ?_
    unfold tE
    rw [if_pos hk]
  by_cases q1 : kn (chr n b s) = 1
  · rw [if_pos (show i4 (kn (chr n b s)) = (1 : Int32) by rw [q1]; rfl)]
    exact two (Or.inl q1)
  · rw [if_neg (show ¬ (i4 (kn (chr n b s)) = (1 : Int32)) from fun z => q1 ((i4_eq (b := 1) (by omega) (by omega)).mp z))]
    by_cases q2 : kn (chr n b s) = 2
    · rw [if_pos (show i4 (kn (chr n b s)) = (2 : Int32) by rw [q2]; rfl)]
      exact two (Or.inr q2)
    · rw [if_neg (show ¬ (i4 (kn (chr n b s)) = (2 : Int32)) from fun z => q2 ((i4_eq (b := 2) (by omega) (by omega)).mp z))]
      have hv := C_val h hs (R := RR_set_end_ (RR_set_kind R (i4 (kn (chr n b s)))) (i4 (if s < n then s + 1 else n))) h1 (by
        unfold tE
        rw [if_neg (show ¬ (kn (chr n b s) = 1 ∨ kn (chr n b s) = 2) from fun z => z.elim q1 q2)]
        rfl) rfl
      rw [show RR_start (RR_set_end_ (RR_set_kind R (i4 (kn (chr n b s)))) (i4 (if s < n then s + 1 else n))) = i4 s from h1] at hv
      exact hv
theorem C_advance (h : TXc T n b) {e : Nat} (he : e ≤ n) {R : RR} (h1 : RR_end_ R = i4 e) : ∃ R', f2_advance T R = some R' ∧ TKc R' n b (tS n b e) ∧ RR_errorCode R' = RR_errorCode R ∧ RR_errorPosition R' = RR_errorPosition R := by
  have hn := h.1
  have := FU_eq
  have key : ∀ (r i fu : Nat) (R : RR), i + r = n → r < fu → RR_start R = i4 i → ∃ R', f2_advance_B8 T fu R = some R' ∧ TKc R' n b (skp n b r i) ∧ RR_errorCode R' = RR_errorCode R ∧ RR_errorPosition R' = RR_errorPosition R := by
    intro r
    induction r with
    | zero =>
      intro i fu R hi hf h1
      obtain ⟨q, rfl, -⟩ := fuS hf
      rw [f2_advance_B8, h.2.1, h1, if_pos ((i4_le (by omega) (by omega)).mpr (by omega))]
      exact C_67 (s := i) h (by omega) h1
    | succ r ih =>
      intro i fu R hi hf h1
      obtain ⟨q, rfl, -⟩ := fuS hf
      rw [f2_advance_B8, h.2.1, h1, if_neg (fun z => by have := (i4_le (by omega) (by omega)).mp z; omega), C_chr h (by omega), sbind, sbind, ad1]
      unfold skp
      by_cases q1 : chr n b i = 32
      · rw [if_pos q1, if_pos (Or.inl q1)]
        exact ih (i + 1) q (RR_set_start R (i4 (i + 1))) (by omega) (by omega) rfl
      · rw [if_neg q1]
        by_cases q2 : chr n b i = 10
        · rw [if_pos q2, if_pos (Or.inr q2)]
          exact ih (i + 1) q (RR_set_start R (i4 (i + 1))) (by omega) (by omega) rfl
        · rw [if_neg q2, if_neg (fun z => z.elim q1 q2)]
          exact C_67 h (by omega) h1
  unfold f2_advance
  exact key (n - e) e FU (RR_set_start R (RR_end_ R)) (by omega) (by omega) h1
theorem M_66 (h : TXm mp n b) {k : Nat} (step : Nat → MP → Option MP) (hst : ∀ q mp' i, TXm mp' n b → i ≤ n → MP_to mp' = i4 i → step (q + 1) mp' = if kn (chr n b i) = k then step q (MP_set_to mp' (i4 (i + 1))) else some mp') (hk : k ≠ 0) : ∀ (r i fu : Nat) (mp' : MP), i + r = n → r < fu → TXm mp' n b → MP_to mp' = i4 i → step fu mp' = some (MP_set_to mp' (i4 (ext n b k r i))) := by
  intro r
  have hn := h.1
  induction r with
  | zero =>
    intro i fu mp' hi hf hx h1
    obtain ⟨q, rfl, -⟩ := fuS hf
    rw [hst q mp' i hx (by omega) h1, if_neg (show ¬ (kn (chr n b i) = k) by rw [kn_n (by omega)]; exact fun z => hk z.symm)]
    show some mp' = some (MP_set_to mp' (i4 i))
    rw [← h1]
    rfl
  | succ r ih =>
    intro i fu mp' hi hf hx h1
    obtain ⟨q, rfl, -⟩ := fuS hf
    rw [hst q mp' i hx (by omega) h1]
    unfold ext
    by_cases hc : kn (chr n b i) = k
    · rw [if_pos hc, if_pos hc, ih (i + 1) q (MP_set_to mp' (i4 (i + 1))) (by omega) (by omega) hx rfl]
      rfl
    · rw [if_neg hc, if_neg hc, ← h1]
      rfl
theorem M_next (h : TXm mp n b) {e : Nat} (he : e ≤ n) (h1 : MP_to mp = i4 e) : ∃ mp', f10_next mp = some mp' ∧ TXm mp' n b ∧ TKm mp' n b (tS n b e) ∧ MP_length mp' = MP_length mp ∧ MP_fault mp' = MP_fault mp ∧ MP_faultAt mp' = MP_faultAt mp := by
  have hn := h.1
  have := FU_eq
  have fin : ∀ (q : Nat) (mp' : MP) (s : Nat), s ≤ n → TXm mp' n b → MP_from mp' = i4 s → MP_length mp' = MP_length mp → MP_fault mp' = MP_fault mp → MP_faultAt mp' = MP_faultAt mp → ¬ (chr n b s = 32 ∨ chr n b s = 10) →
      ∃ mp2, f10_next_B8 (q + 1) mp' = some mp2 ∧ TXm mp2 n b ∧ TKm mp2 n b s ∧ MP_length mp2 = MP_length mp ∧ MP_fault mp2 = MP_fault mp ∧ MP_faultAt mp2 = MP_faultAt mp := by
    intro q mp' s hs hx hf g1 g2 g3 hc
    have hx2 : TXm (MP_set_to mp' (MP_from mp')) n b := hx
    have hto : MP_to (MP_set_to mp' (MP_from mp')) = i4 s := hf
    have letters : ∀ (q : Nat) (mp' : MP) (i : Nat), TXm mp' n b → i ≤ n → MP_to mp' = i4 i → f10_next_B66 (q + 1) mp' = if kn (chr n b i) = 1 then f10_next_B66 q (MP_set_to mp' (i4 (i + 1))) else some mp' := by
      intro q mp' i hx hi ht
      rw [f10_next_B66, ht, M_letter hx (by omega), sbind, ad1]
      by_cases c : kn (chr n b i) = 1
      · rw [if_pos c, if_pos c, if_neg one_ne]
      · rw [if_neg c, if_neg c, if_pos rfl]
    have digits : ∀ (q : Nat) (mp' : MP) (i : Nat), TXm mp' n b → i ≤ n → MP_to mp' = i4 i → f10_next_B101 (q + 1) mp' = if kn (chr n b i) = 2 then f10_next_B101 q (MP_set_to mp' (i4 (i + 1))) else some mp' := by
      intro q mp' i hx hi ht
      rw [f10_next_B101, ht, M_digit hx (by omega), sbind, ad1]
      by_cases c : kn (chr n b i) = 2
      · rw [if_pos c, if_pos c, if_neg one_ne]
      · rw [if_neg c, if_neg c, if_pos rfl]
    have hsn : kn (chr n b s) ≠ 0 → s < n := fun hk => by
      refine Nat.lt_of_not_le (fun q => ?_)
      rw [kn_n q] at hk
      exact hk rfl
    have ext1 : kn (chr n b s) ≠ 0 → ext n b (kn (chr n b s)) (n - s) s = ext n b (kn (chr n b s)) (n - (s + 1)) (s + 1) := fun hk => by
      have := hsn hk
      rw [show n - s = (n - (s + 1)) + 1 by omega]
      show (if kn (chr n b s) = kn (chr n b s) then _ else s) = _
      rw [if_pos rfl]
    rw [f10_next_B8, hf, M_chr hx (by omega), sbind, if_neg (fun z => hc (Or.inl z)), sbind, if_neg (fun z => hc (Or.inr z))]
    rw [hf] at hx2 hto
    rw [M_letter hx2 (by omega), sbind]
    by_cases c1 : kn (chr n b s) = 1
    · rw [if_pos c1, if_neg one_ne, M_66 hx2 f10_next_B66 letters (by omega) (n - s) s FU _ (by omega) (by omega) hx2 hto]
      refine ⟨_, rfl, hx2, ⟨hf, ?_⟩, g1, g2, g3⟩
      show i4 (ext n b 1 (n - s) s) = i4 (tE n b s)
      unfold tE
      rw [if_pos (Or.inl c1), ← ext1 (by omega), c1]
    · rw [if_neg c1, if_pos rfl, M_digit hx2 (by omega), sbind]
      by_cases c2 : kn (chr n b s) = 2
      · rw [if_pos c2, if_neg one_ne, M_66 hx2 f10_next_B101 digits (by omega) (n - s) s FU _ (by omega) (by omega) hx2 hto]
        refine ⟨_, rfl, hx2, ⟨hf, ?_⟩, g1, g2, g3⟩
        show i4 (ext n b 2 (n - s) s) = i4 (tE n b s)
        unfold tE
        rw [if_pos (Or.inr c2), ← ext1 (by omega), c2]
      · rw [if_neg c2, if_pos rfl, hx.2.1, ad1]
        by_cases q3 : s < n
        · rw [if_neg (fun z => by have := (i4_le (by omega) (by omega)).mp z; omega)]
          refine ⟨_, rfl, hx2, ⟨hf, ?_⟩, g1, g2, g3⟩
          show i4 (s + 1) = i4 (tE n b s)
          unfold tE
          rw [if_neg (show ¬ (kn (chr n b s) = 1 ∨ kn (chr n b s) = 2) from fun z => z.elim c1 c2), if_pos q3]
        · rw [if_pos ((i4_le (by omega) (by omega)).mpr (by omega))]
          refine ⟨_, rfl, hx2, ⟨hf, ?_⟩, g1, g2, g3⟩
          show i4 s = i4 (tE n b s)
          unfold tE
          rw [if_neg (show ¬ (kn (chr n b s) = 1 ∨ kn (chr n b s) = 2) from fun z => z.elim c1 c2), if_neg q3, show s = n by omega]
  have key : ∀ (r i fu : Nat) (mp' : MP), i + r = n → r < fu → TXm mp' n b → MP_from mp' = i4 i → MP_length mp' = MP_length mp → MP_fault mp' = MP_fault mp → MP_faultAt mp' = MP_faultAt mp → ∃ mp2, f10_next_B8 fu mp' = some mp2 ∧ TXm mp2 n b ∧ TKm mp2 n b (skp n b r i) ∧ MP_length mp2 = MP_length mp ∧ MP_fault mp2 = MP_fault mp ∧ MP_faultAt mp2 = MP_faultAt mp := by
    intro r
    induction r with
    | zero =>
      intro i fu mp' hi hf hx h1 g1 g2 g3
      obtain ⟨q, rfl, -⟩ := fuS hf
      exact fin q mp' i (by omega) hx h1 g1 g2 g3 (by rw [chr_n (by omega)]; decide)
    | succ r ih =>
      intro i fu mp' hi hf hx h1 g1 g2 g3
      obtain ⟨q, rfl, -⟩ := fuS hf
      unfold skp
      by_cases hc : chr n b i = 32 ∨ chr n b i = 10
      · rw [if_pos hc, f10_next_B8, h1, M_chr hx (by omega), sbind, ad1]
        by_cases q1 : chr n b i = 32
        · rw [if_pos q1]
          exact ih (i + 1) q (MP_set_from mp' (i4 (i + 1))) (by omega) (by omega) hx rfl g1 g2 g3
        · rw [if_neg q1, sbind, if_pos (hc.elim (fun z => absurd z q1) id)]
          exact ih (i + 1) q (MP_set_from mp' (i4 (i + 1))) (by omega) (by omega) hx rfl g1 g2 g3
      · rw [if_neg hc]
        exact fin q mp' i (by omega) hx h1 g1 g2 g3 hc
  unfold f10_next
  exact key (n - e) e FU (MP_set_from mp (MP_to mp)) (by omega) (by omega) h h1 rfl rfl rfl
/-! words -/
def isW (n : Nat) (b : Nat → Int32) (i s : Nat) : Prop := tE n b s - s = sN i ∧ ∀ j, j < sN i → chr n b (s + j) = sCh i j
theorem C_isWord (h : TXc T n b) {s : Nat} (hs : s ≤ n) (ht : TKc R n b s) {i : Nat} (hi : i < 33) (hw : 0 < sN i ∧ sN i < 100 ∧ kn (sCh i 0) = 1) : ∃ r, f2_isWord T R i = some r ∧ (isW n b i s → r = 1) ∧ (¬ isW n b i s → r = 0) := by
  have hn := h.1
  have := FU_eq
  have hE := tE_le (b := b) hs
  have hkl := kn_le (chr n b s)
  have key : ∀ (r j fu : Nat), j + r = sN i → r < fu → (∀ q, q < j → chr n b (s + q) = sCh i q) → ∃ v, f2_isWord_B28 T R fu i (i4 j) = some v ∧ ((∀ q, q < sN i → chr n b (s + q) = sCh i q) → v = 1) ∧ (¬ (∀ q, q < sN i → chr n b (s + q) = sCh i q) → v = 0) := by
    intro r
    induction r with
    | zero =>
      intro j fu hj hf hq
      obtain ⟨q, rfl, -⟩ := fuS hf
      rw [f2_isWord_B28, gd_of (decide_eq_true hi), if_pos (show sLen i ≤ i4 j by rw [show j = sN i by omega]; exact Int32.le_refl _)]
      exact ⟨1, rfl, fun _ => rfl, fun z => absurd (fun q hq2 => hq q (by omega)) z⟩
    | succ r ih =>
      intro j fu hj hf hq
      obtain ⟨q, rfl, -⟩ := fuS hf
      rw [f2_isWord_B28, gd_of (decide_eq_true hi), if_neg (show ¬ (sLen i ≤ i4 j) from fun z => by have := (i4_le (a := sN i) (by omega) (by omega)).mp z; omega), ht.1, i4_add, C_chr h (by omega), sbind, gdi _ (by omega) (by omega), ix4 (by omega), ad1]
      by_cases c : chr n b (s + j) = sCh i j
      · rw [if_pos c]
        exact ih (j + 1) q (by omega) (by omega) (fun z hz => by
          by_cases e : z = j
          · rw [e]; exact c
          · exact hq z (by omega))
      · rw [if_neg c]
        exact ⟨0, rfl, fun z => absurd (z j (by omega)) c, fun _ => rfl⟩
  unfold f2_isWord
  by_cases hk : kn (chr n b s) = 1
  · rw [if_pos (show RR_kind R = 1 by rw [ht.2.2.1, hk]; rfl), gd_of (decide_eq_true hi), ht.1, ht.2.1, i4_sub hE.1]
    by_cases hl : tE n b s - s = sN i
    · rw [if_pos (show i4 (tE n b s - s) = sLen i by rw [hl]; rfl)]
      obtain ⟨v, e, p1, p2⟩ := key (sN i) 0 FU (by omega) (by omega) (fun q hq => absurd hq (Nat.not_lt_zero q))
      exact ⟨v, e, fun z => p1 z.2, fun z => p2 (fun z2 => z ⟨hl, z2⟩)⟩
    · rw [if_neg (show ¬ (i4 (tE n b s - s) = sLen i) from fun z => hl ((i4_eq (b := sN i) (by omega) (by omega)).mp z))]
      exact ⟨0, rfl, fun z => absurd z.1 hl, fun _ => rfl⟩
  · rw [if_neg (show ¬ (RR_kind R = 1) from fun z => hk (by
      have z2 : i4 (kn (chr n b s)) = (1 : Int32) := ht.2.2.1.symm.trans z
      exact (i4_eq (b := 1) (by omega) (by omega)).mp z2))]
    refine ⟨0, rfl, fun z => absurd ?_ hk, fun _ => rfl⟩
    have := z.2 0 hw.1
    rw [Nat.add_zero] at this
    rw [this]
    exact hw.2.2
theorem M_isWord (h : TXm mp n b) {s : Nat} (hs : s ≤ n) (ht : TKm mp n b s) {i : Nat} (hi : i < 33) (hw : sN i < 100) : ∃ r, f10_isWord mp i = some r ∧ (isW n b i s → r = 1) ∧ (¬ isW n b i s → r = 0) := by
  have hn := h.1
  have := FU_eq
  have hE := tE_le (b := b) hs
  have key : ∀ (r j fu : Nat), j + r = sN i → r < fu → (∀ q, q < j → chr n b (s + q) = sCh i q) → ∃ v, f10_isWord_B24 mp fu i 1 (i4 j) = some v ∧ ((∀ q, q < sN i → chr n b (s + q) = sCh i q) → v = 1) ∧ (¬ (∀ q, q < sN i → chr n b (s + q) = sCh i q) → v = 0) := by
    intro r
    induction r with
    | zero =>
      intro j fu hj hf hq
      obtain ⟨q, rfl, -⟩ := fuS hf
      rw [f10_isWord_B24, gd_of (decide_eq_true hi), if_pos (show sLen i ≤ i4 j by rw [show j = sN i by omega]; exact Int32.le_refl _)]
      exact ⟨1, rfl, fun _ => rfl, fun z => absurd (fun q hq2 => hq q (by omega)) z⟩
    | succ r ih =>
      intro j fu hj hf hq
      obtain ⟨q, rfl, -⟩ := fuS hf
      rw [f10_isWord_B24, gd_of (decide_eq_true hi), if_neg (show ¬ (sLen i ≤ i4 j) from fun z => by have := (i4_le (a := sN i) (by omega) (by omega)).mp z; omega), if_neg one_ne, ht.1, i4_add, M_chr h (by omega), sbind, gdi _ (by omega) (by omega), ix4 (by omega), ad1]
      by_cases c : chr n b (s + j) = sCh i j
      · rw [if_pos c]
        exact ih (j + 1) q (by omega) (by omega) (fun z hz => by
          by_cases e : z = j
          · rw [e]; exact c
          · exact hq z (by omega))
      · rw [if_neg c]
        refine ⟨0, ?_, fun z => absurd (z j (by omega)) c, fun _ => rfl⟩
        cases q with
        | zero => omega
        | succ q =>
          rw [f10_isWord_B24, gd_of (decide_eq_true hi), if_pos rfl]
          split <;> rfl
  unfold f10_isWord
  rw [gd_of (decide_eq_true hi), ht.1, ht.2, i4_sub hE.1]
  by_cases hl : tE n b s - s = sN i
  · rw [if_pos (show i4 (tE n b s - s) = sLen i by rw [hl]; rfl)]
    obtain ⟨v, e, p1, p2⟩ := key (sN i) 0 FU (by omega) (by omega) (fun q hq => absurd hq (Nat.not_lt_zero q))
    exact ⟨v, e, fun z => p1 z.2, fun z => p2 (fun z2 => z ⟨hl, z2⟩)⟩
  · rw [if_neg (show ¬ (i4 (tE n b s - s) = sLen i) from fun z => hl ((i4_eq (b := sN i) (by omega) (by omega)).mp z))]
    refine ⟨0, ?_, fun z => absurd z.1 hl, fun _ => rfl⟩
    rw [show FU = 4095 + 1 from rfl, f10_isWord_B24, gd_of (decide_eq_true hi), if_pos rfl]
    split <;> rfl
theorem isW_eq {i k s : Nat} (h : sB i = sB k) : isW n b i s ↔ isW n b k s := by
  unfold isW sN sCh
  rw [h]
end TO
