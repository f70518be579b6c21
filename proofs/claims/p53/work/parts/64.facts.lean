/-! the law's own system, and what follows of its joins, forecasts, ticks -/
def A0 : AS := (3, 2, 4, 5, fun i => [50, 20, 5].getD i 0, fun i => [40, 0, 10].getD i 0, fun i => [0, 2].getD i 0, fun i => [2, 8].getD i 8, fun i => [15, 8].getD i 0, fun i => [100, 500].getD i 0, fun i => [1000000, 1000000].getD i 0, fun i => [1000000, 0].getD i 0, fun i => [0, 1, 0, 1].getD i 0, fun i => [1, 2, 8, 8].getD i 8, fun i => [30, 12, 3, 2].getD i 0, fun i => [0, 0, 1, 2, 0].getD i 0)
theorem A0_C : AS_nC A0 = 3 := rfl
theorem A0_P : AS_nP A0 = 2 := rfl
theorem A0_V : AS_nV A0 = 4 := rfl
theorem A0_F : AS_nF A0 = 5 := rfl
theorem WF_A0 : WFs A0 := by
  unfold WFs
  decide +kernel
def mk4 (b0 b1 b2 b3 : Bool) (v : Nat) : Bool := if v = 0 then b0 else if v = 1 then b1 else if v = 2 then b2 else b3
def JN (b0 b1 b2 b3 : Bool) (c : Nat) : Int32 := rch A0 (mk4 b0 b1 b2 b3) c 8
theorem JN_of (m : Nat → Bool) (c : Nat) : rch A0 m c 8 = JN (m 0) (m 1) (m 2) (m 3) c := by
  refine rch_congr (fun v hv => ?_) c 8
  have hv' : v < 4 := hv
  rcases (show v = 0 ∨ v = 1 ∨ v = 2 ∨ v = 3 by omega) with rfl | rfl | rfl | rfl <;> rfl
theorem jn_self : ∀ b0 b1 b2 b3 : Bool, ∀ c, c < 3 → bit (JN b0 b1 b2 b3 c) c = true := by decide +kernel
theorem jn_self2 : ∀ b0 b1 b2 b3 : Bool, ∀ c, c < 3 → ¬ ((((JN b0 b1 b2 b3 c) &&& 255) >>> (i4 c &&& 31)) &&& 1 = 0) := by decide +kernel
theorem jn_sym : ∀ b0 b1 b2 b3 : Bool, ∀ c, c < 3 → ∀ y, y < 3 → (((JN b0 b1 b2 b3 c) &&& 255) >>> (i4 y &&& 31)) &&& 1 = (((JN b0 b1 b2 b3 y) &&& 255) >>> (i4 c &&& 31)) &&& 1 := by decide +kernel
theorem jn_vent : ∀ b0 b1 b2 b3 : Bool, ∀ c, c < 3 → ∀ y, y < 3 → (((JN b0 b1 b2 b3 c) &&& 255) >>> (i4 y &&& 31)) &&& 1 = 1 → bit (JN b0 b1 b2 b3 c) 8 = bit (JN b0 b1 b2 b3 y) 8 := by decide +kernel
theorem jn_alone : ∀ b0 b1 b2 b3 : Bool, ∀ c, c < 3 → (touV A0 c 0 && b0) = false → (touV A0 c 1 && b1) = false → (touV A0 c 2 && b2) = false → (touV A0 c 3 && b3) = false → (JN b0 b1 b2 b3 c) &&& 255 = (1 : Int32) <<< (i4 c &&& 31) := by decide +kernel
theorem jn_one : ∀ b0 b1 b2 b3 : Bool, ∀ c, c < 3 → (JN b0 b1 b2 b3 c) &&& 255 = (1 : Int32) <<< (i4 c &&& 31) → ∀ i, i < 3 → bit (JN b0 b1 b2 b3 c) i = decide (i = c) := by decide +kernel
def fwv (x y : Nat) : Int32 := firN (fun i => bit (rch A0 (bit ((1 <<< (i4 (AS_nV A0) &&& 31)) - 1)) x i) y) 9 0
theorem fwv_sym : ∀ x, x < 3 → ∀ y, y < 3 → fwv x y = fwv y x ∧ ¬ fwv x y < 0 := by decide +kernel
theorem Q_fewest {lY : LL} (hL : RCs A0 lY) {x y : Nat} (hx : x < 3) (hy : y < 3) : f9_fewestValves lY (i4 x) (i4 y) = some (fwv x y) := by
  have := FU_eq
  have hne : ¬ (i4 y = -1) := by rw [i4_ne_m1 (by omega)]; exact id
  have k := C_fewest0 WF_A0 hL (t := y) (by omega) rfl (c := x) 9 0 FU (by omega) (by omega)
  unfold f9_fewestValves f9_fewestValves_B43
  rw [C_hasC_y WF_A0 hL hx, sbind, if_neg one_ne, if_neg hne, C_hasC_y WF_A0 hL hy, sbind, if_neg one_ne, if_neg hne]
  exact k
/-! forecasts -/
section FORE
variable {a : AS}
theorem lws_le (c : Nat) : ∀ (n : Nat) (d : AD) (lo : Nat), lws a c n d lo ≤ lo := by
  intro n
  induction n with
  | zero => intro d lo; exact Nat.le_refl _
  | succ n ih =>
    intro d lo
    refine Nat.le_trans (ih _ _) ?_
    split <;> omega
theorem lws_k (c : Nat) : ∀ (n : Nat) (d : AD) (lo k : Nat), 1 ≤ k → k ≤ n → lws a c n d lo ≤ prz a (tkD a k d) c := by
  intro n
  induction n with
  | zero => intro d lo k h1 h2; omega
  | succ n ih =>
    intro d lo k h1 h2
    obtain ⟨j, rfl⟩ : ∃ j, k = j + 1 := ⟨k - 1, by omega⟩
    by_cases hj : j = 0
    · subst hj
      refine Nat.le_trans (lws_le c n _ _) ?_
      show (if _ then _ else _) ≤ prz a (tic a (d, 0)).1 c
      split <;> omega
    · exact ih (tic a (d, 0)).1 _ j (by omega) (by omega)
theorem lws_at (c : Nat) : ∀ (n : Nat) (d : AD) (lo : Nat), lws a c n d lo = lo ∨ ∃ k, k ≤ n ∧ lws a c n d lo = prz a (tkD a k d) c := by
  intro n
  induction n with
  | zero => intro d lo; exact Or.inl rfl
  | succ n ih =>
    intro d lo
    rcases ih (tic a (d, 0)).1 (if prz a (tic a (d, 0)).1 c < lo then prz a (tic a (d, 0)).1 c else lo) with h | ⟨k, h1, h2⟩
    · by_cases q : prz a (tic a (d, 0)).1 c < lo
      · rw [if_pos q] at h
        exact Or.inr ⟨1, by omega, by show lws a c n (tic a (d, 0)).1 _ = _; rw [if_pos q]; exact h⟩
      · rw [if_neg q] at h
        exact Or.inl (by show lws a c n (tic a (d, 0)).1 _ = _; rw [if_neg q]; exact h)
    · exact Or.inr ⟨k + 1, by omega, h2⟩
theorem low_at (c n : Nat) (d : AD) : ∃ k, k ≤ n ∧ lws a c n d (prz a d c) = prz a (tkD a k d) c := by
  rcases lws_at c n d (prz a d c) with h | h
  · exact ⟨0, by omega, h⟩
  · exact h
def smp (a : AS) (c : Nat) : Nat → AD → Nat
  | 0, _ => 0
  | n + 1, d => prz a (tic a (d, 0)).1 c + smp a c n (tic a (d, 0)).1
theorem mns_smp (c : Nat) : ∀ (n : Nat) (d : AD) (s : Nat), mns a c n d (i8 s) = i8 (s + smp a c n d) := by
  intro n
  induction n with
  | zero => intro d s; rfl
  | succ n ih =>
    intro d s
    show mns a c n (tic a (d, 0)).1 (i8 s + i8 (prz a (tic a (d, 0)).1 c)) = _
    rw [i8_add, ih, Nat.add_assoc]
    rfl
theorem smp_ge (c L : Nat) : ∀ (n : Nat) (d : AD), (∀ k, 1 ≤ k → k ≤ n → L ≤ prz a (tkD a k d) c) → L * n ≤ smp a c n d := by
  intro n
  induction n with
  | zero => intro d _; exact Nat.le_refl _
  | succ n ih =>
    intro d h
    have h1 := ih (tic a (d, 0)).1 (fun k k1 k2 => h (k + 1) (by omega) (by omega))
    have h2 : L ≤ prz a (tic a (d, 0)).1 c := h 1 (by omega) (by omega)
    show L * (n + 1) ≤ prz a (tic a (d, 0)).1 c + smp a c n (tic a (d, 0)).1
    rw [Nat.mul_succ]
    omega
theorem smp_le (hW : WFs a) {c : Nat} (hc : c < AS_nC a) : ∀ (n : Nat) (d : AD), WFd a d → smp a c n d ≤ 1000250000 * n := by
  intro n
  induction n with
  | zero => intro d _; exact Nat.le_refl _
  | succ n ih =>
    intro d hD
    have hD1 := WF_tic (s := (d, 0)) hW hD
    have h1 := ih (tic a (d, 0)).1 hD1
    have h2 := prz_le hW hD1 (e := c) (Or.inr hc)
    show prz a (tic a (d, 0)).1 c + smp a c n (tic a (d, 0)).1 ≤ 1000250000 * (n + 1)
    omega
theorem mean_law (hW : WFs a) {d : AD} (hD : WFd a d) {c n : Nat} (hc : c < AS_nC a) (h1 : 1 ≤ n) (h2 : n ≤ 999) :
    ¬ (Op.cmpValue (FP.dcmp (FP.ddiv (FP.l2d (mns a c n d 0)) (FP.i2d (i4 n))) (FP.i2d (i4 (lws a c n d (prz a d c))))) .g < 0) := by
  have e := mns_smp (a := a) c n d 0
  rw [Nat.zero_add] at e
  rw [show mns a c n d 0 = i8 (smp a c n d) from e]
  have h3 := smp_le hW hc n d hD
  have h4 := lws_le (a := a) c n d (prz a d c)
  have h5 := prz_le hW hD (e := c) (Or.inr hc)
  exact mean_cmp (by omega) h1 (by omega) (by omega) (smp_ge c _ n d (fun k k1 k2 => lws_k c n d _ k k1 k2))
/-! until a pressure is there -/
theorem unt_at (c to : Nat) : ∀ (r k n0 : Nat) (d : AD), k ≤ r → prz a (tkD a k d) c ≤ to → ∃ m, untN a c to r n0 d = some m ∧ n0 ≤ m.1 ∧ m.1 ≤ n0 + k ∧ prz a m.2 c ≤ to ∧ m.2 = tkD a (m.1 - n0) d := by
  intro r
  induction r with
  | zero =>
    intro k n0 d hk h
    obtain rfl : k = 0 := by omega
    refine ⟨(n0, d), ?_, Nat.le_refl _, Nat.le_refl _, h, by show d = tkD a (n0 - n0) d; rw [Nat.sub_self]; rfl⟩
    show (if prz a d c ≤ to then some (n0, d) else none) = _
    rw [if_pos (show prz a d c ≤ to from h)]
  | succ r ih =>
    intro k n0 d hk h
    by_cases q : prz a d c ≤ to
    · refine ⟨(n0, d), ?_, Nat.le_refl _, by show n0 ≤ _; omega, q, by show d = tkD a (n0 - n0) d; rw [Nat.sub_self]; rfl⟩
      show (if prz a d c ≤ to then some (n0, d) else _) = _
      rw [if_pos q]
    · obtain ⟨j, rfl⟩ : ∃ j, k = j + 1 := ⟨k - 1, by
        have : k ≠ 0 := fun e => q (by rw [e] at h; exact h)
        omega⟩
      obtain ⟨m, m1, m2, m3, m4, m5⟩ := ih j (n0 + 1) (tic a (d, 0)).1 (by omega) h
      refine ⟨m, ?_, by omega, by omega, m4, ?_⟩
      · show (if prz a d c ≤ to then some (n0, d) else _) = _
        rw [if_neg q]
        exact m1
      · rw [m5, show m.1 - n0 = (m.1 - (n0 + 1)) + 1 by omega]
        rfl
/-! the time -/
theorem tm_giv (c u : Nat) (d : AD) : AD_tm (giveN c u d) = AD_tm d := by unfold giveN; split <;> rfl
theorem tm_tak (c u : Nat) (d : AD) : AD_tm (takeN c u d) = AD_tm d := by unfold takeN; split <;> rfl
theorem tm_tic (d : AD) : AD_tm (tic a (d, 0)).1 = AD_tm d + 1 := by
  have h : AD_tm (tic0 a (d, 0)).1 = AD_tm d := by
    unfold tic0 ticP ticM ticG ticT
    have t1 : AD_tm (goN (trip1 a) (AS_nV a) 0 (d, 0)).1 = AD_tm d := goN_ind (P := fun (s : AD × Nat) => AD_tm s.1 = AD_tm d) rfl (fun i t _ _ h => by
      show AD_tm (trip1 a i t).1 = _
      unfold trip1
      split
      · exact h
      · exact h)
    have t2 : AD_tm (goN (gasIn1 a) (AS_nC a) 0 (goN (trip1 a) (AS_nV a) 0 (d, 0)).1) = AD_tm d := goN_ind (P := fun (s : AD) => AD_tm s = AD_tm d) t1 (fun i t _ _ h => h)
    have t3 : AD_tm (goN (move1 a) (AS_nV a) 0 (goN (gasIn1 a) (AS_nC a) 0 (goN (trip1 a) (AS_nV a) 0 (d, 0)).1)) = AD_tm d := goN_ind (P := fun (s : AD) => AD_tm s = AD_tm d) t2 (fun i t _ _ h => by
      show AD_tm (move1 a i t) = _
      unfold move1
      split
      · split <;> rw [tm_giv, tm_tak, h]
      · exact h)
    exact goN_ind (P := fun (s : AD × Nat) => AD_tm s.1 = AD_tm d) t3 (fun i t _ _ h => by
      show AD_tm (pump1 a i t).1 = _
      unfold pump1
      split
      · split
        · split
          · exact h
          · show AD_tm (giveN _ _ (takeN _ _ t.1)) = _
            rw [tm_giv, tm_tak, h]
        · exact h
      · exact h)
  show AD_tm (tic0 a (d, 0)).1 + 1 = _
  rw [h]
theorem tm_tkD : ∀ (n : Nat) (d : AD), AD_tm (tkD a n d) = AD_tm d + i8 n := by
  intro n
  induction n with
  | zero => intro d; exact (Int64.add_zero _).symm
  | succ n ih =>
    intro d
    show AD_tm (tkD a n (tic a (d, 0)).1) = _
    rw [ih, tm_tic, Int64.add_assoc, show (1 : Int64) = i8 1 from rfl, i8_add, Nat.add_comm]
theorem tm4 (d : AD) (n : Nat) : (AD_tm (tkD a n d)).toInt32 = (AD_tm d).toInt32 + i4 n := by
  rw [tm_tkD, Int64.toInt32_add, i8_to4]
end FORE
