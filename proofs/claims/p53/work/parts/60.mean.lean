/-! a mean is no less than the least -/
theorem qm64 : Jvm.FP.Core.b64.qmin = -1074 := by decide +kernel
theorem zd_of {x : Int64} {k : Nat} (hx : x = i8 k) (hk : k < 9007199254740992) : ∃ c q, Jvm.FP.Core.val64 (FP.l2d x) = .fin false c q ∧ -1074 ≤ q ∧ c * 2 ^ (q + 1074).toNat = k * 2 ^ 1074 := by
  have ht : x.toInt = k := by rw [hx]; exact i8_toInt (by omega)
  obtain ⟨c, q, e⟩ := Jvm.FP.Core.l2d_shape x
  have hf := Jvm.FP.Core.val64_fits (FP.l2d x)
  have hd : Jvm.FP.Core.DInt x.toInt (FP.l2d x) := Jvm.FP.Core.l2d_int (by rw [ht]; omega)
  have hz := Jvm.FP.Core.DInt_zval hd
  rw [show decide (x.toInt < 0) = false from decide_eq_false (by rw [ht]; omega)] at e
  have e' : Jvm.FP.Core.val64 (FP.l2d x) = .fin false c q := e
  rw [e'] at hf hz
  have hq : Jvm.FP.Core.b64.qmin ≤ q := hf.2.1
  rw [qm64] at hq
  refine ⟨c, q, e', hq, ?_⟩
  have h1 : ((c * 2 ^ (q - Jvm.FP.Core.b64.qmin).toNat : Nat) : Int) = x.toInt * (Jvm.FP.Core.one64 : Int) := hz
  rw [ht, qm64, show q - (-1074) = q + 1074 by omega, ← Int.natCast_mul] at h1
  exact Int.ofNat.inj h1
theorem mean_ge {S L n : Nat} (hS : S < 9007199254740992) (hn : 1 ≤ n) (hn2 : n < 2147483648) (hL : L < 2147483648) (h : L * n ≤ S) :
    FP.dcmp (FP.ddiv (FP.l2d (i8 S)) (FP.i2d (i4 n))) (FP.i2d (i4 L)) = some .gt ∨ FP.dcmp (FP.ddiv (FP.l2d (i8 S)) (FP.i2d (i4 n))) (FP.i2d (i4 L)) = some .eq := by
  have hbn : FP.i2d (i4 n) = FP.l2d (i8 n) := by
    rw [← i4_to8 hn2]; exact Jvm.FP.Core.i2d_l2d (i4 n)
  have hbL : FP.i2d (i4 L) = FP.l2d (i8 L) := by
    rw [← i4_to8 hL]; exact Jvm.FP.Core.i2d_l2d (i4 L)
  rw [hbn, hbL]
  obtain ⟨c1, q1, e1, k1, z1⟩ := zd_of (k := S) rfl hS
  obtain ⟨c2, q2, e2, k2, z2⟩ := zd_of (k := n) rfl (by omega)
  obtain ⟨c3, q3, e3, k3, z3⟩ := zd_of (k := L) rfl (by omega)
  have hv : Jvm.FP.Core.val64 (FP.ddiv (FP.l2d (i8 S)) (FP.l2d (i8 n))) = Jvm.FP.Core.quotient Jvm.FP.Core.b64 (Jvm.FP.Core.val64 (FP.l2d (i8 S))) (Jvm.FP.Core.val64 (FP.l2d (i8 n))) := Jvm.FP.Core.val64_ddiv _ _
  have hc2 : c2 ≠ 0 := fun q => by
    rw [q, Nat.zero_mul] at z2
    have := Nat.mul_pos (show 0 < n by omega) (Nat.two_pow_pos 1074)
    omega
  have hq : Jvm.FP.Core.quotient Jvm.FP.Core.b64 (.fin false c1 q1) (.fin false c2 q2) = Jvm.FP.Core.roundRatio Jvm.FP.Core.b64 false c1 c2 (q1 - q2) := by
    show (if c2 = 0 then _ else _) = _
    rw [if_neg hc2]
    rfl
  rw [e1, e2, hq] at hv
  have hnn : Jvm.FP.Core.val64 (FP.ddiv (FP.l2d (i8 S)) (FP.l2d (i8 n))) ≠ .nan := by
    rw [hv]; exact Jvm.FP.Core.roundRatio_ne_nan _ _ _ _ _
  refine Jvm.FP.Core.dcmp_ge.mpr ⟨hnn, ?_, ?_⟩
  · show Jvm.FP.Core.val64 (FP.l2d (i8 L)) ≠ .nan
    rw [e3]; exact Jvm.FP.Core.Datum.noConfusion
  · show Jvm.FP.Core.zval Jvm.FP.Core.b64 (Jvm.FP.Core.val64 (FP.l2d (i8 L))) ≤ Jvm.FP.Core.zval Jvm.FP.Core.b64 (Jvm.FP.Core.val64 (FP.ddiv (FP.l2d (i8 S)) (FP.l2d (i8 n))))
    have hf3 := Jvm.FP.Core.val64_fits (FP.l2d (i8 L))
    rw [e3] at hf3
    rw [hv, e3]
    have hg := Jvm.FP.Core.zmag_roundRatio_ge Jvm.FP.Core.good_b64 (s := false) (A := c1) (B := c2) (e := q1 - q2) (e0 := -1074 - (q2 + 1074)) (V := .fin false c3 q3) (by omega) hf3 (by rw [qm64]; omega) (by omega) (by
      show c3 * 2 ^ (q3 - Jvm.FP.Core.b64.qmin).toNat * 2 ^ (Jvm.FP.Core.b64.qmin - (-1074 - (q2 + 1074))).toNat * c2 ≤ c1 * 2 ^ (q1 - q2 - (-1074 - (q2 + 1074))).toNat
      rw [qm64, show q3 - (-1074) = q3 + 1074 by omega, z3, show (-1074 - (-1074 - (q2 + 1074))) = q2 + 1074 by omega, show (q1 - q2 - (-1074 - (q2 + 1074))).toNat = (q1 + 1074).toNat + 1074 by omega, Nat.pow_add, ← Nat.mul_assoc, z1, Nat.mul_assoc (L * 2 ^ 1074), Nat.mul_comm (2 ^ (q2 + 1074).toNat) c2, z2]
      have h2 := Nat.mul_le_mul_right (2 ^ 1074 * 2 ^ 1074) h
      have e4 : L * 2 ^ 1074 * (n * 2 ^ 1074) = L * n * (2 ^ 1074 * 2 ^ 1074) := by
        rw [Nat.mul_assoc L, Nat.mul_assoc L, ← Nat.mul_assoc (2 ^ 1074) n, Nat.mul_comm (2 ^ 1074) n, Nat.mul_assoc n]
      rw [e4, Nat.mul_assoc S]
      exact h2)
    have hs : Jvm.FP.Core.sgn (Jvm.FP.Core.roundRatio Jvm.FP.Core.b64 false c1 c2 (q1 - q2)) = false := Jvm.FP.Core.sgn_roundRatio _ _ _ _ _
    unfold Jvm.FP.Core.zval
    rw [hs]
    show ((_ : Nat) : Int) ≤ ((_ : Nat) : Int)
    exact Int.ofNat_le.mpr hg
theorem mean_cmp {S L n : Nat} (hS : S < 9007199254740992) (hn : 1 ≤ n) (hn2 : n < 2147483648) (hL : L < 2147483648) (h : L * n ≤ S) :
    ¬ (Op.cmpValue (FP.dcmp (FP.ddiv (FP.l2d (i8 S)) (FP.i2d (i4 n))) (FP.i2d (i4 L))) .g < 0) := by
  rcases mean_ge hS hn hn2 hL h with e | e <;> rw [e] <;> decide
