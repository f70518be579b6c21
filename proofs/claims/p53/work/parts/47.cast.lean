/-! the forecasts -/
theorem uF_id {n : Nat} {α : Type} (f : Fin n → α) (j : Fin n) : updF f j (f j) = f := by
  funext i
  by_cases h : i = j
  · rw [h, uF_self]
  · rw [uF_ne _ _ h]
def lws (a : AS) (c : Nat) : Nat → AD → Nat → Nat
  | 0, _, lo => lo
  | n + 1, d, lo => lws a c n (tic a (d, 0)).1 (if prz a (tic a (d, 0)).1 c < lo then prz a (tic a (d, 0)).1 c else lo)
def mns (a : AS) (c : Nat) : Nat → AD → Int64 → Int64
  | 0, _, s => s
  | n + 1, d, s => mns a c n (tic a (d, 0)).1 (s + i8 (prz a (tic a (d, 0)).1 c))
def ob (o : Option (Nat × Nat)) : Int32 := match o with
  | none => -1
  | some b => i4 b.1
def oq4 (o : Option (Nat × Nat)) : Int32 := match o with
  | none => 0
  | some b => i4 b.2
def oq8 (o : Option (Nat × Nat)) : Int64 := match o with
  | none => 0
  | some b => i8 b.2
section FC
variable {a : AS} {d : AD} {lY : LL} {tp : TP} {st : Fin 12 → SS} {w thought : Nat → Int64}
theorem cp_back (w t w1 : Nat → Int64) : ∀ k, k < 256 → cp256 (cp256 w t) w1 k = w k := fun k hk => by rw [cp256_lt _ _ hk, cp256_lt _ _ hk]
theorem C_lowest0 (hW : WFs a) (hL : RCs a lY) {c N : Nat} (hc : c < AS_nC a) (hN : N < 4000) : ∀ (n x fu lo : Nat) (d : AD) (st : Fin 12 → SS), WFd a d → RCd a d (st (TP_tr tp)) → x + n = N → n < fu → lo ≤ 1000250000 →
    ∃ S', f9_lowest_B51 lY tp fu st (i4 c) (i4 N) (i4 lo) (i4 x) = some ((i4 (lws a c n d lo)), updF st (TP_tr tp) S') ∧ SS_pressure S' 8 = i4 1000000 := by
  intro n
  have hC := hW.1
  induction n with
  | zero =>
    intro x fu lo d st hD hS hx hf hlo
    obtain ⟨q, rfl, -⟩ := fuS hf
    rw [f9_lowest_B51, if_pos ((i4_le (by omega) (by omega)).mpr (by omega))]
    exact ⟨st (TP_tr tp), by rw [uF_id]; rfl, hS.2.1.2⟩
  | succ n ih =>
    intro x fu lo d st hD hS hx hf hlo
    obtain ⟨q, rfl, -⟩ := fuS hf
    obtain ⟨S1, e1, h1⟩ := C_tick hW hD hL hS
    have hD1 := WF_tic (s := (d, 0)) hW hD
    have hp := prz_le hW hD1 (e := c) (Or.inr hc)
    rw [f9_lowest_B51, if_neg (fun h => by have := (i4_le (by omega) (by omega)).mp h; omega), e1, sbind, gdi _ (by omega) (by omega), ix4 (by omega)]
    dsimp only
    rw [C_pr h1 (Or.inr hc), i4_min (by omega) (by omega), ad1]
    obtain ⟨S', e2, h2⟩ := ih (x + 1) q (if prz a (tic a (d, 0)).1 c < lo then prz a (tic a (d, 0)).1 c else lo) _ (updF st (TP_tr tp) S1) hD1 (by rw [uF_self]; exact h1) (by omega) (by omega) (by split <;> omega)
    refine ⟨S', ?_, h2⟩
    rw [e2, uF_two]
    rfl
/-! the mean -/
theorem nn_iff (x : UInt64) : nn64 x = true ↔ Jvm.FP.Core.dIsNaN x = false := by
  have h1 : (x &&& 0x7fffffffffffffff).toNat = x.toNat % 2 ^ 63 := by
    rw [UInt64.toNat_and]
    exact Nat.and_two_pow_sub_one_eq_mod x.toNat 63
  unfold nn64
  rw [decide_eq_true_iff, UInt64.le_iff_toNat_le, h1, show (0x7ff0000000000000 : UInt64).toNat = 9218868437227405312 from rfl]
  have h2 := Jvm.FP.Core.isNaN_bits x
  cases q : Jvm.FP.Core.dIsNaN x with
  | true => exact ⟨fun h => absurd (h2.mp q) (by omega), fun h => absurd h (by decide)⟩
  | false =>
    refine ⟨fun _ => rfl, fun _ => ?_⟩
    refine Nat.le_of_not_lt (fun h => ?_)
    rw [h2.mpr h] at q
    exact absurd q (by decide)
theorem mean_ok (s : Int64) {n : Nat} (h1 : 1 ≤ n) (h2 : n ≤ 999) : Jvm.FP.Core.dIsNaN (FP.ddiv (FP.l2d s) (FP.i2d (i4 n))) = false := by
  refine Jvm.FP.Core.ddiv_out (Jvm.FP.Core.l2d_fin s).notNaN (Jvm.FP.Core.i2d_fin (i4 n)) (fun h => ?_)
  have h3 : i4 n ≠ 0 := fun e => by have := (i4_eq (b := 0) (by omega) (by omega)).mp e; omega
  exact Jvm.FP.Core.i2d_ne_zero h3 ((Jvm.FP.Core.zero_bits2 _).mp h)
theorem mean_eq {x : UInt64} (h : Jvm.FP.Core.dIsNaN x = false) : Op.cmpValue (FP.dcmp x x) .l = 0 := by
  have e : FP.dcmp x x = some .eq := Jvm.FP.Core.dcmp_self ((Jvm.FP.Core.notNaN_iff x).mp h)
  rw [e]
  rfl
theorem C_mean0 (hW : WFs a) (hL : RCs a lY) {c N : Nat} (hc : c < AS_nC a) (h1N : 1 ≤ N) (hN : N ≤ 999) : ∀ (n x fu : Nat) (s : Int64) (d : AD) (st : Fin 12 → SS), WFd a d → RCd a d (st (TP_tr tp)) → x + n = N → n < fu →
    ∃ S', f9_meanPressure_B43 lY tp fu st (i4 c) (i4 N) s (i4 x) = some ((FP.ddiv (FP.l2d (mns a c n d s)) (FP.i2d (i4 N))), updF st (TP_tr tp) S') ∧ SS_pressure S' 8 = i4 1000000 := by
  intro n
  have hC := hW.1
  induction n with
  | zero =>
    intro x fu s d st hD hS hx hf
    obtain ⟨q, rfl, -⟩ := fuS hf
    rw [f9_meanPressure_B43, if_pos ((i4_le (by omega) (by omega)).mpr (by omega)), gd_of ((nn_iff _).mpr (mean_ok s h1N hN))]
    exact ⟨st (TP_tr tp), by rw [uF_id]; rfl, hS.2.1.2⟩
  | succ n ih =>
    intro x fu s d st hD hS hx hf
    obtain ⟨q, rfl, -⟩ := fuS hf
    obtain ⟨S1, e1, h1⟩ := C_tick hW hD hL hS
    have hD1 := WF_tic (s := (d, 0)) hW hD
    have hp := prz_le hW hD1 (e := c) (Or.inr hc)
    rw [f9_meanPressure_B43, if_neg (fun h => by have := (i4_le (by omega) (by omega)).mp h; omega), e1, sbind, gdi _ (by omega) (by omega), ix4 (by omega)]
    dsimp only
    rw [C_pr h1 (Or.inr hc), i4_to8 (by omega), ad1]
    obtain ⟨S', e2, h2⟩ := ih (x + 1) q (s + i8 (prz a (tic a (d, 0)).1 c)) _ (updF st (TP_tr tp) S1) hD1 (by rw [uF_self]; exact h1) (by omega) (by omega)
    refine ⟨S', ?_, h2⟩
    rw [e2, uF_two]
    rfl
end FC

