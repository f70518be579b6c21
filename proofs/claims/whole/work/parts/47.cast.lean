/-! the forecasts -/
def GOODf (a : AS) (d : AD) (lY : LL) (tp : TP) (mu : MU) (r1 : Int32 × (Fin 12 → SS) × (Nat → Int64)) (r2 : Int32 × (Nat → Int64) × (Nat → Int64) × (Int32)) : Prop :=
  r2.2.2.2 = r1.1 ∧ (r1.1 = 0 → r1.2.2 (ix 0) = r2.1.toInt64) ∧ INVd a d lY tp r1.2.1 r2.2.1 mu
theorem uF_id {n : Nat} {α : Type} (f : Fin n → α) (j : Fin n) : updF f j (f j) = f := by
  funext i
  by_cases h : i = j
  · rw [h, uF_self]
  · rw [uF_ne _ _ h]
def lws (a : AS) (c : Nat) : Nat → AD → Nat → Nat
  | 0, _, lo => lo
  | n + 1, d, lo => lws a c n (tic a (d, 0)).1 (if prz a (tic a (d, 0)).1 c < lo then prz a (tic a (d, 0)).1 c else lo)
def mns (a : AS) (c : Nat) : Nat → AD → Int64 → Int64
  | 0, _, s => s
  | n + 1, d, s => mns a c n (tic a (d, 0)).1 (s + i8 (prz a (tic a (d, 0)).1 c))
def bs1 (g : Nat → Option Nat) (v : Nat) (o : Option (Nat × Nat)) : Option (Nat × Nat) := match g v with
  | none => o
  | some p => match o with
    | none => some (v, p)
    | some b => if p < b.2 then some (v, p) else some b
def ob (o : Option (Nat × Nat)) : Int32 := match o with
  | none => -1
  | some b => i4 b.1
def oq4 (o : Option (Nat × Nat)) : Int32 := match o with
  | none => 0
  | some b => i4 b.2
def oq8 (o : Option (Nat × Nat)) : Int64 := match o with
  | none => 0
  | some b => i8 b.2
section FC
variable {a : AS} {d : AD} {lY : LL} {tp : TP} {st : Fin 12 → SS} {w thought : Nat → Int64} {mu : MU} {th : Int32} {ou : Nat → Int64}
theorem WK (hI : INVd a d lY tp st w mu) {S' : SS} (h8 : SS_pressure S' 8 = i4 1000000) {w' : Nat → Int64} (h : ∀ k, k < 256 → w' k = w k) : INVd a d lY tp (updF st (TP_tr tp) S') w' mu := by
  obtain ⟨i1, hA, hB, i4, i5, i6⟩ := SCR hI h8
  exact ⟨i1, RMs_256 i1.1 hA h, RMd_256 i1.1 i1.2.1 hB h, i4, i5, i6⟩
theorem NO_f {X1 : Option (Int32 × (Fin 12 → SS) × (Nat → Int64))} {X2 : Option (Int32 × (Nat → Int64) × (Nat → Int64) × (Int32))} {st' : Fin 12 → SS} {w' t' : Nat → Int64} (c : Int32) (hc : c ≠ 0) (hI : INVd a d lY tp st' w' mu) (h1 : X1 = some (c, st', ou)) (h2 : X2 = some (0, w', t', c)) : ∃ r1 r2, X1 = some r1 ∧ X2 = some r2 ∧ GOODf a d lY tp mu r1 r2 :=
  ⟨_, _, h1, h2, rfl, fun h => absurd h hc, hI⟩
theorem YES_f {X1 : Option (Int32 × (Fin 12 → SS) × (Nat → Int64))} {X2 : Option (Int32 × (Nat → Int64) × (Nat → Int64) × (Int32))} {st' : Fin 12 → SS} {w' t' : Nat → Int64} (v : Int32) (hI : INVd a d lY tp st' w' mu) (h1 : X1 = some (0, st', vp_updL ou (ix 0) v.toInt64)) (h2 : X2 = some (v, w', t', 0)) : ∃ r1 r2, X1 = some r1 ∧ X2 = some r2 ∧ GOODf a d lY tp mu r1 r2 :=
  ⟨_, _, h1, h2, rfl, fun _ => show vp_updL ou (ix 0) v.toInt64 (ix 0) = v.toInt64 from updL_self _ _ _, hI⟩
theorem look_y (hW : WFs a) (hA : RMs a w) {v n : Nat} (hv : v < AS_nC a) (h1 : 1 ≤ n) (h2 : n ≤ 999) : f10_isNoLook w th (i4 v) (i4 n) = some (0, 0) := by
  unfold f10_isNoLook
  rw [M_isC_y hW hA hv, sbind, fails_y, sbind]
  dsimp only
  rw [if_pos rfl, M_isTicks_y h1 h2, sbind, fails_y, sbind]
  dsimp only
  rw [if_pos rfl]
theorem look_n1 (hW : WFs a) (hA : RMs a w) {x y : Int32} (hx : ¬ (0 ≤ x.toInt ∧ x.toInt < AS_nC a)) : f10_isNoLook w th x y = some (1, 1) := by
  unfold f10_isNoLook
  rw [M_isC_n hW hA hx, sbind, fails_n, sbind]
  dsimp only
  rw [if_neg one_ne]
theorem look_n2 (hW : WFs a) (hA : RMs a w) {v : Nat} (hv : v < AS_nC a) {y : Int32} (hy : ¬ (1 ≤ y.toInt ∧ y.toInt ≤ 999)) : f10_isNoLook w th (i4 v) y = some (1, 2) := by
  unfold f10_isNoLook
  rw [M_isC_y hW hA hv, sbind, fails_y, sbind]
  dsimp only
  rw [if_pos rfl, M_isTicks_n hy, sbind, fails_n, sbind]
  dsimp only
  rw [if_neg one_ne]
theorem M_think (w t : Nat → Int64) : f10_think w t = some (cp256 w t) := by
  unfold f10_think
  rw [M_cp_w_thought, sbind]
theorem M_wake (t w : Nat → Int64) : f10_wake t w = some (cp256 t w) := by
  unfold f10_wake
  rw [M_cp_thought_w, sbind]
theorem cp_back (w t w1 : Nat → Int64) : ∀ k, k < 256 → cp256 (cp256 w t) w1 k = w k := fun k hk => by rw [cp256_lt _ _ hk, cp256_lt _ _ hk]
theorem M_prIn (hW : WFs a) (hD : WFd a d) (hA : RMs a w) (hB : RMd a d w) {c n : Nat} (hc : c < AS_nC a) (hn : n ≤ 4000) : ∃ w', f10_pressureIn w (i4 c) (i4 n) = some (i8 (prz a (tkD a n d) c), w') ∧ RMs a w' ∧ RMd a (tkD a n d) w' := by
  obtain ⟨w1, e, a1, b1⟩ := M_pass hW hD hA hB hn
  rw [tks_tkD] at b1
  refine ⟨w1, ?_, a1, b1⟩
  unfold f10_pressureIn
  rw [e, sbind]
  dsimp only
  rw [M_prc hW (WF_tkD hW n d hD) a1 b1 hc, sbind]
theorem S_pressureAfter (hI : INVd a d lY tp st w mu) (x y : Int32) : ∃ r1 r2, fL_pressureAfter lY tp st ou x y = some r1 ∧ f10_pressureAfter w thought th x y = some r2 ∧ GOODf a d lY tp mu r1 r2 := by
  have hI' := hI
  obtain ⟨⟨hW, hD, hL, hS⟩, hA, hB, -⟩ := hI'
  have hN := hW.1
  have := FU_eq
  rcases in_cases x (AS_nC a) with ⟨v, hv, hv2, rfl⟩ | hx
  · rcases ticks_cases y with ⟨n, hn1, hn2, rfl⟩ | hy
    · obtain ⟨S0, e0, r0⟩ := C_begin hI
      obtain ⟨S1, e1, hS1⟩ := C_pass hW hD hL r0 (N := n) (by omega)
      rw [tks_tkD] at hS1
      obtain ⟨w1, e2, hA1, hB1⟩ := M_prIn hW hD hA hB hv (n := n) (by omega)
      refine YES_f (ou := ou) (t' := cp256 w thought) (i4 (prz a (tkD a n d) v)) (WK hI hS1.2.1.2 (cp_back w thought w1)) ?_ ?_
      · unfold fL_pressureAfter f9_pressureAfter
        rw [C_hasC_y hW hL hv, sbind, if_neg one_ne, C_isTicks_y hn1 hn2, sbind, if_neg one_ne, e0, sbind, uF_self, e1, sbind, gdi _ (by omega) (by omega), ix4 (by omega), uF_two, C_pr hS1 (Or.inr hv)]
        rfl
      · unfold f10_pressureAfter
        rw [look_y hW hA hv hn1 hn2, sbind]
        dsimp only
        rw [if_pos rfl, M_think, sbind, e2, sbind]
        dsimp only
        rw [M_wake, sbind, i8_to4]
    · refine NO_f (ou := ou) (t' := thought) 2 (by decide) hI ?_ ?_
      · unfold fL_pressureAfter f9_pressureAfter
        rw [C_hasC_y hW hL hv, sbind, if_neg one_ne, C_isTicks_n hy, sbind, if_pos rfl]
        rfl
      · unfold f10_pressureAfter
        rw [look_n2 hW hA hv hy, sbind]
        dsimp only
        rw [if_neg one_ne]
  · refine NO_f (ou := ou) (t' := thought) 1 (by decide) hI ?_ ?_
    · unfold fL_pressureAfter f9_pressureAfter
      rw [C_hasC_n hW hL hx, sbind, if_pos rfl]
      rfl
    · unfold f10_pressureAfter
      rw [look_n1 hW hA hx, sbind]
      dsimp only
      rw [if_neg one_ne]
theorem C_lowest0 (hW : WFs a) (hL : RCs a lY) {c N : Nat} (hc : c < AS_nC a) (hN : N < 4000) : ∀ (n x fu lo : Nat) (d : AD) (st : Fin 12 → SS), WFd a d → RCd a d (st (TP_tr tp)) → x + n = N → n < fu → lo ≤ 1000250000 →
    ∃ S', f9_lowest_B51 lY tp fu st (i4 c) (i4 N) (i4 lo) (i4 x) = some (.inl (i4 (lws a c n d lo)), updF st (TP_tr tp) S') ∧ SS_pressure S' 8 = i4 1000000 := by
  intro n
  have hC := hW.1
  induction n with
  | zero =>
    intro x fu lo d st hD hS hx hf hlo
    obtain ⟨q, rfl, -⟩ := fuS hf
    rw [f9_lowest_B51, if_pos ((i4_le (by omega) (by omega)).mpr (by omega))]
    exact ⟨st (TP_tr tp), by rw [uF_id]; rfl, hS.2.1.2⟩
  | succ n ih =>
    intro x fu lo d st hD hS hx hf hlo
    obtain ⟨q, rfl, -⟩ := fuS hf
    obtain ⟨S1, e1, h1⟩ := C_tick hW hD hL hS
    have hD1 := WF_tic (s := (d, 0)) hW hD
    have hp := prz_le hW hD1 (e := c) (Or.inr hc)
    rw [f9_lowest_B51, if_neg (fun h => by have := (i4_le (by omega) (by omega)).mp h; omega), e1, sbind, gdi _ (by omega) (by omega), ix4 (by omega)]
    dsimp only
    rw [C_pr h1 (Or.inr hc), i4_min (by omega) (by omega), ad1]
    obtain ⟨S', e2, h2⟩ := ih (x + 1) q (if prz a (tic a (d, 0)).1 c < lo then prz a (tic a (d, 0)).1 c else lo) _ (updF st (TP_tr tp) S1) hD1 (by rw [uF_self]; exact h1) (by omega) (by omega) (by split <;> omega)
    refine ⟨S', ?_, h2⟩
    rw [e2, uF_two]
    rfl
theorem M_lowest0 (hW : WFs a) {c N : Nat} (hc : c < AS_nC a) (hN : N < 4000) : ∀ (n x fu lo : Nat) (d : AD) (w : Nat → Int64), WFd a d → RMs a w → RMd a d w → x + n = N → n < fu → lo ≤ 1000250000 →
    ∃ w1, f10_lowest_B24 fu w thought th (i4 c) (i4 N) (i8 lo) (i4 x) = some (i4 (lws a c n d lo), cp256 thought w1, thought, th) := by
  intro n
  have hC := hW.1
  induction n with
  | zero =>
    intro x fu lo d w hD hA hB hx hf hlo
    obtain ⟨q, rfl, -⟩ := fuS hf
    rw [f10_lowest_B24, if_pos ((i4_le (by omega) (by omega)).mpr (by omega)), M_wake, sbind, i8_to4]
    exact ⟨w, rfl⟩
  | succ n ih =>
    intro x fu lo d w hD hA hB hx hf hlo
    obtain ⟨q, rfl, -⟩ := fuS hf
    obtain ⟨w1, e1, a1, b1⟩ := M_prIn hW hD hA hB hc (n := 1) (by omega)
    have hD1 := WF_tic (s := (d, 0)) hW hD
    have hp := prz_le hW hD1 (e := c) (Or.inr hc)
    rw [f10_lowest_B24, if_neg (fun h => by have := (i4_le (by omega) (by omega)).mp h; omega), show f10_pressureIn w (i4 c) 1 = _ from e1, sbind]
    dsimp only
    rw [show prz a (tkD a 1 d) c = prz a (tic a (d, 0)).1 c from rfl, i8_min (by omega) (by omega), ad1]
    exact ih (x + 1) q _ _ w1 hD1 a1 b1 (by omega) (by omega) (by split <;> omega)
theorem S_lowest (hI : INVd a d lY tp st w mu) (x y : Int32) : ∃ r1 r2, fL_lowest lY tp st ou x y = some r1 ∧ f10_lowest w thought th x y = some r2 ∧ GOODf a d lY tp mu r1 r2 := by
  have hI' := hI
  obtain ⟨⟨hW, hD, hL, hS⟩, hA, hB, -⟩ := hI'
  have hN := hW.1
  have := FU_eq
  rcases in_cases x (AS_nC a) with ⟨v, hv, hv2, rfl⟩ | hx
  · rcases ticks_cases y with ⟨n, hn1, hn2, rfl⟩ | hy
    · obtain ⟨S0, e0, r0⟩ := C_begin hI
      have hp := prz_le hW hD (e := v) (Or.inr hv)
      obtain ⟨S1, e1, h8⟩ := C_lowest0 (tp := tp) hW hL hv (N := n) (by omega) n 0 FU (prz a d v) d (updF st (TP_tr tp) S0) hD (by rw [uF_self]; exact r0) (by omega) (by omega) hp
      obtain ⟨w1, e2⟩ := M_lowest0 (th := 0) (thought := cp256 w thought) hW hv (N := n) (by omega) n 0 FU (prz a d v) d w hD hA hB (by omega) (by omega) hp
      refine YES_f (ou := ou) (t' := cp256 w thought) (i4 (lws a v n d (prz a d v))) (WK hI h8 (cp_back w thought w1)) ?_ ?_
      · unfold fL_lowest f9_lowest
        rw [C_hasC_y hW hL hv, sbind, if_neg one_ne, C_isTicks_y hn1 hn2, sbind, if_neg one_ne, e0, sbind, gdi _ (by omega) (by omega), ix4 (by omega), uF_self, C_pr r0 (Or.inr hv), show f9_lowest_B51 lY tp FU _ _ _ _ 0 = _ from e1, uF_two]
        rfl
      · unfold f10_lowest
        rw [look_y hW hA hv hn1 hn2, sbind]
        dsimp only
        rw [if_pos rfl, M_think, sbind, M_prc hW hD hA hB hv, sbind]
        exact e2
    · refine NO_f (ou := ou) (t' := thought) 2 (by decide) hI ?_ ?_
      · unfold fL_lowest f9_lowest
        rw [C_hasC_y hW hL hv, sbind, if_neg one_ne, C_isTicks_n hy, sbind, if_pos rfl]
        rfl
      · unfold f10_lowest
        rw [look_n2 hW hA hv hy, sbind]
        dsimp only
        rw [if_neg one_ne]
  · refine NO_f (ou := ou) (t' := thought) 1 (by decide) hI ?_ ?_
    · unfold fL_lowest f9_lowest
      rw [C_hasC_n hW hL hx, sbind, if_pos rfl]
      rfl
    · unfold f10_lowest
      rw [look_n1 hW hA hx, sbind]
      dsimp only
      rw [if_neg one_ne]
theorem S_ticksTo (hI : INVd a d lY tp st w mu) (x y : Int32) : ∃ r1 r2, fL_ticksTo lY tp st ou x y = some r1 ∧ f10_ticksTo w thought th x y = some r2 ∧ GOODf a d lY tp mu r1 r2 := by
  have hI' := hI
  obtain ⟨⟨hW, hD, hL, hS⟩, hA, hB, -⟩ := hI'
  have hN := hW.1
  have := FU_eq
  rcases in_cases x (AS_nC a) with ⟨v, hv, hv2, rfl⟩ | hx
  · rcases upto_cases y 1000000 with ⟨q, hq, hq2, rfl⟩ | hy
    · obtain ⟨S0, e0, r0⟩ := C_begin hI
      obtain ⟨S1, e1, p8, hS1⟩ := C_unt hW hD hL r0 hv hq
      obtain ⟨w1, e2, hw1⟩ := M_unt hW hD hA hB hv hq
      cases hu : untN a v q 999 0 d with
      | none =>
        rw [hu] at e1 e2
        refine NO_f (ou := ou) (t' := cp256 w thought) 3 (by decide) (WK hI p8 (cp_back w thought w1)) ?_ ?_
        · unfold fL_ticksTo f9_ticksTo
          rw [C_hasC_y hW hL hv, sbind, if_neg one_ne, C_isPressure_y hq, sbind, if_neg one_ne, e0, sbind, uF_self, e1, sbind, uF_two]
          rfl
        · unfold f10_ticksTo
          rw [M_isC_y hW hA hv, sbind, fails_y, sbind]
          dsimp only
          rw [if_pos rfl, M_isPressure_y hq, sbind, fails_y, sbind]
          dsimp only
          rw [if_pos rfl, M_think, sbind, e2, sbind]
          dsimp only
          rw [M_wake, sbind]
          rfl
      | some m =>
        rw [hu] at e1 e2
        obtain ⟨hD', -, hm⟩ := WF_unt hW 999 0 d hD m.1 m.2 hu
        have hne : ¬ (ansN (some m) = -1) := show ¬ (i4 m.1 = -1) by rw [i4_ne_m1 (by omega)]; exact id
        refine YES_f (ou := ou) (t' := cp256 w thought) (ansN (some m)) (WK hI p8 (cp_back w thought w1)) ?_ ?_
        · unfold fL_ticksTo f9_ticksTo
          rw [C_hasC_y hW hL hv, sbind, if_neg one_ne, C_isPressure_y hq, sbind, if_neg one_ne, e0, sbind, uF_self, e1, sbind, uF_two]
          dsimp only
          rw [if_neg hne]
          rfl
        · unfold f10_ticksTo
          rw [M_isC_y hW hA hv, sbind, fails_y, sbind]
          dsimp only
          rw [if_pos rfl, M_isPressure_y hq, sbind, fails_y, sbind]
          dsimp only
          rw [if_pos rfl, M_think, sbind, e2, sbind]
          dsimp only
          rw [M_wake, sbind, if_neg hne, show f10_fails 0 0 3 = some (0, 0) from rfl, sbind]
          rfl
    · refine NO_f (ou := ou) (t' := thought) 2 (by decide) hI ?_ ?_
      · unfold fL_ticksTo f9_ticksTo
        rw [C_hasC_y hW hL hv, sbind, if_neg one_ne, C_isPressure_n hy, sbind, if_pos rfl]
        rfl
      · unfold f10_ticksTo
        rw [M_isC_y hW hA hv, sbind, fails_y, sbind]
        dsimp only
        rw [if_pos rfl, M_isPressure_n hy, sbind, fails_n, sbind]
        dsimp only
        rw [if_neg one_ne]
  · refine NO_f (ou := ou) (t' := thought) 1 (by decide) hI ?_ ?_
    · unfold fL_ticksTo f9_ticksTo
      rw [C_hasC_n hW hL hx, sbind, if_pos rfl]
      rfl
    · unfold f10_ticksTo
      rw [M_isC_n hW hA hx, sbind, fails_n, sbind]
      dsimp only
      rw [if_neg one_ne]
theorem S_tripsIn (hI : INVd a d lY tp st w mu) (x : Int32) : ∃ r1 r2, fL_tripsIn lY tp st ou x = some r1 ∧ f10_tripsIn w thought th x = some r2 ∧ GOODf a d lY tp mu r1 r2 := by
  have hI' := hI
  obtain ⟨⟨hW, hD, hL, hS⟩, hA, hB, -⟩ := hI'
  rcases ticks_cases x with ⟨n, hn1, hn2, rfl⟩ | hx
  · obtain ⟨S0, e0, r0⟩ := C_begin hI
    obtain ⟨S1, e1, hS1⟩ := C_pass hW hD hL r0 (N := n) (by omega)
    obtain ⟨w1, e2, hA1, hB1⟩ := M_pass hW hD hA hB (N := n) (by omega)
    refine YES_f (ou := ou) (t' := cp256 w thought) (i4 (tksN a n (d, 0)).2) (WK hI hS1.2.1.2 (cp_back w thought w1)) ?_ ?_
    · unfold fL_tripsIn f9_tripsIn
      rw [C_isTicks_y hn1 hn2, sbind, if_neg one_ne, e0, sbind, uF_self, e1, sbind, uF_two]
      rfl
    · unfold f10_tripsIn
      rw [M_isTicks_y hn1 hn2, sbind, fails_y, sbind]
      dsimp only
      rw [if_pos rfl, M_think, sbind, e2, sbind]
      dsimp only
      rw [M_wake, sbind]
  · refine NO_f (ou := ou) (t' := thought) 1 (by decide) hI ?_ ?_
    · unfold fL_tripsIn f9_tripsIn
      rw [C_isTicks_n hx, sbind, if_pos rfl]
      rfl
    · unfold f10_tripsIn
      rw [M_isTicks_n hx, sbind, fails_n, sbind]
      dsimp only
      rw [if_neg one_ne]
/-! the mean -/
theorem nn_iff (x : UInt64) : nn64 x = true ↔ Jvm.FP.Core.dIsNaN x = false := by
  have h1 : (x &&& 0x7fffffffffffffff).toNat = x.toNat % 2 ^ 63 := by
    rw [UInt64.toNat_and]
    exact Nat.and_two_pow_sub_one_eq_mod x.toNat 63
  unfold nn64
  rw [decide_eq_true_iff, UInt64.le_iff_toNat_le, h1, show (0x7ff0000000000000 : UInt64).toNat = 9218868437227405312 from rfl]
  have h2 := Jvm.FP.Core.isNaN_bits x
  cases q : Jvm.FP.Core.dIsNaN x with
  | true => exact ⟨fun h => absurd (h2.mp q) (by omega), fun h => absurd h (by decide)⟩
  | false =>
    refine ⟨fun _ => rfl, fun _ => ?_⟩
    refine Nat.le_of_not_lt (fun h => ?_)
    rw [h2.mpr h] at q
    exact absurd q (by decide)
theorem mean_ok (s : Int64) {n : Nat} (h1 : 1 ≤ n) (h2 : n ≤ 999) : Jvm.FP.Core.dIsNaN (FP.ddiv (FP.l2d s) (FP.i2d (i4 n))) = false := by
  refine Jvm.FP.Core.ddiv_out (Jvm.FP.Core.l2d_fin s).notNaN (Jvm.FP.Core.i2d_fin (i4 n)) (fun h => ?_)
  have h3 : i4 n ≠ 0 := fun e => by have := (i4_eq (b := 0) (by omega) (by omega)).mp e; omega
  exact Jvm.FP.Core.i2d_ne_zero h3 ((Jvm.FP.Core.zero_bits2 _).mp h)
theorem mean_eq {x : UInt64} (h : Jvm.FP.Core.dIsNaN x = false) : Op.cmpValue (FP.dcmp x x) .l = 0 := by
  have e : FP.dcmp x x = some .eq := Jvm.FP.Core.dcmp_self ((Jvm.FP.Core.notNaN_iff x).mp h)
  rw [e]
  rfl
theorem C_mean0 (hW : WFs a) (hL : RCs a lY) {c N : Nat} (hc : c < AS_nC a) (h1N : 1 ≤ N) (hN : N ≤ 999) : ∀ (n x fu : Nat) (s : Int64) (d : AD) (st : Fin 12 → SS), WFd a d → RCd a d (st (TP_tr tp)) → x + n = N → n < fu →
    ∃ S', f9_meanPressure_B43 lY tp fu st (i4 c) (i4 N) s (i4 x) = some (.inl (FP.ddiv (FP.l2d (mns a c n d s)) (FP.i2d (i4 N))), updF st (TP_tr tp) S') ∧ SS_pressure S' 8 = i4 1000000 := by
  intro n
  have hC := hW.1
  induction n with
  | zero =>
    intro x fu s d st hD hS hx hf
    obtain ⟨q, rfl, -⟩ := fuS hf
    rw [f9_meanPressure_B43, if_pos ((i4_le (by omega) (by omega)).mpr (by omega)), gd_of ((nn_iff _).mpr (mean_ok s h1N hN))]
    exact ⟨st (TP_tr tp), by rw [uF_id]; rfl, hS.2.1.2⟩
  | succ n ih =>
    intro x fu s d st hD hS hx hf
    obtain ⟨q, rfl, -⟩ := fuS hf
    obtain ⟨S1, e1, h1⟩ := C_tick hW hD hL hS
    have hD1 := WF_tic (s := (d, 0)) hW hD
    have hp := prz_le hW hD1 (e := c) (Or.inr hc)
    rw [f9_meanPressure_B43, if_neg (fun h => by have := (i4_le (by omega) (by omega)).mp h; omega), e1, sbind, gdi _ (by omega) (by omega), ix4 (by omega)]
    dsimp only
    rw [C_pr h1 (Or.inr hc), i4_to8 (by omega), ad1]
    obtain ⟨S', e2, h2⟩ := ih (x + 1) q (s + i8 (prz a (tic a (d, 0)).1 c)) _ (updF st (TP_tr tp) S1) hD1 (by rw [uF_self]; exact h1) (by omega) (by omega)
    refine ⟨S', ?_, h2⟩
    rw [e2, uF_two]
    rfl
theorem M_mean0 (hW : WFs a) {c N : Nat} (hc : c < AS_nC a) (h1N : 1 ≤ N) (hN : N ≤ 999) : ∀ (n x fu : Nat) (s : Int64) (d : AD) (w : Nat → Int64), WFd a d → RMs a w → RMd a d w → x + n = N → n < fu →
    ∃ w1, f10_meanPressure_B20 fu w thought th (i4 c) (i4 N) s (i4 x) = some (FP.ddiv (FP.l2d (mns a c n d s)) (FP.i2d (i4 N)), cp256 thought w1, thought, th) := by
  intro n
  have hC := hW.1
  induction n with
  | zero =>
    intro x fu s d w hD hA hB hx hf
    obtain ⟨q, rfl, -⟩ := fuS hf
    rw [f10_meanPressure_B20, if_pos ((i4_le (by omega) (by omega)).mpr (by omega)), M_wake, sbind, gd_of ((nn_iff _).mpr (mean_ok s h1N hN))]
    exact ⟨w, rfl⟩
  | succ n ih =>
    intro x fu s d w hD hA hB hx hf
    obtain ⟨q, rfl, -⟩ := fuS hf
    obtain ⟨w1, e1, a1, b1⟩ := M_prIn hW hD hA hB hc (n := 1) (by omega)
    have hD1 := WF_tic (s := (d, 0)) hW hD
    rw [f10_meanPressure_B20, if_neg (fun h => by have := (i4_le (by omega) (by omega)).mp h; omega), show f10_pressureIn w (i4 c) 1 = _ from e1, sbind]
    dsimp only
    rw [ad1]
    exact ih (x + 1) q _ _ w1 hD1 a1 b1 (by omega) (by omega)
theorem S_meanPressure {od : Nat → UInt64} (hI : INVd a d lY tp st w mu) (x y : Int32) : ∃ r1 r2, fL_meanPressure lY tp st od x y = some r1 ∧ f10_meanPressure w thought th x y = some r2 ∧ r2.2.2.2 = r1.1 ∧ (r1.1 = 0 → Op.cmpValue (FP.dcmp (r1.2.2 (ix 0)) r2.1) .l = 0) ∧ INVd a d lY tp r1.2.1 r2.2.1 mu := by
  have hI' := hI
  obtain ⟨⟨hW, hD, hL, hS⟩, hA, hB, -⟩ := hI'
  have hN := hW.1
  have := FU_eq
  rcases in_cases x (AS_nC a) with ⟨v, hv, hv2, rfl⟩ | hx
  · rcases ticks_cases y with ⟨n, hn1, hn2, rfl⟩ | hy
    · obtain ⟨S0, e0, r0⟩ := C_begin hI
      obtain ⟨S1, e1, h8⟩ := C_mean0 (tp := tp) hW hL hv hn1 hn2 n 0 FU 0 d (updF st (TP_tr tp) S0) hD (by rw [uF_self]; exact r0) (by omega) (by omega)
      obtain ⟨w1, e2⟩ := M_mean0 (th := 0) (thought := cp256 w thought) hW hv hn1 hn2 n 0 FU 0 d w hD hA hB (by omega) (by omega)
      refine ⟨(0, updF st (TP_tr tp) S1, vf_upd od (ix 0) (FP.ddiv (FP.l2d (mns a v n d 0)) (FP.i2d (i4 n)))), (FP.ddiv (FP.l2d (mns a v n d 0)) (FP.i2d (i4 n)), cp256 (cp256 w thought) w1, cp256 w thought, 0), ?_, ?_, rfl, fun _ => ?_, WK hI h8 (cp_back w thought w1)⟩
      · unfold fL_meanPressure f9_meanPressure
        rw [C_hasC_y hW hL hv, sbind, if_neg one_ne, C_isTicks_y hn1 hn2, sbind, if_neg one_ne, e0, sbind, show f9_meanPressure_B43 lY tp FU _ _ _ 0 0 = _ from e1, uF_two]
        rfl
      · unfold f10_meanPressure
        rw [look_y hW hA hv hn1 hn2, sbind]
        dsimp only
        rw [if_pos rfl, M_think, sbind]
        exact e2
      · show Op.cmpValue (FP.dcmp (vf_upd od (ix 0) (FP.ddiv (FP.l2d (mns a v n d 0)) (FP.i2d (i4 n))) (ix 0)) (FP.ddiv (FP.l2d (mns a v n d 0)) (FP.i2d (i4 n)))) .l = 0
        rw [show vf_upd od (ix 0) (FP.ddiv (FP.l2d (mns a v n d 0)) (FP.i2d (i4 n))) (ix 0) = FP.ddiv (FP.l2d (mns a v n d 0)) (FP.i2d (i4 n)) from if_pos rfl]
        exact mean_eq (mean_ok _ hn1 hn2)
    · refine ⟨(2, st, od), (FP.dconst0, w, thought, 2), ?_, ?_, rfl, fun h => absurd (show (2 : Int32) = 0 from h) (by decide), hI⟩
      · unfold fL_meanPressure f9_meanPressure
        rw [C_hasC_y hW hL hv, sbind, if_neg one_ne, C_isTicks_n hy, sbind, if_pos rfl]
        rfl
      · unfold f10_meanPressure
        rw [look_n2 hW hA hv hy, sbind]
        dsimp only
        rw [if_neg one_ne]
  · refine ⟨(1, st, od), (FP.dconst0, w, thought, 1), ?_, ?_, rfl, fun h => absurd h one_ne, hI⟩
    · unfold fL_meanPressure f9_meanPressure
      rw [C_hasC_n hW hL hx, sbind, if_pos rfl]
      rfl
    · unfold f10_meanPressure
      rw [look_n1 hW hA hx, sbind]
      dsimp only
      rw [if_neg one_ne]
def bpG (a : AS) (d : AD) (c N v : Nat) : Option Nat := if AD_run d v = true then none else if cnd a d v = 0 then some (prz a (tkD a N (AD_set_run d (setN (AD_run d) v true))) c) else none
theorem bpG_le (hW : WFs a) (hD : WFd a d) {c N v p : Nat} (hc : c < AS_nC a) (h : bpG a d c N v = some p) : p ≤ 1000250000 := by
  have key : p = prz a (tkD a N (AD_set_run d (setN (AD_run d) v true))) c := by
    unfold bpG at h
    split at h
    · cases h
    · split at h
      · cases h; rfl
      · cases h
  rw [key]
  exact prz_le hW (WF_tkD hW N _ (WF_run hD _)) (Or.inr hc)
theorem C_bestPump0 {c N : Nat} (h1N : 1 ≤ N) (hN : N ≤ 999) : ∀ (n v fu : Nat) (o : Option (Nat × Nat)) (st : Fin 12 → SS), INVd a d lY tp st w mu → c < AS_nC a → v + n = AS_nP a → n < fu → (∀ b, o = some b → b.1 < AS_nP a ∧ b.2 ≤ 1000250000) →
    ∃ S', f9_bestPump_B42 lY tp fu st (i4 c) (i4 N) (ob o) (oq4 o) (i4 v) = (match goN (bs1 (bpG a d c N)) n v o with | none => some (.inr 3, updF st (TP_tr tp) S') | some b => some (.inl (i4 b.1), updF st (TP_tr tp) S')) ∧ SS_pressure S' 8 = i4 1000000 := by
  intro n
  induction n with
  | zero =>
    intro v fu o st hI hc hv hf ho
    obtain ⟨⟨hW, hD, hL, hS⟩, hA, hB, h8, -⟩ := hI
    have hC := hW.1
    obtain ⟨q, rfl, -⟩ := fuS hf
    rw [f9_bestPump_B42, hL.1.2.1, if_pos ((i4_le (by omega) (by omega)).mpr (by omega)), goN_zero]
    refine ⟨st (TP_tr tp), ?_, h8 _⟩
    rw [uF_id]
    cases o with
    | none => rw [if_pos (show ob none = -1 from rfl)]
    | some b =>
      have := (ho b rfl).1
      rw [if_neg (show ¬ (ob (some b) = -1) from by show ¬ (i4 b.1 = -1); rw [i4_ne_m1 (by omega)]; exact id)]
      rfl
  | succ n ih =>
    intro v fu o st hI hc hv hf ho
    have hI' := hI
    obtain ⟨⟨hW, hD, hL, hS⟩, hA, hB, h8, -⟩ := hI'
    have hC := hW.1
    obtain ⟨q, rfl, -⟩ := fuS hf
    have hvl : v < AS_nP a := by omega
    have skip : bpG a d c N v = none → ∃ S', f9_bestPump_B42 lY tp q st (i4 c) (i4 N) (ob o) (oq4 o) (i4 v + 1) = (match goN (bs1 (bpG a d c N)) (n + 1) v o with | none => some (.inr 3, updF st (TP_tr tp) S') | some b => some (.inl (i4 b.1), updF st (TP_tr tp) S')) ∧ SS_pressure S' 8 = i4 1000000 := by
      intro hg
      rw [goN_succ, show bs1 (bpG a d c N) v o = o by unfold bs1; rw [hg], ad1]
      exact ih (v + 1) q o st hI hc (by omega) (by omega) ho
    rw [f9_bestPump_B42, hL.1.2.1, if_neg (fun h => by have := (i4_le (by omega) (by omega)).mp h; omega), C_startBar hW hD hL hS hvl, sbind]
    by_cases hO : AD_run d v = true
    · rw [if_pos hO, if_neg one_ne]
      exact skip (if_pos hO)
    · rw [if_neg hO]
      by_cases hR : cnd a d v = 0
      · rw [hR, if_pos (show i4 0 = (0 : Int32) from rfl)]
        obtain ⟨S0, e0, r0⟩ := C_begin hI
        have hS1 := RC_run1 hW r0 hvl
        have hD1 : WFd a (AD_set_run d (setN (AD_run d) v true)) := WF_run hD _
        obtain ⟨S2, e2, r2⟩ := C_pass hW hD1 hL hS1 (N := N) (by omega)
        rw [tks_tkD] at r2
        have hp := prz_le hW (WF_tkD hW N _ hD1) (e := c) (Or.inr hc)
        have hg : bpG a d c N v = some (prz a (tkD a N (AD_set_run d (setN (AD_run d) v true))) c) := by
          unfold bpG
          rw [if_neg hO, if_pos hR]
        have hI2 := SCR hI r2.2.1.2
        rw [e0, sbind, uF_self]
        unfold f5_startPump
        rw [sbind, e2, sbind, uF_two]
        dsimp only
        unfold f9_bestPump_B110
        rw [uF_self, gdi _ (by omega) (by omega), ix4 (by omega), C_pr r2 (Or.inr hc), goN_succ, ad1]
        have take : bs1 (bpG a d c N) v o = some (v, prz a (tkD a N (AD_set_run d (setN (AD_run d) v true))) c) → ∃ S', f9_bestPump_B42 lY tp q (updF st (TP_tr tp) S2) (i4 c) (i4 N) (i4 v) (i4 (prz a (tkD a N (AD_set_run d (setN (AD_run d) v true))) c)) (i4 (v + 1)) = (match goN (bs1 (bpG a d c N)) n (v + 1) (bs1 (bpG a d c N) v o) with | none => some (.inr 3, updF st (TP_tr tp) S') | some b => some (.inl (i4 b.1), updF st (TP_tr tp) S')) ∧ SS_pressure S' 8 = i4 1000000 := by
          intro hb
          rw [hb]
          obtain ⟨S', e3, h3⟩ := ih (v + 1) q (some (v, prz a (tkD a N (AD_set_run d (setN (AD_run d) v true))) c)) (updF st (TP_tr tp) S2) hI2 hc (by omega) (by omega) (fun b hb => by cases hb; exact ⟨hvl, hp⟩)
          rw [uF_two] at e3
          exact ⟨S', e3, h3⟩
        cases o with
        | none =>
          rw [if_pos (show ob none = -1 from rfl)]
          exact take (by unfold bs1; rw [hg])
        | some b =>
          obtain ⟨hb1, hb2⟩ := ho b rfl
          rw [if_neg (show ¬ (ob (some b) = -1) from by show ¬ (i4 b.1 = -1); rw [i4_ne_m1 (by omega)]; exact id), gdi _ (by omega) (by omega)]
          by_cases hlt : prz a (tkD a N (AD_set_run d (setN (AD_run d) v true))) c < b.2
          · rw [if_neg (show ¬ (oq4 (some b) ≤ i4 (prz a (tkD a N (AD_set_run d (setN (AD_run d) v true))) c)) from fun h => by have := (i4_le (by omega) (by omega)).mp h; omega)]
            exact take (by unfold bs1; rw [hg]; exact if_pos hlt)
          · rw [if_pos (show oq4 (some b) ≤ i4 (prz a (tkD a N (AD_set_run d (setN (AD_run d) v true))) c) from (i4_le (by omega) (by omega)).mpr (by omega)), show bs1 (bpG a d c N) v (some b) = some b by unfold bs1; rw [hg]; exact if_neg hlt]
            obtain ⟨S', e3, h3⟩ := ih (v + 1) q (some b) (updF st (TP_tr tp) S2) hI2 hc (by omega) (by omega) ho
            rw [uF_two] at e3
            exact ⟨S', e3, h3⟩
      · have hcl : cnd a d v ≤ 3 := by unfold cnd; split <;> (try split) <;> omega
        rw [if_neg (show ¬ (i4 (cnd a d v) = (0 : Int32)) from fun h => hR ((i4_eq (b := 0) (by omega) (by omega)).mp h))]
        exact skip (by unfold bpG; rw [if_neg hO, if_neg hR])
theorem M_bestPump0 (hW : WFs a) (hD : WFd a d) {c N : Nat} (hc : c < AS_nC a) (h1N : 1 ≤ N) (hN : N ≤ 999) {w0 : Nat → Int64} (ht : ∀ k, k < 256 → thought k = w0 k) : ∀ (n v fu : Nat) (o : Option (Nat × Nat)) (w : Nat → Int64), RMs a w → RMd a d w → (∀ k, k < 256 → w k = w0 k) → v + n = AS_nP a → n < fu → (∀ b, o = some b → b.1 < AS_nP a ∧ b.2 ≤ 1000250000) →
    ∃ w', f10_bestPump_B23 fu w thought 0 (i4 c) (i4 N) (ob o) (oq8 o) (i4 v) = (match goN (bs1 (bpG a d c N)) n v o with | none => some (0, w', thought, 3) | some b => some (i4 b.1, w', thought, 0)) ∧ ∀ k, k < 256 → w' k = w0 k := by
  intro n
  have hC := hW.1
  induction n with
  | zero =>
    intro v fu o w hA hB hw hv hf ho
    obtain ⟨q, rfl, -⟩ := fuS hf
    rw [f10_bestPump_B23, M_nP hA, sbind, if_pos ((i4_le (by omega) (by omega)).mpr (by omega)), goN_zero]
    refine ⟨w, ?_, hw⟩
    cases o with
    | none => rw [if_pos (show ob none = -1 from rfl)]; rfl
    | some b =>
      have := (ho b rfl).1
      rw [if_neg (show ¬ (ob (some b) = -1) from by show ¬ (i4 b.1 = -1); rw [i4_ne_m1 (by omega)]; exact id)]
      rfl
  | succ n ih =>
    intro v fu o w hA hB hw hv hf ho
    obtain ⟨q, rfl, -⟩ := fuS hf
    have hvl : v < AS_nP a := by omega
    have skip : bpG a d c N v = none → ∃ w', f10_bestPump_B23 q w thought 0 (i4 c) (i4 N) (ob o) (oq8 o) (i4 v + 1) = (match goN (bs1 (bpG a d c N)) (n + 1) v o with | none => some (0, w', thought, 3) | some b => some (i4 b.1, w', thought, 0)) ∧ ∀ k, k < 256 → w' k = w0 k := by
      intro hg
      rw [goN_succ, show bs1 (bpG a d c N) v o = o by unfold bs1; rw [hg], ad1]
      exact ih (v + 1) q o w hA hB hw (by omega) (by omega) ho
    rw [f10_bestPump_B23, M_nP hA, sbind, if_neg (fun h => by have := (i4_le (by omega) (by omega)).mp h; omega), M_canStart hW hD hA hB hvl, sbind]
    by_cases hO : AD_run d v = true
    · rw [if_pos hO, if_pos rfl]
      exact skip (if_pos hO)
    · rw [if_neg hO]
      by_cases hR : cnd a d v = 0
      · rw [if_pos hR, if_neg one_ne]
        have hD1 : WFd a (AD_set_run d (setN (AD_run d) v true)) := WF_run hD _
        obtain ⟨hA1, hB1⟩ := RM_run hW hA hB hvl true
        obtain ⟨w2, e2, hA2, hB2⟩ := M_prIn hW hD1 hA1 hB1 hc (n := N) (by omega)
        have hp := prz_le hW (WF_tkD hW N _ hD1) (e := c) (Or.inr hc)
        have hg : bpG a d c N v = some (prz a (tkD a N (AD_set_run d (setN (AD_run d) v true))) c) := by
          unfold bpG
          rw [if_neg hO, if_pos hR]
        have hw3 : ∀ k, k < 256 → cp256 thought w2 k = w0 k := fun k hk => by rw [cp256_lt _ _ hk]; exact ht k hk
        have hw4 : ∀ k, k < 256 → cp256 thought w2 k = w k := fun k hk => by rw [hw3 k hk, hw k hk]
        have hA3 := RMs_256 hW hA hw4
        have hB3 := RMd_256 hW hD hB hw4
        unfold f10_run
        rw [at_p, sbind, ad6, gdi _ (by omega) (by omega), ix4 (by omega), show (1 : Int32).toInt64 = b8 true from rfl, M_pC hW hA1 hvl, sbind, M_prc hW hD1 hA1 hB1 (hW.2.2.1 v hvl).1, sbind, sbind]
        dsimp only
        rw [e2, sbind]
        dsimp only
        rw [M_wake, sbind, goN_succ, ad1]
        have take : bs1 (bpG a d c N) v o = some (v, prz a (tkD a N (AD_set_run d (setN (AD_run d) v true))) c) → ∃ w', f10_bestPump_B23 q (cp256 thought w2) thought 0 (i4 c) (i4 N) (i4 v) (i8 (prz a (tkD a N (AD_set_run d (setN (AD_run d) v true))) c)) (i4 (v + 1)) = (match goN (bs1 (bpG a d c N)) n (v + 1) (bs1 (bpG a d c N) v o) with | none => some (0, w', thought, 3) | some b => some (i4 b.1, w', thought, 0)) ∧ ∀ k, k < 256 → w' k = w0 k := by
          intro hb
          rw [hb]
          exact ih (v + 1) q (some (v, prz a (tkD a N (AD_set_run d (setN (AD_run d) v true))) c)) _ hA3 hB3 hw3 (by omega) (by omega) (fun b hb => by cases hb; exact ⟨hvl, hp⟩)
        cases o with
        | none =>
          rw [if_pos (show ob none = -1 from rfl)]
          exact take (by unfold bs1; rw [hg])
        | some b =>
          obtain ⟨hb1, hb2⟩ := ho b rfl
          rw [if_neg (show ¬ (ob (some b) = -1) from by show ¬ (i4 b.1 = -1); rw [i4_ne_m1 (by omega)]; exact id)]
          by_cases hlt : prz a (tkD a N (AD_set_run d (setN (AD_run d) v true))) c < b.2
          · rw [if_pos (show i8 (prz a (tkD a N (AD_set_run d (setN (AD_run d) v true))) c) < oq8 (some b) from (i8_lt (by omega) (by omega)).mpr hlt)]
            exact take (by unfold bs1; rw [hg]; exact if_pos hlt)
          · rw [if_neg (show ¬ (i8 (prz a (tkD a N (AD_set_run d (setN (AD_run d) v true))) c) < oq8 (some b)) from fun h => hlt ((i8_lt (by omega) (by omega)).mp h)), show bs1 (bpG a d c N) v (some b) = some b by unfold bs1; rw [hg]; exact if_neg hlt]
            exact ih (v + 1) q (some b) _ hA3 hB3 hw3 (by omega) (by omega) ho
      · rw [if_neg hR, if_pos rfl]
        exact skip (by unfold bpG; rw [if_neg hO, if_neg hR])
theorem S_bestPump (hI : INVd a d lY tp st w mu) (x y : Int32) : ∃ r1 r2, fL_bestPump lY tp st ou x y = some r1 ∧ f10_bestPump w thought th x y = some r2 ∧ GOODf a d lY tp mu r1 r2 := by
  have hI' := hI
  obtain ⟨⟨hW, hD, hL, hS⟩, hA, hB, -⟩ := hI'
  have hN := hW.1
  have := FU_eq
  rcases in_cases x (AS_nC a) with ⟨v, hv, hv2, rfl⟩ | hx
  · rcases ticks_cases y with ⟨n, hn1, hn2, rfl⟩ | hy
    · obtain ⟨S1, e1, h8⟩ := C_bestPump0 (c := v) hn1 hn2 (AS_nP a) 0 FU none st hI hv (by omega) (by omega) (fun b hb => by cases hb)
      obtain ⟨w1, e2, hw1⟩ := M_bestPump0 (thought := cp256 w thought) hW hD hv hn1 hn2 (fun k hk => cp256_lt w thought hk) (AS_nP a) 0 FU none w hA hB (fun k _ => rfl) (by omega) (by omega) (fun b hb => by cases hb)
      cases hr : goN (bs1 (bpG a d v n)) (AS_nP a) 0 none with
      | none =>
        rw [hr] at e1 e2
        refine NO_f (ou := ou) (t' := cp256 w thought) 3 (by decide) (WK hI h8 hw1) ?_ ?_
        · unfold fL_bestPump f9_bestPump
          rw [C_hasC_y hW hL hv, sbind, if_neg one_ne, C_isTicks_y hn1 hn2, sbind, if_neg one_ne, show f9_bestPump_B42 lY tp FU st _ _ (-1) 0 0 = _ from e1]
          rfl
        · unfold f10_bestPump
          rw [look_y hW hA hv hn1 hn2, sbind]
          dsimp only
          rw [if_pos rfl, M_think, sbind]
          exact e2
      | some b =>
        rw [hr] at e1 e2
        refine YES_f (ou := ou) (t' := cp256 w thought) (i4 b.1) (WK hI h8 hw1) ?_ ?_
        · unfold fL_bestPump f9_bestPump
          rw [C_hasC_y hW hL hv, sbind, if_neg one_ne, C_isTicks_y hn1 hn2, sbind, if_neg one_ne, show f9_bestPump_B42 lY tp FU st _ _ (-1) 0 0 = _ from e1]
          rfl
        · unfold f10_bestPump
          rw [look_y hW hA hv hn1 hn2, sbind]
          dsimp only
          rw [if_pos rfl, M_think, sbind]
          exact e2
    · refine NO_f (ou := ou) (t' := thought) 2 (by decide) hI ?_ ?_
      · unfold fL_bestPump f9_bestPump
        rw [C_hasC_y hW hL hv, sbind, if_neg one_ne, C_isTicks_n hy, sbind, if_pos rfl]
        rfl
      · unfold f10_bestPump
        rw [look_n2 hW hA hv hy, sbind]
        dsimp only
        rw [if_neg one_ne]
  · refine NO_f (ou := ou) (t' := thought) 1 (by decide) hI ?_ ?_
    · unfold fL_bestPump f9_bestPump
      rw [C_hasC_n hW hL hx, sbind, if_pos rfl]
      rfl
    · unfold f10_bestPump
      rw [look_n1 hW hA hx, sbind]
      dsimp only
      rw [if_neg one_ne]
def bvG (a : AS) (d : AD) (c N v : Nat) : Option Nat := if AD_opn d v = true then none else if dif a d v ≤ AD_rul d v then some (prz a (tkD a N (AD_set_opn d (setN (AD_opn d) v true))) c) else none
theorem bvG_le (hW : WFs a) (hD : WFd a d) {c N v p : Nat} (hc : c < AS_nC a) (h : bvG a d c N v = some p) : p ≤ 1000250000 := by
  have key : p = prz a (tkD a N (AD_set_opn d (setN (AD_opn d) v true))) c := by
    unfold bvG at h
    split at h
    · cases h
    · split at h
      · cases h; rfl
      · cases h
  rw [key]
  exact prz_le hW (WF_tkD hW N _ (WF_opn hD _)) (Or.inr hc)
theorem C_bestValve0 {c N : Nat} (h1N : 1 ≤ N) (hN : N ≤ 999) : ∀ (n v fu : Nat) (o : Option (Nat × Nat)) (st : Fin 12 → SS), INVd a d lY tp st w mu → c < AS_nC a → v + n = AS_nV a → n < fu → (∀ b, o = some b → b.1 < AS_nV a ∧ b.2 ≤ 1000250000) →
    ∃ S', f9_bestValve_B42 lY tp fu st (i4 c) (i4 N) (ob o) (oq4 o) (i4 v) = (match goN (bs1 (bvG a d c N)) n v o with | none => some (.inr 3, updF st (TP_tr tp) S') | some b => some (.inl (i4 b.1), updF st (TP_tr tp) S')) ∧ SS_pressure S' 8 = i4 1000000 := by
  intro n
  induction n with
  | zero =>
    intro v fu o st hI hc hv hf ho
    obtain ⟨⟨hW, hD, hL, hS⟩, hA, hB, h8, -⟩ := hI
    have hC := hW.1
    obtain ⟨q, rfl, -⟩ := fuS hf
    rw [f9_bestValve_B42, hL.1.2.2.1, if_pos ((i4_le (by omega) (by omega)).mpr (by omega)), goN_zero]
    refine ⟨st (TP_tr tp), ?_, h8 _⟩
    rw [uF_id]
    cases o with
    | none => rw [if_pos (show ob none = -1 from rfl)]
    | some b =>
      have := (ho b rfl).1
      rw [if_neg (show ¬ (ob (some b) = -1) from by show ¬ (i4 b.1 = -1); rw [i4_ne_m1 (by omega)]; exact id)]
      rfl
  | succ n ih =>
    intro v fu o st hI hc hv hf ho
    have hI' := hI
    obtain ⟨⟨hW, hD, hL, hS⟩, hA, hB, h8, -⟩ := hI'
    have hC := hW.1
    obtain ⟨q, rfl, -⟩ := fuS hf
    have hvl : v < AS_nV a := by omega
    have skip : bvG a d c N v = none → ∃ S', f9_bestValve_B42 lY tp q st (i4 c) (i4 N) (ob o) (oq4 o) (i4 v + 1) = (match goN (bs1 (bvG a d c N)) (n + 1) v o with | none => some (.inr 3, updF st (TP_tr tp) S') | some b => some (.inl (i4 b.1), updF st (TP_tr tp) S')) ∧ SS_pressure S' 8 = i4 1000000 := by
      intro hg
      rw [goN_succ, show bs1 (bvG a d c N) v o = o by unfold bs1; rw [hg], ad1]
      exact ih (v + 1) q o st hI hc (by omega) (by omega) ho
    rw [f9_bestValve_B42, hL.1.2.2.1, if_neg (fun h => by have := (i4_le (by omega) (by omega)).mp h; omega), C_openBar hW hD hL hS hvl, sbind]
    by_cases hO : AD_opn d v = true
    · rw [if_pos hO, if_neg one_ne]
      exact skip (if_pos hO)
    · rw [if_neg hO]
      by_cases hR : dif a d v ≤ AD_rul d v
      · rw [if_pos hR, if_pos rfl]
        obtain ⟨S0, e0, r0⟩ := C_begin hI
        have hS1 := RC_opn1 hW r0 hvl
        have hD1 : WFd a (AD_set_opn d (setN (AD_opn d) v true)) := WF_opn hD _
        obtain ⟨S2, e2, r2⟩ := C_pass hW hD1 hL hS1 (N := N) (by omega)
        rw [tks_tkD] at r2
        have hp := prz_le hW (WF_tkD hW N _ hD1) (e := c) (Or.inr hc)
        have hg : bvG a d c N v = some (prz a (tkD a N (AD_set_opn d (setN (AD_opn d) v true))) c) := by
          unfold bvG
          rw [if_neg hO, if_pos hR]
        have hI2 := SCR hI r2.2.1.2
        rw [e0, sbind, uF_self]
        unfold f5_openValve
        rw [sbind, e2, sbind, uF_two]
        dsimp only
        unfold f9_bestValve_B110
        rw [uF_self, gdi _ (by omega) (by omega), ix4 (by omega), C_pr r2 (Or.inr hc), goN_succ, ad1]
        have take : bs1 (bvG a d c N) v o = some (v, prz a (tkD a N (AD_set_opn d (setN (AD_opn d) v true))) c) → ∃ S', f9_bestValve_B42 lY tp q (updF st (TP_tr tp) S2) (i4 c) (i4 N) (i4 v) (i4 (prz a (tkD a N (AD_set_opn d (setN (AD_opn d) v true))) c)) (i4 (v + 1)) = (match goN (bs1 (bvG a d c N)) n (v + 1) (bs1 (bvG a d c N) v o) with | none => some (.inr 3, updF st (TP_tr tp) S') | some b => some (.inl (i4 b.1), updF st (TP_tr tp) S')) ∧ SS_pressure S' 8 = i4 1000000 := by
          intro hb
          rw [hb]
          obtain ⟨S', e3, h3⟩ := ih (v + 1) q (some (v, prz a (tkD a N (AD_set_opn d (setN (AD_opn d) v true))) c)) (updF st (TP_tr tp) S2) hI2 hc (by omega) (by omega) (fun b hb => by cases hb; exact ⟨hvl, hp⟩)
          rw [uF_two] at e3
          exact ⟨S', e3, h3⟩
        cases o with
        | none =>
          rw [if_pos (show ob none = -1 from rfl)]
          exact take (by unfold bs1; rw [hg])
        | some b =>
          obtain ⟨hb1, hb2⟩ := ho b rfl
          rw [if_neg (show ¬ (ob (some b) = -1) from by show ¬ (i4 b.1 = -1); rw [i4_ne_m1 (by omega)]; exact id), gdi _ (by omega) (by omega)]
          by_cases hlt : prz a (tkD a N (AD_set_opn d (setN (AD_opn d) v true))) c < b.2
          · rw [if_neg (show ¬ (oq4 (some b) ≤ i4 (prz a (tkD a N (AD_set_opn d (setN (AD_opn d) v true))) c)) from fun h => by have := (i4_le (by omega) (by omega)).mp h; omega)]
            exact take (by unfold bs1; rw [hg]; exact if_pos hlt)
          · rw [if_pos (show oq4 (some b) ≤ i4 (prz a (tkD a N (AD_set_opn d (setN (AD_opn d) v true))) c) from (i4_le (by omega) (by omega)).mpr (by omega)), show bs1 (bvG a d c N) v (some b) = some b by unfold bs1; rw [hg]; exact if_neg hlt]
            obtain ⟨S', e3, h3⟩ := ih (v + 1) q (some b) (updF st (TP_tr tp) S2) hI2 hc (by omega) (by omega) ho
            rw [uF_two] at e3
            exact ⟨S', e3, h3⟩
      · rw [if_neg hR, if_neg (by decide)]
        exact skip (by unfold bvG; rw [if_neg hO, if_neg hR])
theorem M_bestValve0 (hW : WFs a) (hD : WFd a d) {c N : Nat} (hc : c < AS_nC a) (h1N : 1 ≤ N) (hN : N ≤ 999) {w0 : Nat → Int64} (ht : ∀ k, k < 256 → thought k = w0 k) : ∀ (n v fu : Nat) (o : Option (Nat × Nat)) (w : Nat → Int64), RMs a w → RMd a d w → (∀ k, k < 256 → w k = w0 k) → v + n = AS_nV a → n < fu → (∀ b, o = some b → b.1 < AS_nV a ∧ b.2 ≤ 1000250000) →
    ∃ w', f10_bestValve_B23 fu w thought 0 (i4 c) (i4 N) (ob o) (oq8 o) (i4 v) = (match goN (bs1 (bvG a d c N)) n v o with | none => some (0, w', thought, 3) | some b => some (i4 b.1, w', thought, 0)) ∧ ∀ k, k < 256 → w' k = w0 k := by
  intro n
  have hC := hW.1
  induction n with
  | zero =>
    intro v fu o w hA hB hw hv hf ho
    obtain ⟨q, rfl, -⟩ := fuS hf
    rw [f10_bestValve_B23, M_nV hA, sbind, if_pos ((i4_le (by omega) (by omega)).mpr (by omega)), goN_zero]
    refine ⟨w, ?_, hw⟩
    cases o with
    | none => rw [if_pos (show ob none = -1 from rfl)]; rfl
    | some b =>
      have := (ho b rfl).1
      rw [if_neg (show ¬ (ob (some b) = -1) from by show ¬ (i4 b.1 = -1); rw [i4_ne_m1 (by omega)]; exact id)]
      rfl
  | succ n ih =>
    intro v fu o w hA hB hw hv hf ho
    obtain ⟨q, rfl, -⟩ := fuS hf
    have hvl : v < AS_nV a := by omega
    have skip : bvG a d c N v = none → ∃ w', f10_bestValve_B23 q w thought 0 (i4 c) (i4 N) (ob o) (oq8 o) (i4 v + 1) = (match goN (bs1 (bvG a d c N)) (n + 1) v o with | none => some (0, w', thought, 3) | some b => some (i4 b.1, w', thought, 0)) ∧ ∀ k, k < 256 → w' k = w0 k := by
      intro hg
      rw [goN_succ, show bs1 (bvG a d c N) v o = o by unfold bs1; rw [hg], ad1]
      exact ih (v + 1) q o w hA hB hw (by omega) (by omega) ho
    rw [f10_bestValve_B23, M_nV hA, sbind, if_neg (fun h => by have := (i4_le (by omega) (by omega)).mp h; omega), M_canOpen hW hD hA hB hvl, sbind]
    by_cases hO : AD_opn d v = true
    · rw [if_pos hO, if_pos rfl]
      exact skip (if_pos hO)
    · rw [if_neg hO]
      by_cases hR : dif a d v ≤ AD_rul d v
      · rw [if_pos hR, if_neg one_ne]
        have hD1 : WFd a (AD_set_opn d (setN (AD_opn d) v true)) := WF_opn hD _
        obtain ⟨hA1, hB1⟩ := RM_opn hW hA hB hvl true
        obtain ⟨w2, e2, hA2, hB2⟩ := M_prIn hW hD1 hA1 hB1 hc (n := N) (by omega)
        have hp := prz_le hW (WF_tkD hW N _ hD1) (e := c) (Or.inr hc)
        have hg : bvG a d c N v = some (prz a (tkD a N (AD_set_opn d (setN (AD_opn d) v true))) c) := by
          unfold bvG
          rw [if_neg hO, if_pos hR]
        have hw3 : ∀ k, k < 256 → cp256 thought w2 k = w0 k := fun k hk => by rw [cp256_lt _ _ hk]; exact ht k hk
        have hw4 : ∀ k, k < 256 → cp256 thought w2 k = w k := fun k hk => by rw [hw3 k hk, hw k hk]
        have hA3 := RMs_256 hW hA hw4
        have hB3 := RMd_256 hW hD hB hw4
        unfold f10_turn
        rw [at_v, sbind, ad4, gdi _ (by omega) (by omega), ix4 (by omega), show (1 : Int32).toInt64 = b8 true from rfl, M_dif hW hD1 hA1 hB1 hvl, sbind, sbind]
        dsimp only
        rw [e2, sbind]
        dsimp only
        rw [M_wake, sbind, goN_succ, ad1]
        have take : bs1 (bvG a d c N) v o = some (v, prz a (tkD a N (AD_set_opn d (setN (AD_opn d) v true))) c) → ∃ w', f10_bestValve_B23 q (cp256 thought w2) thought 0 (i4 c) (i4 N) (i4 v) (i8 (prz a (tkD a N (AD_set_opn d (setN (AD_opn d) v true))) c)) (i4 (v + 1)) = (match goN (bs1 (bvG a d c N)) n (v + 1) (bs1 (bvG a d c N) v o) with | none => some (0, w', thought, 3) | some b => some (i4 b.1, w', thought, 0)) ∧ ∀ k, k < 256 → w' k = w0 k := by
          intro hb
          rw [hb]
          exact ih (v + 1) q (some (v, prz a (tkD a N (AD_set_opn d (setN (AD_opn d) v true))) c)) _ hA3 hB3 hw3 (by omega) (by omega) (fun b hb => by cases hb; exact ⟨hvl, hp⟩)
        cases o with
        | none =>
          rw [if_pos (show ob none = -1 from rfl)]
          exact take (by unfold bs1; rw [hg])
        | some b =>
          obtain ⟨hb1, hb2⟩ := ho b rfl
          rw [if_neg (show ¬ (ob (some b) = -1) from by show ¬ (i4 b.1 = -1); rw [i4_ne_m1 (by omega)]; exact id)]
          by_cases hlt : prz a (tkD a N (AD_set_opn d (setN (AD_opn d) v true))) c < b.2
          · rw [if_pos (show i8 (prz a (tkD a N (AD_set_opn d (setN (AD_opn d) v true))) c) < oq8 (some b) from (i8_lt (by omega) (by omega)).mpr hlt)]
            exact take (by unfold bs1; rw [hg]; exact if_pos hlt)
          · rw [if_neg (show ¬ (i8 (prz a (tkD a N (AD_set_opn d (setN (AD_opn d) v true))) c) < oq8 (some b)) from fun h => hlt ((i8_lt (by omega) (by omega)).mp h)), show bs1 (bvG a d c N) v (some b) = some b by unfold bs1; rw [hg]; exact if_neg hlt]
            exact ih (v + 1) q (some b) _ hA3 hB3 hw3 (by omega) (by omega) ho
      · rw [if_neg hR, if_pos rfl]
        exact skip (by unfold bvG; rw [if_neg hO, if_neg hR])
theorem S_bestValve (hI : INVd a d lY tp st w mu) (x y : Int32) : ∃ r1 r2, fL_bestValve lY tp st ou x y = some r1 ∧ f10_bestValve w thought th x y = some r2 ∧ GOODf a d lY tp mu r1 r2 := by
  have hI' := hI
  obtain ⟨⟨hW, hD, hL, hS⟩, hA, hB, -⟩ := hI'
  have hN := hW.1
  have := FU_eq
  rcases in_cases x (AS_nC a) with ⟨v, hv, hv2, rfl⟩ | hx
  · rcases ticks_cases y with ⟨n, hn1, hn2, rfl⟩ | hy
    · obtain ⟨S1, e1, h8⟩ := C_bestValve0 (c := v) hn1 hn2 (AS_nV a) 0 FU none st hI hv (by omega) (by omega) (fun b hb => by cases hb)
      obtain ⟨w1, e2, hw1⟩ := M_bestValve0 (thought := cp256 w thought) hW hD hv hn1 hn2 (fun k hk => cp256_lt w thought hk) (AS_nV a) 0 FU none w hA hB (fun k _ => rfl) (by omega) (by omega) (fun b hb => by cases hb)
      cases hr : goN (bs1 (bvG a d v n)) (AS_nV a) 0 none with
      | none =>
        rw [hr] at e1 e2
        refine NO_f (ou := ou) (t' := cp256 w thought) 3 (by decide) (WK hI h8 hw1) ?_ ?_
        · unfold fL_bestValve f9_bestValve
          rw [C_hasC_y hW hL hv, sbind, if_neg one_ne, C_isTicks_y hn1 hn2, sbind, if_neg one_ne, show f9_bestValve_B42 lY tp FU st _ _ (-1) 0 0 = _ from e1]
          rfl
        · unfold f10_bestValve
          rw [look_y hW hA hv hn1 hn2, sbind]
          dsimp only
          rw [if_pos rfl, M_think, sbind]
          exact e2
      | some b =>
        rw [hr] at e1 e2
        refine YES_f (ou := ou) (t' := cp256 w thought) (i4 b.1) (WK hI h8 hw1) ?_ ?_
        · unfold fL_bestValve f9_bestValve
          rw [C_hasC_y hW hL hv, sbind, if_neg one_ne, C_isTicks_y hn1 hn2, sbind, if_neg one_ne, show f9_bestValve_B42 lY tp FU st _ _ (-1) 0 0 = _ from e1]
          rfl
        · unfold f10_bestValve
          rw [look_y hW hA hv hn1 hn2, sbind]
          dsimp only
          rw [if_pos rfl, M_think, sbind]
          exact e2
    · refine NO_f (ou := ou) (t' := thought) 2 (by decide) hI ?_ ?_
      · unfold fL_bestValve f9_bestValve
        rw [C_hasC_y hW hL hv, sbind, if_neg one_ne, C_isTicks_n hy, sbind, if_pos rfl]
        rfl
      · unfold f10_bestValve
        rw [look_n2 hW hA hv hy, sbind]
        dsimp only
        rw [if_neg one_ne]
  · refine NO_f (ou := ou) (t' := thought) 1 (by decide) hI ?_ ?_
    · unfold fL_bestValve f9_bestValve
      rw [C_hasC_n hW hL hx, sbind, if_pos rfl]
      rfl
    · unfold f10_bestValve
      rw [look_n1 hW hA hx, sbind]
      dsimp only
      rw [if_neg one_ne]
end FC
