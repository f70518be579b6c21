/-! the report's lines -/
def mrk (ch : Int32) (P : Nat → Bool) (v : Nat) (s : PG) : PG := if P v = true then wn 24 v (wr ch (wr 32 s)) else s
def vOn (a : AS) (d : AD) (c v : Nat) : Bool := touV a c v && AD_opn d v
def pOn (a : AS) (d : AD) (c p : Nat) : Bool := touP a c p && AD_run d p
def lne (a : AS) (d : AD) (c : Nat) (s : PG) : PG := wr 10 (goN (mrk 112 (pOn a d c)) (AS_nP a) 0 (goN (mrk 118 (vOn a d c)) (AS_nV a) 0 (wn 24 (prz a d c) (wr 32 (wn 24 c (wt 13 s))))))
def ind (P : Nat → Bool) (v : Nat) : Nat := if P v = true then 1 else 0
theorem goN_add {σ : Type} (f : Nat → σ → σ) : ∀ (m n v : Nat) (s : σ), goN f (m + n) v s = goN f n (v + m) (goN f m v s)
  | 0, n, v, s => by rw [Nat.zero_add, Nat.add_zero]; rfl
  | m + 1, n, v, s => by
    rw [show m + 1 + n = (m + n) + 1 by omega, goN_succ, goN_succ, goN_add f m n (v + 1), show v + 1 + m = v + (m + 1) by omega]
theorem goN_congr {σ : Type} {f g : Nat → σ → σ} : ∀ {n v : Nat} {s : σ}, (∀ i t, v ≤ i → i < v + n → f i t = g i t) → goN f n v s = goN g n v s
  | 0, _, _, _ => rfl
  | n + 1, v, s, h => by
    rw [goN_succ, goN_succ, h v s (Nat.le_refl v) (by omega), goN_congr (n := n) (v := v + 1) (fun i t h1 h2 => h i t (by omega) (by omega))]
theorem goN_same {σ : Type} {f : Nat → σ → σ} : ∀ {n v : Nat} {s : σ}, (∀ i t, v ≤ i → i < v + n → f i t = t) → goN f n v s = s
  | 0, _, _, _ => rfl
  | n + 1, v, s, h => by
    rw [goN_succ, h v s (Nat.le_refl v) (by omega), goN_same (n := n) (v := v + 1) (fun i t h1 h2 => h i t (by omega) (by omega))]
theorem sumR_add (g : Nat → Nat) : ∀ m n v, sumR g (m + n) v = sumR g m v + sumR g n (v + m)
  | 0, n, v => by simp [sumR]
  | m + 1, n, v => by
    have := sumR_add g m n (v + 1)
    rw [show m + 1 + n = (m + n) + 1 by omega]
    show g v + sumR g (m + n) (v + 1) = g v + sumR g m (v + 1) + sumR g n (v + (m + 1))
    rw [this, show v + 1 + m = v + (m + 1) by omega]
    omega
theorem sumR_mono {f g : Nat → Nat} : ∀ {n x : Nat}, (∀ i, x ≤ i → i < x + n → f i ≤ g i) → sumR f n x ≤ sumR g n x
  | 0, _, _ => Nat.le_refl _
  | n + 1, x, h => by
    have h1 := sumR_mono (n := n) (x := x + 1) (fun i h1 h2 => h i (by omega) (by omega))
    have h2 := h x (Nat.le_refl x) (by omega)
    unfold sumR
    omega
theorem sumN_add (f g : Nat → Nat) : ∀ n, sumN (fun i => f i + g i) n = sumN f n + sumN g n
  | 0 => rfl
  | n + 1 => by
    have := sumN_add f g n
    show sumN (fun i => f i + g i) n + (f n + g n) = sumN f n + f n + (sumN g n + g n)
    omega
theorem sumN_zero : ∀ n, sumN (fun _ => 0) n = 0
  | 0 => rfl
  | n + 1 => by
    show sumN (fun _ => 0) n + 0 = 0
    rw [sumN_zero n]
theorem sum_swap (g : Nat → Nat → Nat) (C : Nat) : ∀ n v, sumN (fun c => sumR (g c) n v) C = sumR (fun v => sumN (fun c => g c v) C) n v
  | 0, v => sumN_zero C
  | n + 1, v => by
    show sumN (fun c => g c v + sumR (g c) n (v + 1)) C = sumN (fun c => g c v) C + sumR (fun v => sumN (fun c => g c v) C) n (v + 1)
    rw [sumN_add, sum_swap g C n (v + 1)]
theorem sumN_one (k : Nat) : ∀ n, sumN (fun c => if k = c then 1 else 0) n = if k < n then 1 else 0
  | 0 => by rw [if_neg (by omega)]; rfl
  | n + 1 => by
    show sumN (fun c => if k = c then 1 else 0) n + (if k = n then 1 else 0) = _
    rw [sumN_one k n]
    split <;> split <;> split <;> omega
def kAt (a : AS) (c : Nat) : Nat := sumR (ind (touV a c)) (AS_nV a) 0 + sumR (ind (touP a c)) (AS_nP a) 0
theorem kAt_sum {a : AS} (hW : WFs a) : sumN (kAt a) (AS_nC a) ≤ 26 := by
  have hN := hW.1
  have e : sumN (kAt a) (AS_nC a) = sumR (fun v => sumN (fun c => ind (touV a c) v) (AS_nC a)) (AS_nV a) 0 + sumR (fun p => sumN (fun c => ind (touP a c) p) (AS_nC a)) (AS_nP a) 0 := by
    rw [← sum_swap (fun c => ind (touV a c)), ← sum_swap (fun c => ind (touP a c)), ← sumN_add]
    rfl
  have h1 : ∀ v, sumN (fun c => ind (touV a c) v) (AS_nC a) ≤ 2 := by
    intro v
    have l1 : sumN (fun c => ind (touV a c) v) (AS_nC a) ≤ sumN (fun c => (if AS_vA a v = c then 1 else 0) + (if AS_vB a v = c then 1 else 0)) (AS_nC a) := by
      refine sumN_mono (fun c _ => ?_)
      unfold ind touV
      by_cases q1 : AS_vA a v = c
      · rw [if_pos q1, if_pos (decide_eq_true (Or.inl q1))]; omega
      · by_cases q2 : AS_vB a v = c
        · rw [if_pos q2, if_pos (decide_eq_true (Or.inr q2))]; omega
        · rw [if_neg (fun h => (of_decide_eq_true h).elim q1 q2)]; omega
    rw [sumN_add, sumN_one, sumN_one] at l1
    split at l1 <;> split at l1 <;> omega
  have h2 : ∀ p, sumN (fun c => ind (touP a c) p) (AS_nC a) ≤ 1 := by
    intro p
    have l1 : sumN (fun c => ind (touP a c) p) (AS_nC a) = sumN (fun c => if AS_pC a p = c then 1 else 0) (AS_nC a) := by
      refine sumN_congr (fun c _ => ?_)
      unfold ind touP
      by_cases q1 : AS_pC a p = c
      · rw [if_pos q1, if_pos (decide_eq_true q1)]
      · rw [if_neg q1, if_neg (fun h => q1 (of_decide_eq_true h))]
    rw [sumN_one] at l1
    split at l1 <;> omega
  have h3 := sumR_le (g := fun v => sumN (fun c => ind (touV a c) v) (AS_nC a)) (b := 2) (n := AS_nV a) (x := 0) (fun i _ _ => h1 i)
  have h4 := sumR_le (g := fun p => sumN (fun c => ind (touP a c) p) (AS_nC a)) (b := 1) (n := AS_nP a) (x := 0) (fun i _ _ => h2 i)
  omega
theorem sumN_part (g : Nat → Nat) : ∀ {m n : Nat}, m ≤ n → sumN g m ≤ sumN g n
  | m, 0, h => by rw [show m = 0 by omega]; exact Nat.le_refl _
  | m, n + 1, h => by
    by_cases he : m = n + 1
    · rw [he]; exact Nat.le_refl _
    · have := sumN_part g (m := m) (n := n) (by omega)
      show _ ≤ sumN g n + g n
      omega
theorem mrk_len (ch : Int32) (P : Nat → Bool) : ∀ (n v : Nat) (s : PG), v + n ≤ 10 → (goN (mrk ch P) n v s).2 ≤ s.2 + 3 * sumR (ind P) n v
  | 0, _, _, _ => Nat.le_refl _
  | n + 1, v, s, h => by
    have := mrk_len ch P n (v + 1) (mrk ch P v s) (by omega)
    rw [goN_succ]
    show _ ≤ s.2 + 3 * (ind P v + sumR (ind P) n (v + 1))
    have h2 : (mrk ch P v s).2 ≤ s.2 + 3 * ind P v := by
      unfold mrk ind
      by_cases hp : P v = true
      · rw [if_pos hp, if_pos hp]
        have := wn_len 24 0 v (wr ch (wr 32 s)) (by rw [Nat.zero_add, Nat.pow_one]; omega)
        rw [wr_len, wr_len] at this
        omega
      · rw [if_neg hp, if_neg hp]; omega
    omega
theorem C_set0 {i : Nat} {ch : Int32} (hi : i < 33) (hw : ∀ s, wt i s = wr ch (wr 32 s)) (h2 : sN i = 2) {mask : Int32} {N : Nat} (hN : N ≤ 10) : ∀ (n v fu : Nat) (rp : RP) (s : PG), v + n = N → n < fu → RPr rp s → s.2 + 3 * sumR (ind (bit mask)) n v ≤ 246 →
    ∃ rp', f4_addSet_B3 fu rp i mask (i4 N) (i4 v) = some rp' ∧ RPr rp' (goN (mrk ch (bit mask)) n v s) := by
  intro n
  induction n with
  | zero =>
    intro v fu rp s hv hf h hl
    obtain ⟨q, rfl, -⟩ := fuS hf
    rw [f4_addSet_B3, if_pos ((i4_le (by omega) (by omega)).mpr (by omega))]
    exact ⟨rp, rfl, h⟩
  | succ n ih =>
    intro v fu rp s hv hf h hl
    obtain ⟨q, rfl, -⟩ := fuS hf
    rw [show sumR (ind (bit mask)) (n + 1) v = ind (bit mask) v + sumR (ind (bit mask)) n (v + 1) from rfl] at hl
    rw [f4_addSet_B3, if_neg (fun q => by have := (i4_le (by omega) (by omega)).mp q; omega), C_has _ (by omega), sbind, ad1, goN_succ]
    unfold mrk
    unfold ind at hl
    by_cases hb : bit mask v = true
    · rw [if_pos hb] at hl
      rw [if_pos hb, if_neg one_ne, if_pos hb]
      obtain ⟨r1, e1, g1⟩ := C_text hi h (by omega)
      rw [hw] at g1
      obtain ⟨r2, e2, g2⟩ := C_num (n := v) (m := 0) (by omega) (by omega) (by rw [Nat.zero_add, Nat.pow_one]; omega) g1 (by rw [wr_len, wr_len]; omega)
      rw [e1, sbind, e2, sbind]
      have hlen := wn_len 24 0 v (wr ch (wr 32 s)) (by rw [Nat.zero_add, Nat.pow_one]; omega)
      rw [wr_len, wr_len] at hlen
      exact ih (v + 1) q r2 _ (by omega) (by omega) g2 (by unfold ind; omega)
    · rw [if_neg hb] at hl
      rw [if_neg hb, if_pos rfl, if_neg hb]
      exact ih (v + 1) q rp s (by omega) (by omega) h (by unfold ind; omega)
theorem C_set {i : Nat} {ch : Int32} (hi : i < 33) (hw : ∀ s, wt i s = wr ch (wr 32 s)) (h2 : sN i = 2) {mask : Int32} {N k : Nat} (hN : N ≤ 10) (hk : k ≤ N) {P : Nat → Bool} (hP : ∀ v, v < k → bit mask v = P v) (hz : ∀ v, k ≤ v → v < N → bit mask v = false) {rp : RP} {s : PG} (h : RPr rp s) (hl : s.2 + 3 * sumR (ind P) k 0 ≤ 246) :
    ∃ rp', f4_addSet rp i mask (i4 N) = some rp' ∧ RPr rp' (goN (mrk ch P) k 0 s) := by
  have := FU_eq
  have es : sumR (ind (bit mask)) N 0 = sumR (ind P) k 0 := by
    have e1 : sumR (ind (bit mask)) N 0 = sumR (ind (bit mask)) k 0 + sumR (ind (bit mask)) (N - k) (0 + k) := by
      rw [← sumR_add, show k + (N - k) = N by omega]
    have e2 : sumR (ind (bit mask)) (N - k) (0 + k) ≤ (N - k) * 0 := sumR_le (fun i h1 h2 => by
      unfold ind
      rw [hz i (by omega) (by omega), if_neg (by decide)]
      exact Nat.le_refl _)
    have e3 : sumR (ind (bit mask)) k 0 = sumR (ind P) k 0 := sumR_congr (fun i _ h2 => by
      unfold ind
      rw [hP i (by omega)])
    rw [Nat.mul_zero] at e2
    omega
  have eg : goN (mrk ch (bit mask)) N 0 s = goN (mrk ch P) k 0 s := by
    rw [show N = k + (N - k) by omega, goN_add]
    rw [goN_same (fun i t h1 h2 => by
      unfold mrk
      rw [hz i (by omega) (by omega), if_neg (by decide)])]
    exact goN_congr (fun i t _ h2 => by
      unfold mrk
      rw [hP i (by omega)])
  rw [← eg]
  exact C_set0 hi hw h2 hN N 0 FU rp s (by omega) (by omega) h (by rw [es]; exact hl)
theorem sB_32 : sB 32 = sB 13 := by decide
theorem sN_13 : sN 13 = 8 := by decide
theorem wt_15 (s : PG) : wt 15 s = wr 118 (wr 32 s) := by
  unfold wt
  rw [show sN 15 = 2 from by decide]
  show wr (sCh 15 1) (wr (sCh 15 0) s) = _
  rw [show sCh 15 0 = 32 from by decide, show sCh 15 1 = 118 from by decide]
theorem wt_16 (s : PG) : wt 16 s = wr 112 (wr 32 s) := by
  unfold wt
  rw [show sN 16 = 2 from by decide]
  show wr (sCh 16 1) (wr (sCh 16 0) s) = _
  rw [show sCh 16 0 = 32 from by decide, show sCh 16 1 = 112 from by decide]
theorem wt_14 (s : PG) : wt 14 s = wr 32 s := by
  unfold wt
  rw [show sN 14 = 1 from by decide]
  show wr (sCh 14 0) s = _
  rw [show sCh 14 0 = 32 from by decide]
theorem wt_17 (s : PG) : wt 17 s = wr 10 s := by
  unfold wt
  rw [show sN 17 = 1 from by decide]
  show wr (sCh 17 0) s = _
  rw [show sCh 17 0 = 10 from by decide]
section RL
variable {a : AS} {d : AD} {lY : LL} {tp : TP} {st : Fin 12 → SS} {w : Nat → Int64} {mu : MU} {th : Int32} {ou : Nat → Int64}
/-- the lengths on the way through a line -/
theorem lne_steps (hW : WFs a) (hD : WFd a d) {c : Nat} (hc : c < AS_nC a) (s : PG) :
    (wt 13 s).2 = s.2 + 8 ∧ (wn 24 c (wt 13 s)).2 ≤ s.2 + 9 ∧ (wn 24 (prz a d c) (wr 32 (wn 24 c (wt 13 s)))).2 ≤ s.2 + 20 ∧
    sumR (ind (vOn a d c)) (AS_nV a) 0 ≤ sumR (ind (touV a c)) (AS_nV a) 0 ∧ sumR (ind (pOn a d c)) (AS_nP a) 0 ≤ sumR (ind (touP a c)) (AS_nP a) 0 ∧
    (goN (mrk 118 (vOn a d c)) (AS_nV a) 0 (wn 24 (prz a d c) (wr 32 (wn 24 c (wt 13 s))))).2 ≤ s.2 + 20 + 3 * sumR (ind (touV a c)) (AS_nV a) 0 ∧
    (goN (mrk 112 (pOn a d c)) (AS_nP a) 0 (goN (mrk 118 (vOn a d c)) (AS_nV a) 0 (wn 24 (prz a d c) (wr 32 (wn 24 c (wt 13 s)))))).2 ≤ s.2 + 20 + 3 * kAt a c := by
  have hN := hW.1
  have hp := prz_le hW hD (e := c) (Or.inr hc)
  have l1 : (wt 13 s).2 = s.2 + 8 := by
    unfold wt
    rw [goW_len, sN_13]
  have l2 := wn_len 24 0 c (wt 13 s) (by rw [Nat.zero_add, Nat.pow_one]; omega)
  have l3 := wn_len 24 9 (prz a d c) (wr 32 (wn 24 c (wt 13 s))) (by omega)
  rw [wr_len] at l3
  have l4 : sumR (ind (vOn a d c)) (AS_nV a) 0 ≤ sumR (ind (touV a c)) (AS_nV a) 0 := sumR_mono (fun i _ _ => by
    unfold ind vOn
    cases touV a c i <;> cases AD_opn d i <;> decide)
  have l5 : sumR (ind (pOn a d c)) (AS_nP a) 0 ≤ sumR (ind (touP a c)) (AS_nP a) 0 := sumR_mono (fun i _ _ => by
    unfold ind pOn
    cases touP a c i <;> cases AD_run d i <;> decide)
  have l6 := mrk_len 118 (vOn a d c) (AS_nV a) 0 (wn 24 (prz a d c) (wr 32 (wn 24 c (wt 13 s)))) (by omega)
  have l7 := mrk_len 112 (pOn a d c) (AS_nP a) 0 (goN (mrk 118 (vOn a d c)) (AS_nV a) 0 (wn 24 (prz a d c) (wr 32 (wn 24 c (wt 13 s))))) (by omega)
  unfold kAt
  exact ⟨l1, by omega, by omega, l4, l5, by omega, by omega⟩
theorem C_report0 (hW : WFs a) (hD : WFd a d) (hL : RCs a lY) (hS : RCd a d (st (TP_pr tp))) : ∀ (n c fu : Nat) (rp : RP) (s : PG), c + n = AS_nC a → n < fu → RPr rp s → s.2 ≤ 21 * c + 3 * sumN (kAt a) c →
    ∃ rp', f9_writeReport_B10 lY tp st fu rp (i4 c) = some (i4 (goN (lne a d) n c s).2, rp') ∧ RPr rp' (goN (lne a d) n c s) ∧ (goN (lne a d) n c s).2 ≤ 246 := by
  intro n
  have hN := hW.1
  have hK := kAt_sum hW
  induction n with
  | zero =>
    intro c fu rp s hc hf h hl
    obtain ⟨q, rfl, -⟩ := fuS hf
    have hp := sumN_part (kAt a) (m := c) (n := AS_nC a) (by omega)
    rw [f9_writeReport_B10, hL.1.1, if_pos ((i4_le (by omega) (by omega)).mpr (by omega)), h.1]
    exact ⟨rp, rfl, h, by rw [goN_zero]; omega⟩
  | succ n ih =>
    intro c fu rp s hc hf h hl
    obtain ⟨q, rfl, -⟩ := fuS hf
    have hcl : c < AS_nC a := by omega
    have hp := prz_le hW hD (e := c) (Or.inr hcl)
    have hp1 := sumN_part (kAt a) (m := c + 1) (n := AS_nC a) (by omega)
    have hp2 : sumN (kAt a) (c + 1) = sumN (kAt a) c + kAt a c := rfl
    have hka : kAt a c = sumR (ind (touV a c)) (AS_nV a) 0 + sumR (ind (touP a c)) (AS_nP a) 0 := rfl
    obtain ⟨l1, l2, l3, l4, l5, l6, l7⟩ := lne_steps hW hD hcl s
    obtain ⟨r1, e1, g1⟩ := C_text (i := 13) (by omega) h (by rw [sN_13]; omega)
    obtain ⟨r2, e2, g2⟩ := C_num (n := c) (m := 0) (by omega) (by omega) (by rw [Nat.zero_add, Nat.pow_one]; omega) g1 (by omega)
    obtain ⟨r3, e3, g3⟩ := C_text (i := 14) (by omega) g2 (by rw [show sN 14 = 1 from by decide]; omega)
    rw [wt_14] at g3
    obtain ⟨r4, e4, g4⟩ := C_num (n := prz a d c) (m := 9) (by omega) (by omega) (by omega) g3 (by rw [wr_len]; omega)
    obtain ⟨r5, e5, g5⟩ := C_set (i := 15) (ch := 118) (by omega) wt_15 (by decide) (mask := mskN (touV a c) (AS_nV a) &&& SS_openValves (st (TP_pr tp))) (N := 10) (k := AS_nV a) (by omega) (by omega) (P := vOn a d c) (fun v hv => by
      rw [bit_and, bit_mskN _ _ (by omega), decide_eq_true hv, Bool.true_and, (hS.2.2.2.2.2.1 v hv).1]
      rfl) (fun v h1 h2 => by rw [bit_and, bit_mskN _ _ (by omega), decide_eq_false (by omega), Bool.false_and, Bool.false_and]) g4 (by omega)
    obtain ⟨r6, e6, g6⟩ := C_set (i := 16) (ch := 112) (by omega) wt_16 (by decide) (mask := mskN (touP a c) (AS_nP a) &&& SS_runningPumps (st (TP_pr tp))) (N := 6) (k := AS_nP a) (by omega) (by omega) (P := pOn a d c) (fun v hv => by
      rw [bit_and, bit_mskN _ _ (by omega), decide_eq_true hv, Bool.true_and, (hS.2.2.2.2.2.2.1 v hv).1]
      rfl) (fun v h1 h2 => by rw [bit_and, bit_mskN _ _ (by omega), decide_eq_false (by omega), Bool.false_and, Bool.false_and]) g5 (by omega)
    obtain ⟨r7, e7, g7⟩ := C_text (i := 17) (by omega) g6 (by rw [show sN 17 = 1 from by decide]; omega)
    rw [wt_17] at g7
    rw [f9_writeReport_B10, hL.1.1, if_neg (fun q => by have := (i4_le (by omega) (by omega)).mp q; omega), e1, sbind, e2, sbind, e3, sbind, gdi _ (by omega) (by omega), ix4 (by omega), C_pr hS (Or.inr hcl), e4, sbind, C_valvesOf hW hL hcl, sbind, show f4_addSet r4 15 _ 10 = _ from e5, sbind, C_pumpsOf hW hL hcl, sbind, show f4_addSet r5 16 _ 6 = _ from e6, sbind, e7, sbind, ad1, goN_succ]
    exact ih (c + 1) q r7 _ (by omega) (by omega) g7 (by
      show (goN (mrk 112 (pOn a d c)) (AS_nP a) 0 _).2 + 1 ≤ _
      rw [hp2]
      omega)
theorem M_text {mg : MG} {s : PG} (h : MGr mg s) (hl : s.2 + 8 ≤ 900) (c : Int32) : ∃ mg', f10_printChamber w mg c = ((f10_printNumber 24 mg' c.toInt64).bind fun u32 => (f10_print u32 32).bind fun u38 => (f10_pressure w c).bind fun u44 => (f10_printNumber 24 u38 u44).bind fun u47 => f10_printChamber_B52 w FU u47 c 0) ∧ MGr mg' (wt 13 s) := by
  have := FU_eq
  have e32 : sN 32 = 8 := by decide
  have key : ∀ (n v fu : Nat) (mg : MG) (s : PG), v + n = 8 → n < fu → MGr mg s → s.2 + n ≤ 900 → ∃ mg', f10_printChamber_B6 w fu mg c (i4 v) = ((f10_printNumber 24 mg' c.toInt64).bind fun u32 => (f10_print u32 32).bind fun u38 => (f10_pressure w c).bind fun u44 => (f10_printNumber 24 u38 u44).bind fun u47 => f10_printChamber_B52 w FU u47 c 0) ∧ MGr mg' (goN (fun j s => wr (sCh 13 j) s) n v s) := by
    intro n
    induction n with
    | zero =>
      intro v fu mg s hv hf h hl
      obtain ⟨q, rfl, -⟩ := fuS hf
      obtain rfl : v = 8 := by omega
      rw [f10_printChamber_B6, if_pos (show sLen 32 ≤ i4 8 by decide)]
      exact ⟨mg, rfl, h⟩
    | succ n ih =>
      intro v fu mg s hv hf h hl
      obtain ⟨q, rfl, -⟩ := fuS hf
      rw [f10_printChamber_B6, if_neg (show ¬ (sLen 32 ≤ i4 v) from fun q => by have := (i4_le (a := sN 32) (by omega) (by omega)).mp q; omega), gdi _ (by omega) (by omega), ix4 (by omega), ad1, goN_succ, show sCh 32 v = sCh 13 v by unfold sCh; rw [sB_32]]
      obtain ⟨m1, e1, g1⟩ := M_print (sCh 13 v) h (by omega)
      rw [e1, sbind]
      exact ih (v + 1) q m1 _ (by omega) (by omega) g1 (by rw [wr_len]; omega)
  obtain ⟨mg', e, g⟩ := key 8 0 FU mg s (by omega) (by omega) h hl
  refine ⟨mg', e, ?_⟩
  unfold wt
  rw [sN_13]
  exact g
theorem M_mark {mg : MG} {s : PG} (ch : Int32) {v : Nat} (hv : v < 10) (h : MGr mg s) (hl : s.2 + 3 ≤ 900) : ∃ mg', f10_printMark mg ch (i4 v) = some mg' ∧ MGr mg' (wn 24 v (wr ch (wr 32 s))) := by
  obtain ⟨m1, e1, g1⟩ := M_print 32 h (by omega)
  obtain ⟨m2, e2, g2⟩ := M_print ch g1 (by rw [wr_len]; omega)
  obtain ⟨m3, e3, g3⟩ := M_num 24 0 v m2 _ (by omega) (by rw [Nat.zero_add, Nat.pow_one]; omega) (by omega) g2 (by rw [wr_len, wr_len]; omega)
  refine ⟨m3, ?_, g3⟩
  unfold f10_printMark
  rw [e1, sbind, e2, sbind, i4_to8 (by omega), e3, sbind]
theorem M_set97 (hW : WFs a) (hA : RMs a w) (hB : RMd a d w) {c : Nat} (hc : c < AS_nC a) : ∀ (n v fu : Nat) (mg : MG) (s : PG), v + n = AS_nP a → n < fu → MGr mg s → s.2 + 3 * n < 900 →
    ∃ mg', f10_printChamber_B97 w fu mg (i4 c) (i4 v) = some mg' ∧ MGr mg' (wr 10 (goN (mrk 112 (pOn a d c)) n v s)) := by
  intro n
  have hN := hW.1
  induction n with
  | zero =>
    intro v fu mg s hv hf h hl
    obtain ⟨q, rfl, -⟩ := fuS hf
    obtain ⟨m1, e1, g1⟩ := M_print 10 h (by omega)
    rw [f10_printChamber_B97, M_nP hA, sbind, if_pos ((i4_le (by omega) (by omega)).mpr (by omega)), e1, sbind]
    exact ⟨m1, rfl, g1⟩
  | succ n ih =>
    intro v fu mg s hv hf h hl
    obtain ⟨q, rfl, -⟩ := fuS hf
    have hvl : v < AS_nP a := by omega
    have h1 := (hW.2.2.1 v hvl).1
    rw [f10_printChamber_B97, M_nP hA, sbind, if_neg (fun q => by have := (i4_le (by omega) (by omega)).mp q; omega), M_isRunning hW hB hvl, sbind, ad1, goN_succ]
    unfold mrk pOn
    by_cases hO : AD_run d v = true
    · rw [if_pos hO, if_neg one_ne, M_pC hW hA hvl, sbind, hO, Bool.and_true]
      by_cases hT : AS_pC a v = c
      · rw [if_pos ((i4_eq (by omega) (by omega)).mpr hT), if_pos (show touP a c v = true from decide_eq_true hT)]
        obtain ⟨m1, e1, g1⟩ := M_mark 112 (v := v) (by omega) h (by omega)
        have hlen := wn_len 24 0 v (wr 112 (wr 32 s)) (by rw [Nat.zero_add, Nat.pow_one]; omega)
        rw [wr_len, wr_len] at hlen
        rw [e1, sbind]
        exact ih (v + 1) q m1 _ (by omega) (by omega) g1 (by omega)
      · rw [if_neg (fun q => hT ((i4_eq (by omega) (by omega)).mp q)), if_neg (show ¬ touP a c v = true from fun q => hT (of_decide_eq_true q))]
        exact ih (v + 1) q mg s (by omega) (by omega) h (by omega)
    · rw [if_neg hO, if_pos rfl, (by simpa using hO : AD_run d v = false), Bool.and_false, if_neg (by decide)]
      exact ih (v + 1) q mg s (by omega) (by omega) h (by omega)
theorem M_set52 (hW : WFs a) (hA : RMs a w) (hB : RMd a d w) {c : Nat} (hc : c < AS_nC a) : ∀ (n v fu : Nat) (mg : MG) (s : PG), v + n = AS_nV a → n < fu → MGr mg s → s.2 + 3 * n + 18 < 900 →
    ∃ mg', f10_printChamber_B52 w fu mg (i4 c) (i4 v) = some mg' ∧ MGr mg' (wr 10 (goN (mrk 112 (pOn a d c)) (AS_nP a) 0 (goN (mrk 118 (vOn a d c)) n v s))) := by
  intro n
  have hN := hW.1
  have := FU_eq
  induction n with
  | zero =>
    intro v fu mg s hv hf h hl
    obtain ⟨q, rfl, -⟩ := fuS hf
    rw [f10_printChamber_B52, M_nV hA, sbind, if_pos ((i4_le (by omega) (by omega)).mpr (by omega))]
    exact M_set97 hW hA hB hc (AS_nP a) 0 FU mg s (by omega) (by omega) h (by omega)
  | succ n ih =>
    intro v fu mg s hv hf h hl
    obtain ⟨q, rfl, -⟩ := fuS hf
    have hvl : v < AS_nV a := by omega
    rw [f10_printChamber_B52, M_nV hA, sbind, if_neg (fun q => by have := (i4_le (by omega) (by omega)).mp q; omega), M_isOpen hW hB hvl, sbind, ad1, goN_succ]
    unfold mrk vOn
    by_cases hO : AD_opn d v = true
    · rw [if_pos hO, if_neg one_ne, M_valvesOf hW hA hc, sbind, bit_ask _ (by omega), bit_mskN _ _ (by omega), decide_eq_true hvl, Bool.true_and, hO, Bool.and_true]
      by_cases hT : touV a c v = true
      · rw [if_pos hT, if_pos rfl, if_pos hT]
        obtain ⟨m1, e1, g1⟩ := M_mark 118 (v := v) (by omega) h (by omega)
        have hlen := wn_len 24 0 v (wr 118 (wr 32 s)) (by rw [Nat.zero_add, Nat.pow_one]; omega)
        rw [wr_len, wr_len] at hlen
        rw [e1, sbind]
        exact ih (v + 1) q m1 _ (by omega) (by omega) g1 (by omega)
      · rw [if_neg hT, if_neg (by decide), if_neg hT]
        exact ih (v + 1) q mg s (by omega) (by omega) h (by omega)
    · rw [if_neg hO, if_pos rfl, (by simpa using hO : AD_opn d v = false), Bool.and_false, if_neg (by decide)]
      exact ih (v + 1) q mg s (by omega) (by omega) h (by omega)
theorem M_report0 (hW : WFs a) (hD : WFd a d) (hA : RMs a w) (hB : RMd a d w) : ∀ (n c fu : Nat) (mg : MG) (s : PG), c + n = AS_nC a → n < fu → MGr mg s → s.2 ≤ 21 * c + 3 * sumN (kAt a) c →
    ∃ mg', f10_writeReport_B12 w fu 0 mg (i4 c) = some (i4 (goN (lne a d) n c s).2, 0, mg') ∧ MGr mg' (goN (lne a d) n c s) := by
  intro n
  have hN := hW.1
  have hK := kAt_sum hW
  have := FU_eq
  induction n with
  | zero =>
    intro c fu mg s hc hf h hl
    obtain ⟨q, rfl, -⟩ := fuS hf
    rw [f10_writeReport_B12, M_nC hA, sbind, if_pos ((i4_le (by omega) (by omega)).mpr (by omega)), h.1]
    exact ⟨mg, rfl, h⟩
  | succ n ih =>
    intro c fu mg s hc hf h hl
    obtain ⟨q, rfl, -⟩ := fuS hf
    have hcl : c < AS_nC a := by omega
    have hp := prz_le hW hD (e := c) (Or.inr hcl)
    have hp1 := sumN_part (kAt a) (m := c + 1) (n := AS_nC a) (by omega)
    have hp2 : sumN (kAt a) (c + 1) = sumN (kAt a) c + kAt a c := rfl
    obtain ⟨l1, l2, l3, l4, l5, l6, l7⟩ := lne_steps hW hD hcl s
    obtain ⟨m1, e1, g1⟩ := M_text (w := w) h (by omega) (i4 c)
    obtain ⟨m2, e2, g2⟩ := M_num 24 0 c m1 _ (by omega) (by rw [Nat.zero_add, Nat.pow_one]; omega) (by omega) g1 (by omega)
    obtain ⟨m3, e3, g3⟩ := M_print 32 g2 (by omega)
    obtain ⟨m4, e4, g4⟩ := M_num 24 9 (prz a d c) m3 _ (by omega) (by omega) (by omega) g3 (by rw [wr_len]; omega)
    obtain ⟨m5, e5, g5⟩ := M_set52 hW hA hB hcl (AS_nV a) 0 FU m4 _ (by omega) (by omega) g4 (by omega)
    rw [f10_writeReport_B12, M_nC hA, sbind, if_neg (fun q => by have := (i4_le (by omega) (by omega)).mp q; omega), e1, i4_to8 (by omega), e2, sbind, e3, sbind, M_prc hW hD hA hB hcl, sbind, e4, sbind, show f10_printChamber_B52 w FU m4 (i4 c) 0 = _ from e5, sbind, ad1, goN_succ]
    exact ih (c + 1) q m5 _ (by omega) (by omega) g5 (by
      show (goN (mrk 112 (pOn a d c)) (AS_nP a) 0 _).2 + 1 ≤ _
      rw [hp2]
      omega)
/-- report and page say the same -/
def INVp (rp : RP) (mg : MG) : Prop := ∃ s : PG, RPr rp s ∧ MGr mg s ∧ s.2 ≤ 246
theorem S_writeReport (hI : INVd a d lY tp st w mu) (rp : RP) (mg : MG) : ∃ r1 r2, f9_writeReport lY tp st rp = some r1 ∧ f10_writeReport w th mg = some r2 ∧ r1.1 = r2.1 ∧ r2.2.1 = 0 ∧ INVp r1.2 r2.2.2 := by
  obtain ⟨⟨hW, hD, hL, hS⟩, hA, hB, -⟩ := hI
  have hN := hW.1
  have := FU_eq
  obtain ⟨rp', e1, g1, l1⟩ := C_report0 hW hD hL hS (AS_nC a) 0 FU (RP_set_length rp 0) (RP_bytes rp, 0) (by omega) (by omega) ⟨rfl, fun i hi => rfl⟩ (Nat.zero_le _)
  obtain ⟨mg', e2, g2⟩ := M_report0 hW hD hA hB (AS_nC a) 0 FU (MG_set_pageLength mg 0) (RP_bytes rp, 0) (by omega) (by omega) ⟨rfl, fun i hi => absurd hi (Nat.not_lt_zero i)⟩ (Nat.zero_le _)
  exact ⟨_, _, e1, e2, rfl, rfl, _, g1, g2, l1⟩
theorem S_reportByte {rp : RP} {mg : MG} (hP : INVp rp mg) (x : Int32) : ∃ r1 r2, fL_reportByte rp ou x = some r1 ∧ f10_reportByte mg th x = some r2 ∧ GOODv r1 r2 := by
  obtain ⟨s, h1, h2, h3⟩ := hP
  have hhi : ((MG_pageLength mg) - 1).toInt64.toInt = (s.2 : Int) - 1 := by
    rw [Int32.toInt_toInt64, h2.1]
    exact i4_neg_lt (x := s.2) (y := 1) (by omega) (by omega)
  rcases in_cases x s.2 with ⟨i, hi, hi2, rfl⟩ | hx
  · refine YES_v (ou := ou) (s.1 i) ?_ ?_
    · unfold fL_reportByte f9_reportByte
      rw [if_neg (lt0_i4 (by omega)), h1.1, if_pos ((i4_lt (by omega) (by omega)).mpr hi), gdi _ (by omega) (by omega), ix4 (by omega), h1.2 i hi]
      rfl
    · unfold f10_reportByte
      rw [M_in_y (by rw [z8, i4_toInt (by omega)]; omega) (by rw [hhi, i4_toInt (by omega)]; omega), sbind, fails_y, sbind]
      dsimp only
      rw [if_pos rfl, gdi _ (by omega) (by omega), ix4 (by omega), h2.2 i hi]
  · refine NO_v (ou := ou) 1 (by decide) ?_ ?_
    · unfold fL_reportByte f9_reportByte
      by_cases q1 : x < 0
      · rw [if_pos q1]
        rfl
      · rw [if_neg q1]
        rw [Int32.lt_iff_toInt_lt, z4] at q1
        rw [if_neg (show ¬ (x < RP_length rp) from fun q => by rw [h1.1, Int32.lt_iff_toInt_lt, i4_toInt (by omega)] at q; omega)]
        rfl
    · unfold f10_reportByte
      rw [M_in_n (by rw [z8, hhi]; omega), sbind, fails_n, sbind]
      dsimp only
      rw [if_neg one_ne]
end RL
