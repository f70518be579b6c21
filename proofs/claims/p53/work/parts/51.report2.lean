/-! the report's lines -/
def mrk (ch : Int32) (P : Nat → Bool) (v : Nat) (s : PG) : PG := if P v = true then wn 24 v (wr ch (wr 32 s)) else s
def vOn (a : AS) (d : AD) (c v : Nat) : Bool := touV a c v && AD_opn d v
def pOn (a : AS) (d : AD) (c p : Nat) : Bool := touP a c p && AD_run d p
def lne (a : AS) (d : AD) (c : Nat) (s : PG) : PG := wr 10 (goN (mrk 112 (pOn a d c)) (AS_nP a) 0 (goN (mrk 118 (vOn a d c)) (AS_nV a) 0 (wn 24 (prz a d c) (wr 32 (wn 24 c (wt 5 s))))))
def ind (P : Nat → Bool) (v : Nat) : Nat := if P v = true then 1 else 0
theorem goN_add {σ : Type} (f : Nat → σ → σ) : ∀ (m n v : Nat) (s : σ), goN f (m + n) v s = goN f n (v + m) (goN f m v s)
  | 0, n, v, s => by rw [Nat.zero_add, Nat.add_zero]; rfl
  | m + 1, n, v, s => by
    rw [show m + 1 + n = (m + n) + 1 by omega, goN_succ, goN_succ, goN_add f m n (v + 1), show v + 1 + m = v + (m + 1) by omega]
theorem goN_congr {σ : Type} {f g : Nat → σ → σ} : ∀ {n v : Nat} {s : σ}, (∀ i t, v ≤ i → i < v + n → f i t = g i t) → goN f n v s = goN g n v s
  | 0, _, _, _ => rfl
  | n + 1, v, s, h => by
    rw [goN_succ, goN_succ, h v s (Nat.le_refl v) (by omega), goN_congr (n := n) (v := v + 1) (fun i t h1 h2 => h i t (by omega) (by omega))]
theorem goN_same {σ : Type} {f : Nat → σ → σ} : ∀ {n v : Nat} {s : σ}, (∀ i t, v ≤ i → i < v + n → f i t = t) → goN f n v s = s
  | 0, _, _, _ => rfl
  | n + 1, v, s, h => by
    rw [goN_succ, h v s (Nat.le_refl v) (by omega), goN_same (n := n) (v := v + 1) (fun i t h1 h2 => h i t (by omega) (by omega))]
theorem sumR_add (g : Nat → Nat) : ∀ m n v, sumR g (m + n) v = sumR g m v + sumR g n (v + m)
  | 0, n, v => by simp [sumR]
  | m + 1, n, v => by
    have := sumR_add g m n (v + 1)
    rw [show m + 1 + n = (m + n) + 1 by omega]
    show g v + sumR g (m + n) (v + 1) = g v + sumR g m (v + 1) + sumR g n (v + (m + 1))
    rw [this, show v + 1 + m = v + (m + 1) by omega]
    omega
theorem sumR_mono {f g : Nat → Nat} : ∀ {n x : Nat}, (∀ i, x ≤ i → i < x + n → f i ≤ g i) → sumR f n x ≤ sumR g n x
  | 0, _, _ => Nat.le_refl _
  | n + 1, x, h => by
    have h1 := sumR_mono (n := n) (x := x + 1) (fun i h1 h2 => h i (by omega) (by omega))
    have h2 := h x (Nat.le_refl x) (by omega)
    unfold sumR
    omega
theorem sumN_add (f g : Nat → Nat) : ∀ n, sumN (fun i => f i + g i) n = sumN f n + sumN g n
  | 0 => rfl
  | n + 1 => by
    have := sumN_add f g n
    show sumN (fun i => f i + g i) n + (f n + g n) = sumN f n + f n + (sumN g n + g n)
    omega
theorem sumN_zero : ∀ n, sumN (fun _ => 0) n = 0
  | 0 => rfl
  | n + 1 => by
    show sumN (fun _ => 0) n + 0 = 0
    rw [sumN_zero n]
theorem sum_swap (g : Nat → Nat → Nat) (C : Nat) : ∀ n v, sumN (fun c => sumR (g c) n v) C = sumR (fun v => sumN (fun c => g c v) C) n v
  | 0, v => sumN_zero C
  | n + 1, v => by
    show sumN (fun c => g c v + sumR (g c) n (v + 1)) C = sumN (fun c => g c v) C + sumR (fun v => sumN (fun c => g c v) C) n (v + 1)
    rw [sumN_add, sum_swap g C n (v + 1)]
theorem sumN_one (k : Nat) : ∀ n, sumN (fun c => if k = c then 1 else 0) n = if k < n then 1 else 0
  | 0 => by rw [if_neg (by omega)]; rfl
  | n + 1 => by
    show sumN (fun c => if k = c then 1 else 0) n + (if k = n then 1 else 0) = _
    rw [sumN_one k n]
    split <;> split <;> split <;> omega
def kAt (a : AS) (c : Nat) : Nat := sumR (ind (touV a c)) (AS_nV a) 0 + sumR (ind (touP a c)) (AS_nP a) 0
theorem kAt_sum {a : AS} (hW : WFs a) : sumN (kAt a) (AS_nC a) ≤ 26 := by
  have hN := hW.1
  have e : sumN (kAt a) (AS_nC a) = sumR (fun v => sumN (fun c => ind (touV a c) v) (AS_nC a)) (AS_nV a) 0 + sumR (fun p => sumN (fun c => ind (touP a c) p) (AS_nC a)) (AS_nP a) 0 := by
    rw [← sum_swap (fun c => ind (touV a c)), ← sum_swap (fun c => ind (touP a c)), ← sumN_add]
    rfl
  have h1 : ∀ v, sumN (fun c => ind (touV a c) v) (AS_nC a) ≤ 2 := by
    intro v
    have l1 : sumN (fun c => ind (touV a c) v) (AS_nC a) ≤ sumN (fun c => (if AS_vA a v = c then 1 else 0) + (if AS_vB a v = c then 1 else 0)) (AS_nC a) := by
      refine sumN_mono (fun c _ => ?_)
      unfold ind touV
      by_cases q1 : AS_vA a v = c
      · rw [if_pos q1, if_pos (decide_eq_true (Or.inl q1))]; omega
      · by_cases q2 : AS_vB a v = c
        · rw [if_pos q2, if_pos (decide_eq_true (Or.inr q2))]; omega
        · rw [if_neg (fun h => (of_decide_eq_true h).elim q1 q2)]; omega
    rw [sumN_add, sumN_one, sumN_one] at l1
    split at l1 <;> split at l1 <;> omega
  have h2 : ∀ p, sumN (fun c => ind (touP a c) p) (AS_nC a) ≤ 1 := by
    intro p
    have l1 : sumN (fun c => ind (touP a c) p) (AS_nC a) = sumN (fun c => if AS_pC a p = c then 1 else 0) (AS_nC a) := by
      refine sumN_congr (fun c _ => ?_)
      unfold ind touP
      by_cases q1 : AS_pC a p = c
      · rw [if_pos q1, if_pos (decide_eq_true q1)]
      · rw [if_neg q1, if_neg (fun h => q1 (of_decide_eq_true h))]
    rw [sumN_one] at l1
    split at l1 <;> omega
  have h3 := sumR_le (g := fun v => sumN (fun c => ind (touV a c) v) (AS_nC a)) (b := 2) (n := AS_nV a) (x := 0) (fun i _ _ => h1 i)
  have h4 := sumR_le (g := fun p => sumN (fun c => ind (touP a c) p) (AS_nC a)) (b := 1) (n := AS_nP a) (x := 0) (fun i _ _ => h2 i)
  omega
theorem sumN_part (g : Nat → Nat) : ∀ {m n : Nat}, m ≤ n → sumN g m ≤ sumN g n
  | m, 0, h => by rw [show m = 0 by omega]; exact Nat.le_refl _
  | m, n + 1, h => by
    by_cases he : m = n + 1
    · rw [he]; exact Nat.le_refl _
    · have := sumN_part g (m := m) (n := n) (by omega)
      show _ ≤ sumN g n + g n
      omega
theorem mrk_len (ch : Int32) (P : Nat → Bool) : ∀ (n v : Nat) (s : PG), v + n ≤ 10 → (goN (mrk ch P) n v s).2 ≤ s.2 + 3 * sumR (ind P) n v
  | 0, _, _, _ => Nat.le_refl _
  | n + 1, v, s, h => by
    have := mrk_len ch P n (v + 1) (mrk ch P v s) (by omega)
    rw [goN_succ]
    show _ ≤ s.2 + 3 * (ind P v + sumR (ind P) n (v + 1))
    have h2 : (mrk ch P v s).2 ≤ s.2 + 3 * ind P v := by
      unfold mrk ind
      by_cases hp : P v = true
      · rw [if_pos hp, if_pos hp]
        have := wn_len 24 0 v (wr ch (wr 32 s)) (by rw [Nat.zero_add, Nat.pow_one]; omega)
        rw [wr_len, wr_len] at this
        omega
      · rw [if_neg hp, if_neg hp]; omega
    omega
theorem C_set0 {i : Nat} {ch : Int32} (hi : i < 11) (hw : ∀ s, wt i s = wr ch (wr 32 s)) (h2 : sN i = 2) {mask : Int32} {N : Nat} (hN : N ≤ 10) : ∀ (n v fu : Nat) (rp : RP) (s : PG), v + n = N → n < fu → RPr rp s → s.2 + 3 * sumR (ind (bit mask)) n v ≤ 246 →
    ∃ rp', f4_addSet_B3 fu rp i mask (i4 N) (i4 v) = some rp' ∧ RPr rp' (goN (mrk ch (bit mask)) n v s) := by
  intro n
  induction n with
  | zero =>
    intro v fu rp s hv hf h hl
    obtain ⟨q, rfl, -⟩ := fuS hf
    rw [f4_addSet_B3, if_pos ((i4_le (by omega) (by omega)).mpr (by omega))]
    exact ⟨rp, rfl, h⟩
  | succ n ih =>
    intro v fu rp s hv hf h hl
    obtain ⟨q, rfl, -⟩ := fuS hf
    rw [show sumR (ind (bit mask)) (n + 1) v = ind (bit mask) v + sumR (ind (bit mask)) n (v + 1) from rfl] at hl
    rw [f4_addSet_B3, if_neg (fun q => by have := (i4_le (by omega) (by omega)).mp q; omega), C_has _ (by omega), sbind, ad1, goN_succ]
    unfold mrk
    unfold ind at hl
    by_cases hb : bit mask v = true
    · rw [if_pos hb] at hl
      rw [if_pos hb, if_neg one_ne, if_pos hb]
      obtain ⟨r1, e1, g1⟩ := C_text hi h (by omega)
      rw [hw] at g1
      obtain ⟨r2, e2, g2⟩ := C_num (n := v) (m := 0) (by omega) (by omega) (by rw [Nat.zero_add, Nat.pow_one]; omega) g1 (by rw [wr_len, wr_len]; omega)
      rw [e1, sbind, e2, sbind]
      have hlen := wn_len 24 0 v (wr ch (wr 32 s)) (by rw [Nat.zero_add, Nat.pow_one]; omega)
      rw [wr_len, wr_len] at hlen
      exact ih (v + 1) q r2 _ (by omega) (by omega) g2 (by unfold ind; omega)
    · rw [if_neg hb] at hl
      rw [if_neg hb, if_pos rfl, if_neg hb]
      exact ih (v + 1) q rp s (by omega) (by omega) h (by unfold ind; omega)
theorem C_set {i : Nat} {ch : Int32} (hi : i < 11) (hw : ∀ s, wt i s = wr ch (wr 32 s)) (h2 : sN i = 2) {mask : Int32} {N k : Nat} (hN : N ≤ 10) (hk : k ≤ N) {P : Nat → Bool} (hP : ∀ v, v < k → bit mask v = P v) (hz : ∀ v, k ≤ v → v < N → bit mask v = false) {rp : RP} {s : PG} (h : RPr rp s) (hl : s.2 + 3 * sumR (ind P) k 0 ≤ 246) :
    ∃ rp', f4_addSet rp i mask (i4 N) = some rp' ∧ RPr rp' (goN (mrk ch P) k 0 s) := by
  have := FU_eq
  have es : sumR (ind (bit mask)) N 0 = sumR (ind P) k 0 := by
    have e1 : sumR (ind (bit mask)) N 0 = sumR (ind (bit mask)) k 0 + sumR (ind (bit mask)) (N - k) (0 + k) := by
      rw [← sumR_add, show k + (N - k) = N by omega]
    have e2 : sumR (ind (bit mask)) (N - k) (0 + k) ≤ (N - k) * 0 := sumR_le (fun i h1 h2 => by
      unfold ind
      rw [hz i (by omega) (by omega), if_neg (by decide)]
      exact Nat.le_refl _)
    have e3 : sumR (ind (bit mask)) k 0 = sumR (ind P) k 0 := sumR_congr (fun i _ h2 => by
      unfold ind
      rw [hP i (by omega)])
    rw [Nat.mul_zero] at e2
    omega
  have eg : goN (mrk ch (bit mask)) N 0 s = goN (mrk ch P) k 0 s := by
    rw [show N = k + (N - k) by omega, goN_add]
    rw [goN_same (fun i t h1 h2 => by
      unfold mrk
      rw [hz i (by omega) (by omega), if_neg (by decide)])]
    exact goN_congr (fun i t _ h2 => by
      unfold mrk
      rw [hP i (by omega)])
  rw [← eg]
  exact C_set0 hi hw h2 hN N 0 FU rp s (by omega) (by omega) h (by rw [es]; exact hl)
theorem sN_5 : sN 5 = 8 := by decide
theorem wt_7 (s : PG) : wt 7 s = wr 118 (wr 32 s) := by
  unfold wt
  rw [show sN 7 = 2 from by decide]
  show wr (sCh 7 1) (wr (sCh 7 0) s) = _
  rw [show sCh 7 0 = 32 from by decide, show sCh 7 1 = 118 from by decide]
theorem wt_8 (s : PG) : wt 8 s = wr 112 (wr 32 s) := by
  unfold wt
  rw [show sN 8 = 2 from by decide]
  show wr (sCh 8 1) (wr (sCh 8 0) s) = _
  rw [show sCh 8 0 = 32 from by decide, show sCh 8 1 = 112 from by decide]
theorem wt_6 (s : PG) : wt 6 s = wr 32 s := by
  unfold wt
  rw [show sN 6 = 1 from by decide]
  show wr (sCh 6 0) s = _
  rw [show sCh 6 0 = 32 from by decide]
theorem wt_9 (s : PG) : wt 9 s = wr 10 s := by
  unfold wt
  rw [show sN 9 = 1 from by decide]
  show wr (sCh 9 0) s = _
  rw [show sCh 9 0 = 10 from by decide]
section RL
variable {a : AS} {d : AD} {lY : LL} {tp : TP} {st : Fin 12 → SS}
/-- the lengths on the way through a line -/
theorem lne_steps (hW : WFs a) (hD : WFd a d) {c : Nat} (hc : c < AS_nC a) (s : PG) :
    (wt 5 s).2 = s.2 + 8 ∧ (wn 24 c (wt 5 s)).2 ≤ s.2 + 9 ∧ (wn 24 (prz a d c) (wr 32 (wn 24 c (wt 5 s)))).2 ≤ s.2 + 20 ∧
    sumR (ind (vOn a d c)) (AS_nV a) 0 ≤ sumR (ind (touV a c)) (AS_nV a) 0 ∧ sumR (ind (pOn a d c)) (AS_nP a) 0 ≤ sumR (ind (touP a c)) (AS_nP a) 0 ∧
    (goN (mrk 118 (vOn a d c)) (AS_nV a) 0 (wn 24 (prz a d c) (wr 32 (wn 24 c (wt 5 s))))).2 ≤ s.2 + 20 + 3 * sumR (ind (touV a c)) (AS_nV a) 0 ∧
    (goN (mrk 112 (pOn a d c)) (AS_nP a) 0 (goN (mrk 118 (vOn a d c)) (AS_nV a) 0 (wn 24 (prz a d c) (wr 32 (wn 24 c (wt 5 s)))))).2 ≤ s.2 + 20 + 3 * kAt a c := by
  have hN := hW.1
  have hp := prz_le hW hD (e := c) (Or.inr hc)
  have l1 : (wt 5 s).2 = s.2 + 8 := by
    unfold wt
    rw [goW_len, sN_5]
  have l2 := wn_len 24 0 c (wt 5 s) (by rw [Nat.zero_add, Nat.pow_one]; omega)
  have l3 := wn_len 24 9 (prz a d c) (wr 32 (wn 24 c (wt 5 s))) (by omega)
  rw [wr_len] at l3
  have l4 : sumR (ind (vOn a d c)) (AS_nV a) 0 ≤ sumR (ind (touV a c)) (AS_nV a) 0 := sumR_mono (fun i _ _ => by
    unfold ind vOn
    cases touV a c i <;> cases AD_opn d i <;> decide)
  have l5 : sumR (ind (pOn a d c)) (AS_nP a) 0 ≤ sumR (ind (touP a c)) (AS_nP a) 0 := sumR_mono (fun i _ _ => by
    unfold ind pOn
    cases touP a c i <;> cases AD_run d i <;> decide)
  have l6 := mrk_len 118 (vOn a d c) (AS_nV a) 0 (wn 24 (prz a d c) (wr 32 (wn 24 c (wt 5 s)))) (by omega)
  have l7 := mrk_len 112 (pOn a d c) (AS_nP a) 0 (goN (mrk 118 (vOn a d c)) (AS_nV a) 0 (wn 24 (prz a d c) (wr 32 (wn 24 c (wt 5 s))))) (by omega)
  unfold kAt
  exact ⟨l1, by omega, by omega, l4, l5, by omega, by omega⟩
theorem C_report0 (hW : WFs a) (hD : WFd a d) (hL : RCs a lY) (hS : RCd a d (st (TP_pr tp))) : ∀ (n c fu : Nat) (rp : RP) (s : PG), c + n = AS_nC a → n < fu → RPr rp s → s.2 ≤ 21 * c + 3 * sumN (kAt a) c →
    ∃ rp', f9_writeReport_B10 lY tp st fu rp (i4 c) = some (i4 (goN (lne a d) n c s).2, rp') ∧ RPr rp' (goN (lne a d) n c s) ∧ (goN (lne a d) n c s).2 ≤ 246 := by
  intro n
  have hN := hW.1
  have hK := kAt_sum hW
  induction n with
  | zero =>
    intro c fu rp s hc hf h hl
    obtain ⟨q, rfl, -⟩ := fuS hf
    have hp := sumN_part (kAt a) (m := c) (n := AS_nC a) (by omega)
    rw [f9_writeReport_B10, hL.1.1, if_pos ((i4_le (by omega) (by omega)).mpr (by omega)), h.1]
    exact ⟨rp, rfl, h, by rw [goN_zero]; omega⟩
  | succ n ih =>
    intro c fu rp s hc hf h hl
    obtain ⟨q, rfl, -⟩ := fuS hf
    have hcl : c < AS_nC a := by omega
    have hp := prz_le hW hD (e := c) (Or.inr hcl)
    have hp1 := sumN_part (kAt a) (m := c + 1) (n := AS_nC a) (by omega)
    have hp2 : sumN (kAt a) (c + 1) = sumN (kAt a) c + kAt a c := rfl
    have hka : kAt a c = sumR (ind (touV a c)) (AS_nV a) 0 + sumR (ind (touP a c)) (AS_nP a) 0 := rfl
    obtain ⟨l1, l2, l3, l4, l5, l6, l7⟩ := lne_steps hW hD hcl s
    obtain ⟨r1, e1, g1⟩ := C_text (i := 5) (by omega) h (by rw [sN_5]; omega)
    obtain ⟨r2, e2, g2⟩ := C_num (n := c) (m := 0) (by omega) (by omega) (by rw [Nat.zero_add, Nat.pow_one]; omega) g1 (by omega)
    obtain ⟨r3, e3, g3⟩ := C_text (i := 6) (by omega) g2 (by rw [show sN 6 = 1 from by decide]; omega)
    rw [wt_6] at g3
    obtain ⟨r4, e4, g4⟩ := C_num (n := prz a d c) (m := 9) (by omega) (by omega) (by omega) g3 (by rw [wr_len]; omega)
    obtain ⟨r5, e5, g5⟩ := C_set (i := 7) (ch := 118) (by omega) wt_7 (by decide) (mask := mskN (touV a c) (AS_nV a) &&& SS_openValves (st (TP_pr tp))) (N := 10) (k := AS_nV a) (by omega) (by omega) (P := vOn a d c) (fun v hv => by
      rw [bit_and, bit_mskN _ _ (by omega), decide_eq_true hv, Bool.true_and, (hS.2.2.2.2.2.1 v hv).1]
      rfl) (fun v h1 h2 => by rw [bit_and, bit_mskN _ _ (by omega), decide_eq_false (by omega), Bool.false_and, Bool.false_and]) g4 (by omega)
    obtain ⟨r6, e6, g6⟩ := C_set (i := 8) (ch := 112) (by omega) wt_8 (by decide) (mask := mskN (touP a c) (AS_nP a) &&& SS_runningPumps (st (TP_pr tp))) (N := 6) (k := AS_nP a) (by omega) (by omega) (P := pOn a d c) (fun v hv => by
      rw [bit_and, bit_mskN _ _ (by omega), decide_eq_true hv, Bool.true_and, (hS.2.2.2.2.2.2.1 v hv).1]
      rfl) (fun v h1 h2 => by rw [bit_and, bit_mskN _ _ (by omega), decide_eq_false (by omega), Bool.false_and, Bool.false_and]) g5 (by omega)
    obtain ⟨r7, e7, g7⟩ := C_text (i := 9) (by omega) g6 (by rw [show sN 9 = 1 from by decide]; omega)
    rw [wt_9] at g7
    rw [f9_writeReport_B10, hL.1.1, if_neg (fun q => by have := (i4_le (by omega) (by omega)).mp q; omega), e1, sbind, e2, sbind, e3, sbind, gdi _ (by omega) (by omega), ix4 (by omega), C_pr hS (Or.inr hcl), e4, sbind, C_valvesOf hW hL hcl, sbind, show f4_addSet r4 7 _ 10 = _ from e5, sbind, C_pumpsOf hW hL hcl, sbind, show f4_addSet r5 8 _ 6 = _ from e6, sbind, e7, sbind, ad1, goN_succ]
    exact ih (c + 1) q r7 _ (by omega) (by omega) g7 (by
      show (goN (mrk 112 (pOn a d c)) (AS_nP a) 0 _).2 + 1 ≤ _
      rw [hp2]
      omega)
end RL

