/-! the leak hunt -/
/-- how many flanges below F have T -/
def rnk (T : Nat → Bool) (F : Nat) : Nat := sumN (fun f => if T f = true then 1 else 0) F
def nmN (T : Nat → Bool) : Nat → Nat → Nat
  | 0 => fun _ => 0
  | F + 1 => if T F = true then setN (nmN T F) (rnk T F) F else nmN T F
theorem rnk_y {T : Nat → Bool} {F : Nat} (h : T F = true) : rnk T (F + 1) = rnk T F + 1 := by
  show rnk T F + (if T F = true then 1 else 0) = _
  rw [if_pos h]
theorem rnk_n {T : Nat → Bool} {F : Nat} (h : ¬ T F = true) : rnk T (F + 1) = rnk T F := by
  show rnk T F + (if T F = true then 1 else 0) = _
  rw [if_neg h]; rfl
theorem rnk_mono (T : Nat → Bool) : ∀ {F G : Nat}, F ≤ G → rnk T F ≤ rnk T G
  | F, 0, h => by rw [show F = 0 by omega]; exact Nat.le_refl _
  | F, G + 1, h => by
    by_cases he : F = G + 1
    · rw [he]; exact Nat.le_refl _
    · have h1 := rnk_mono T (F := F) (G := G) (by omega)
      by_cases hT : T G = true
      · rw [rnk_y hT]; omega
      · rw [rnk_n hT]; exact h1
theorem rnk_le (T : Nat → Bool) (F : Nat) : rnk T F ≤ F := by
  have := sumN_le (f := fun f => if T f = true then 1 else 0) (b := 1) (n := F) (fun i _ => by split <;> omega)
  rw [Nat.mul_one] at this
  exact this
theorem nm_spec (T : Nat → Bool) : ∀ {F i : Nat}, i < rnk T F → nmN T F i < F ∧ T (nmN T F i) = true ∧ rnk T (nmN T F i) = i
  | 0, i, h => by exact absurd h (Nat.not_lt_zero i)
  | F + 1, i, h => by
    by_cases hT : T F = true
    · rw [rnk_y hT] at h
      show (if T F = true then setN (nmN T F) (rnk T F) F else nmN T F) i < F + 1 ∧ T ((if T F = true then setN (nmN T F) (rnk T F) F else nmN T F) i) = true ∧ rnk T ((if T F = true then setN (nmN T F) (rnk T F) F else nmN T F) i) = i
      rw [if_pos hT]
      by_cases hi : i = rnk T F
      · rw [hi, setN_self]
        exact ⟨by omega, hT, rfl⟩
      · rw [setN_ne _ _ hi]
        obtain ⟨h1, h2, h3⟩ := nm_spec T (F := F) (i := i) (by omega)
        exact ⟨by omega, h2, h3⟩
    · rw [rnk_n hT] at h
      show (if T F = true then setN (nmN T F) (rnk T F) F else nmN T F) i < F + 1 ∧ T ((if T F = true then setN (nmN T F) (rnk T F) F else nmN T F) i) = true ∧ rnk T ((if T F = true then setN (nmN T F) (rnk T F) F else nmN T F) i) = i
      rw [if_neg hT]
      obtain ⟨h1, h2, h3⟩ := nm_spec T (F := F) (i := i) h
      exact ⟨by omega, h2, h3⟩
theorem nm_rnk (T : Nat → Bool) : ∀ {F f : Nat}, f < F → T f = true → nmN T F (rnk T f) = f
  | 0, f, h, _ => by omega
  | F + 1, f, h, hf => by
    show (if T F = true then setN (nmN T F) (rnk T F) F else nmN T F) (rnk T f) = f
    by_cases he : f = F
    · subst he
      rw [if_pos hf, setN_self]
    · have h1 := rnk_mono T (F := f + 1) (G := F) (by omega)
      rw [rnk_y hf] at h1
      have h2 := nm_rnk T (F := F) (f := f) (by omega) hf
      by_cases hT : T F = true
      · rw [if_pos hT, setN_ne _ _ (by omega)]
        exact h2
      · rw [if_neg hT]
        exact h2
/-- the part of a run of flanges -/
def sgP (T : Nat → Bool) (fr s : Nat) (f : Nat) : Bool := T f && (decide (fr ≤ rnk T f) && decide (rnk T f < fr + s))
def sumR (g : Nat → Nat) : Nat → Nat → Nat
  | 0, _ => 0
  | n + 1, x => g x + sumR g n (x + 1)
theorem sumR_last (g : Nat → Nat) : ∀ n x, sumR g (n + 1) x = sumR g n x + g (x + n)
  | 0, x => by simp [sumR]
  | n + 1, x => by
    have := sumR_last g n (x + 1)
    show g x + sumR g (n + 1) (x + 1) = g x + sumR g n (x + 1) + g (x + (n + 1))
    rw [this, show x + 1 + n = x + (n + 1) by omega]
    omega
theorem sumR_congr {f g : Nat → Nat} : ∀ {n x : Nat}, (∀ i, x ≤ i → i < x + n → f i = g i) → sumR f n x = sumR g n x
  | 0, _, _ => rfl
  | n + 1, x, h => by
    unfold sumR
    rw [h x (Nat.le_refl x) (by omega), sumR_congr (n := n) (x := x + 1) (fun i h1 h2 => h i (by omega) (by omega))]
theorem sumR_le {g : Nat → Nat} {b : Nat} : ∀ {n x : Nat}, (∀ i, x ≤ i → i < x + n → g i ≤ b) → sumR g n x ≤ n * b
  | 0, _, _ => by simp [sumR]
  | n + 1, x, h => by
    unfold sumR
    have h1 := sumR_le (n := n) (x := x + 1) (b := b) (g := g) (fun i h1 h2 => h i (by omega) (by omega))
    have h2 := h x (Nat.le_refl x) (by omega)
    rw [Nat.add_mul]
    omega
theorem sumN_win (g : Nat → Nat) (fr : Nat) : ∀ (k s : Nat), fr + s ≤ k → sumN (fun i => if fr ≤ i ∧ i < fr + s then g i else 0) k = sumR g s fr
  | 0, s, h => by rw [show s = 0 by omega]; rfl
  | k + 1, s, h => by
    show sumN (fun i => if fr ≤ i ∧ i < fr + s then g i else 0) k + (if fr ≤ k ∧ k < fr + s then g k else 0) = _
    by_cases he : fr + s ≤ k
    · rw [sumN_win g fr k s he, if_neg (by omega)]; rfl
    · by_cases h0 : s = 0
      · subst h0
        rw [if_neg (by omega)]
        have : sumN (fun i => if fr ≤ i ∧ i < fr + 0 then g i else 0) k ≤ k * 0 := sumN_le (fun i _ => by rw [if_neg (by omega)]; exact Nat.le_refl _)
        show _ + 0 = sumR g 0 fr
        unfold sumR
        omega
      · obtain ⟨s', rfl⟩ : ∃ s', s = s' + 1 := ⟨s - 1, by omega⟩
        rw [if_pos (by omega), sumR_last, ← sumN_win g fr k s' (by omega), show fr + s' = k by omega]
        congr 1
        refine sumN_congr (fun i hi => ?_)
        by_cases hc : fr ≤ i
        · rw [if_pos (by omega), if_pos (by omega)]
        · rw [if_neg (by omega), if_neg (by omega)]
theorem sum_seg (T : Nat → Bool) (g : Nat → Nat) (fr s : Nat) : ∀ F, sumN (fun f => if sgP T fr s f = true then g f else 0) F = sumN (fun i => if fr ≤ i ∧ i < fr + s then g (nmN T F i) else 0) (rnk T F)
  | 0 => rfl
  | F + 1 => by
    show sumN (fun f => if sgP T fr s f = true then g f else 0) F + (if sgP T fr s F = true then g F else 0) = _
    rw [sum_seg T g fr s F]
    by_cases hT : T F = true
    · rw [rnk_y hT]
      show _ = sumN (fun i => if fr ≤ i ∧ i < fr + s then g (nmN T (F + 1) i) else 0) (rnk T F) + (if fr ≤ rnk T F ∧ rnk T F < fr + s then g (nmN T (F + 1) (rnk T F)) else 0)
      rw [nm_rnk T (F := F + 1) (f := F) (by omega) hT]
      congr 1
      · refine sumN_congr (fun i hi => ?_)
        rw [show nmN T (F + 1) i = nmN T F i by
          show (if T F = true then setN (nmN T F) (rnk T F) F else nmN T F) i = _
          rw [if_pos hT, setN_ne _ _ (by omega)]]
      · unfold sgP
        rw [hT, Bool.true_and]
        by_cases h1 : fr ≤ rnk T F ∧ rnk T F < fr + s
        · rw [if_pos h1, if_pos (by rw [decide_eq_true h1.1, decide_eq_true h1.2]; rfl)]
        · rw [if_neg h1, if_neg (fun h => by
            rw [Bool.and_eq_true] at h
            exact h1 ⟨of_decide_eq_true h.1, of_decide_eq_true h.2⟩)]
    · rw [rnk_n hT, show nmN T (F + 1) = nmN T F from if_neg hT, if_neg (fun h => hT (by
        unfold sgP at h
        rw [Bool.and_eq_true] at h
        exact h.1))]
      rfl
/-- the sum over a run -/
def sgS (T : Nat → Bool) (g : Nat → Nat) (nF fr s : Nat) : Nat := sumR (fun i => g (nmN T nF i)) s fr
theorem sgS_eq (T : Nat → Bool) (g : Nat → Nat) {nF fr s : Nat} (h : fr + s ≤ rnk T nF) : sumN (fun f => if sgP T fr s f = true then g f else 0) nF = sgS T g nF fr s := by
  rw [sum_seg, sumN_win _ _ _ _ h]
  rfl
theorem sumR_one : ∀ n x, sumR (fun _ => 1) n x = n
  | 0, _ => rfl
  | n + 1, x => by
    unfold sumR
    rw [sumR_one n (x + 1)]
    omega
/-- how many sprays a run takes -/
def hct (thr : Nat) (S : Nat → Nat → Nat) : Nat → Nat → Nat → Nat
  | 0, _, _ => 0
  | f + 1, fr, s => if s = 0 then 0 else if thr ≤ S fr s ∧ s ≠ 1 then 1 + hct thr S f fr (s - s / 2) + hct thr S f (fr + (s - s / 2)) (s / 2) else 1
def hst (thr : Nat) (S : Nat → Nat → Nat) (nm : Nat → Nat) : Nat → Nat → Nat → Nat → Bool
  | 0, _, _, _ => false
  | f + 1, fr, s, j => if s = 0 then false else if thr ≤ S fr s then (if s = 1 then decide (j = nm fr) else hst thr S nm f fr (s - s / 2) j || hst thr S nm f (fr + (s - s / 2)) (s / 2) j) else false
theorem hct_st (thr : Nat) (S : Nat → Nat → Nat) : ∀ (f f2 fr s : Nat), s ≤ f → s ≤ f2 → hct thr S f fr s = hct thr S f2 fr s
  | 0, 0, _, _, _, _ => rfl
  | 0, f2 + 1, fr, s, h1, _ => by
    rw [show s = 0 by omega]
    unfold hct
    rw [if_pos rfl]
  | f + 1, 0, fr, s, _, h2 => by
    rw [show s = 0 by omega]
    unfold hct
    rw [if_pos rfl]
  | f + 1, f2 + 1, fr, s, h1, h2 => by
    unfold hct
    by_cases h0 : s = 0
    · rw [if_pos h0, if_pos h0]
    · rw [if_neg h0, if_neg h0]
      by_cases hc : thr ≤ S fr s ∧ s ≠ 1
      · rw [if_pos hc, if_pos hc, hct_st thr S f f2 fr (s - s / 2) (by omega) (by omega), hct_st thr S f f2 (fr + (s - s / 2)) (s / 2) (by omega) (by omega)]
      · rw [if_neg hc, if_neg hc]
theorem hst_st (thr : Nat) (S : Nat → Nat → Nat) (nm : Nat → Nat) : ∀ (f f2 fr s j : Nat), s ≤ f → s ≤ f2 → hst thr S nm f fr s j = hst thr S nm f2 fr s j
  | 0, 0, _, _, _, _, _ => rfl
  | 0, f2 + 1, fr, s, j, h1, _ => by
    rw [show s = 0 by omega]
    unfold hst
    rw [if_pos rfl]
  | f + 1, 0, fr, s, j, _, h2 => by
    rw [show s = 0 by omega]
    unfold hst
    rw [if_pos rfl]
  | f + 1, f2 + 1, fr, s, j, h1, h2 => by
    unfold hst
    by_cases h0 : s = 0
    · rw [if_pos h0, if_pos h0]
    · rw [if_neg h0, if_neg h0]
      by_cases hc : thr ≤ S fr s
      · rw [if_pos hc, if_pos hc]
        by_cases h1' : s = 1
        · rw [if_pos h1', if_pos h1']
        · rw [if_neg h1', if_neg h1', hst_st thr S nm f f2 fr (s - s / 2) j (by omega) (by omega), hst_st thr S nm f f2 (fr + (s - s / 2)) (s / 2) j (by omega) (by omega)]
      · rw [if_neg hc, if_neg hc]
/-- a run that must be halved -/
theorem hct_2 {thr : Nat} {S : Nat → Nat → Nat} {fr s : Nat} (h2 : 2 ≤ s) (h24 : s ≤ 24) (hc : thr ≤ S fr s) : hct thr S 24 fr s = 1 + hct thr S 24 fr (s - s / 2) + hct thr S 24 (fr + (s - s / 2)) (s / 2) := by
  show (if s = 0 then 0 else if thr ≤ S fr s ∧ s ≠ 1 then 1 + hct thr S 23 fr (s - s / 2) + hct thr S 23 (fr + (s - s / 2)) (s / 2) else 1) = _
  rw [if_neg (by omega), if_pos ⟨hc, by omega⟩, hct_st thr S 23 24 fr (s - s / 2) (by omega) (by omega), hct_st thr S 23 24 (fr + (s - s / 2)) (s / 2) (by omega) (by omega)]
theorem hct_1 {thr : Nat} {S : Nat → Nat → Nat} {fr s : Nat} (h1 : 1 ≤ s) (hc : ¬ (thr ≤ S fr s ∧ s ≠ 1)) : hct thr S 24 fr s = 1 := by
  show (if s = 0 then 0 else if thr ≤ S fr s ∧ s ≠ 1 then _ else 1) = 1
  rw [if_neg (by omega), if_neg hc]
theorem hst_2 {thr : Nat} {S : Nat → Nat → Nat} {nm : Nat → Nat} {fr s : Nat} (h2 : 2 ≤ s) (h24 : s ≤ 24) (hc : thr ≤ S fr s) (j : Nat) : hst thr S nm 24 fr s j = (hst thr S nm 24 fr (s - s / 2) j || hst thr S nm 24 (fr + (s - s / 2)) (s / 2) j) := by
  show (if s = 0 then false else if thr ≤ S fr s then (if s = 1 then decide (j = nm fr) else hst thr S nm 23 fr (s - s / 2) j || hst thr S nm 23 (fr + (s - s / 2)) (s / 2) j) else false) = _
  rw [if_neg (by omega), if_pos hc, if_neg (by omega), hst_st thr S nm 23 24 fr (s - s / 2) j (by omega) (by omega), hst_st thr S nm 23 24 (fr + (s - s / 2)) (s / 2) j (by omega) (by omega)]
theorem hst_1 {thr : Nat} {S : Nat → Nat → Nat} {nm : Nat → Nat} {fr : Nat} (hc : thr ≤ S fr 1) (j : Nat) : hst thr S nm 24 fr 1 j = decide (j = nm fr) := by
  show (if 1 = 0 then false else if thr ≤ S fr 1 then (if 1 = 1 then decide (j = nm fr) else _) else false) = _
  rw [if_neg (by omega), if_pos hc, if_pos rfl]
theorem hst_0 {thr : Nat} {S : Nat → Nat → Nat} {nm : Nat → Nat} {fr s : Nat} (hc : ¬ thr ≤ S fr s) (j : Nat) : hst thr S nm 24 fr s j = false := by
  show (if s = 0 then false else if thr ≤ S fr s then _ else false) = _
  rw [if_neg hc]
  split <;> rfl
section HU
variable {a : AS} {d : AD} {lY : LL} {tp : TP} {st : Fin 12 → SS}
def toF (a : AS) (c f : Nat) : Bool := decide (AS_fH a f = c)
/-- a mask of flanges, counted -/
theorem cnt_msk (P : Nat → Bool) {nF n : Nat} (h : nF ≤ n) (h32 : n ≤ 32) : sumN (fun j => if bit (mskN P nF) j = true then 1 else 0) n = sumN (fun j => if P j = true then 1 else 0) nF := by
  have h1 : ∀ m, m + nF ≤ 32 → sumN (fun j => if bit (mskN P nF) j = true then 1 else 0) (nF + m) = sumN (fun j => if P j = true then 1 else 0) nF := by
    intro m
    induction m with
    | zero =>
      intro hm
      refine sumN_congr (fun i hi => ?_)
      rw [bit_mskN _ _ (by omega), decide_eq_true (show i < nF from hi), Bool.true_and]
    | succ m ih =>
      intro hm
      show sumN (fun j => if bit (mskN P nF) j = true then 1 else 0) (nF + m) + (if bit (mskN P nF) (nF + m) = true then 1 else 0) = _
      rw [ih (by omega), bit_mskN _ _ (by omega), decide_eq_false (by omega), Bool.false_and, if_neg (by decide)]
      rfl
  have := h1 (n - nF) (by omega)
  rw [show nF + (n - nF) = n by omega] at this
  exact this
def sgm (T : Nat → Bool) (nF fr s : Nat) : Int32 := mskN (sgP T fr s) nF
theorem sgm_rest (T : Nat → Bool) {nF fr s h : Nat} (h24 : nF ≤ 24) (hh : h ≤ s) : sgm T nF fr s &&& (sgm T nF fr h ^^^ (-1)) = sgm T nF (fr + h) (s - h) := by
  refine bit_ext (fun j hj => ?_)
  unfold sgm
  rw [bit_and, bit_not _ hj, bit_mskN _ _ (by omega), bit_mskN _ _ (by omega), bit_mskN _ _ (by omega)]
  by_cases hn : j < nF
  · rw [decide_eq_true hn, Bool.true_and, Bool.true_and, Bool.true_and]
    unfold sgP
    cases T j with
    | false => rfl
    | true =>
      rw [Bool.true_and, Bool.true_and, Bool.true_and]
      by_cases h1 : fr ≤ rnk T j
      · by_cases h2 : rnk T j < fr + h
        · rw [decide_eq_true h1, decide_eq_true h2, decide_eq_false (show ¬ (fr + h ≤ rnk T j) by omega)]
          simp
        · rw [decide_eq_true h1, decide_eq_false h2, decide_eq_true (show fr + h ≤ rnk T j by omega), show decide (rnk T j < fr + h + (s - h)) = decide (rnk T j < fr + s) from decide_eq_decide.mpr (by omega)]
          simp
      · rw [decide_eq_false h1, decide_eq_false (show ¬ (fr + h ≤ rnk T j) by omega)]
        simp
  · rw [decide_eq_false hn, Bool.false_and, Bool.false_and, Bool.false_and]
theorem sgm_0 (T : Nat → Bool) {nF fr : Nat} (h24 : nF ≤ 24) : sgm T nF fr 0 = 0 := by
  refine bit_ext (fun j hj => ?_)
  unfold sgm
  rw [bit_mskN _ _ (by omega), bit_zero]
  unfold sgP
  by_cases h1 : fr ≤ rnk T j
  · rw [decide_eq_false (show ¬ (rnk T j < fr + 0) by omega)]
    simp
  · rw [decide_eq_false h1]
    simp
theorem sgm_one (T : Nat → Bool) {nF fr : Nat} (h24 : nF ≤ 24) (h : fr < rnk T nF) : ∀ j, j < 32 → bit (sgm T nF fr 1) j = decide (j = nmN T nF fr) := by
  intro j hj
  unfold sgm
  rw [bit_mskN _ _ (by omega)]
  obtain ⟨n1, n2, n3⟩ := nm_spec T h
  by_cases he : j = nmN T nF fr
  · rw [he, decide_eq_true n1, decide_eq_true rfl]
    unfold sgP
    rw [n2, n3, decide_eq_true (Nat.le_refl fr), decide_eq_true (show fr < fr + 1 by omega)]
    rfl
  · rw [decide_eq_false he]
    by_cases hn : j < nF
    · rw [decide_eq_true hn, Bool.true_and]
      unfold sgP
      cases hT : T j with
      | false => rfl
      | true =>
        have hne : rnk T j ≠ fr := fun q => he (by rw [← q, nm_rnk T hn hT])
        by_cases h1 : fr ≤ rnk T j
        · rw [decide_eq_false (show ¬ (rnk T j < fr + 1) by omega)]
          simp
        · rw [decide_eq_false h1]
          simp
    · rw [decide_eq_false hn, Bool.false_and]
theorem sgS_le (hW : WFs a) (hD : WFd a d) (T : Nat → Bool) {fr s : Nat} (h : fr + s ≤ rnk T (AS_nF a)) : sgS T (AD_lk d) (AS_nF a) fr s ≤ 239976 := by
  have hN := hW.1
  have hr := rnk_le T (AS_nF a)
  have h1 := sumR_le (g := fun i => AD_lk d (nmN T (AS_nF a) i)) (b := 9999) (n := s) (x := fr) (fun i _ h2 => hD.2.2.1 _ (nm_spec T (F := AS_nF a) (i := i) (by omega)).1)
  have h2 : s * 9999 ≤ 24 * 9999 := Nat.mul_le_mul_right _ (by omega)
  unfold sgS
  omega
end HU

