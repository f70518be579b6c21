/-! the leak hunt -/
/-- how many flanges below F have T -/
def rnk (T : Nat → Bool) (F : Nat) : Nat := sumN (fun f => if T f = true then 1 else 0) F
def nmN (T : Nat → Bool) : Nat → Nat → Nat
  | 0 => fun _ => 0
  | F + 1 => if T F = true then setN (nmN T F) (rnk T F) F else nmN T F
theorem rnk_y {T : Nat → Bool} {F : Nat} (h : T F = true) : rnk T (F + 1) = rnk T F + 1 := by
  show rnk T F + (if T F = true then 1 else 0) = _
  rw [if_pos h]
theorem rnk_n {T : Nat → Bool} {F : Nat} (h : ¬ T F = true) : rnk T (F + 1) = rnk T F := by
  show rnk T F + (if T F = true then 1 else 0) = _
  rw [if_neg h]; rfl
theorem rnk_mono (T : Nat → Bool) : ∀ {F G : Nat}, F ≤ G → rnk T F ≤ rnk T G
  | F, 0, h => by rw [show F = 0 by omega]; exact Nat.le_refl _
  | F, G + 1, h => by
    by_cases he : F = G + 1
    · rw [he]; exact Nat.le_refl _
    · have h1 := rnk_mono T (F := F) (G := G) (by omega)
      by_cases hT : T G = true
      · rw [rnk_y hT]; omega
      · rw [rnk_n hT]; exact h1
theorem rnk_le (T : Nat → Bool) (F : Nat) : rnk T F ≤ F := by
  have := sumN_le (f := fun f => if T f = true then 1 else 0) (b := 1) (n := F) (fun i _ => by split <;> omega)
  rw [Nat.mul_one] at this
  exact this
theorem nm_spec (T : Nat → Bool) : ∀ {F i : Nat}, i < rnk T F → nmN T F i < F ∧ T (nmN T F i) = true ∧ rnk T (nmN T F i) = i
  | 0, i, h => by exact absurd h (Nat.not_lt_zero i)
  | F + 1, i, h => by
    by_cases hT : T F = true
    · rw [rnk_y hT] at h
      show (if T F = true then setN (nmN T F) (rnk T F) F else nmN T F) i < F + 1 ∧ T ((if T F = true then setN (nmN T F) (rnk T F) F else nmN T F) i) = true ∧ rnk T ((if T F = true then setN (nmN T F) (rnk T F) F else nmN T F) i) = i
      rw [if_pos hT]
      by_cases hi : i = rnk T F
      · rw [hi, setN_self]
        exact ⟨by omega, hT, rfl⟩
      · rw [setN_ne _ _ hi]
        obtain ⟨h1, h2, h3⟩ := nm_spec T (F := F) (i := i) (by omega)
        exact ⟨by omega, h2, h3⟩
    · rw [rnk_n hT] at h
      show (if T F = true then setN (nmN T F) (rnk T F) F else nmN T F) i < F + 1 ∧ T ((if T F = true then setN (nmN T F) (rnk T F) F else nmN T F) i) = true ∧ rnk T ((if T F = true then setN (nmN T F) (rnk T F) F else nmN T F) i) = i
      rw [if_neg hT]
      obtain ⟨h1, h2, h3⟩ := nm_spec T (F := F) (i := i) h
      exact ⟨by omega, h2, h3⟩
theorem nm_rnk (T : Nat → Bool) : ∀ {F f : Nat}, f < F → T f = true → nmN T F (rnk T f) = f
  | 0, f, h, _ => by omega
  | F + 1, f, h, hf => by
    show (if T F = true then setN (nmN T F) (rnk T F) F else nmN T F) (rnk T f) = f
    by_cases he : f = F
    · subst he
      rw [if_pos hf, setN_self]
    · have h1 := rnk_mono T (F := f + 1) (G := F) (by omega)
      rw [rnk_y hf] at h1
      have h2 := nm_rnk T (F := F) (f := f) (by omega) hf
      by_cases hT : T F = true
      · rw [if_pos hT, setN_ne _ _ (by omega)]
        exact h2
      · rw [if_neg hT]
        exact h2
/-- the part of a run of flanges -/
def sgP (T : Nat → Bool) (fr s : Nat) (f : Nat) : Bool := T f && (decide (fr ≤ rnk T f) && decide (rnk T f < fr + s))
def sumR (g : Nat → Nat) : Nat → Nat → Nat
  | 0, _ => 0
  | n + 1, x => g x + sumR g n (x + 1)
theorem sumR_last (g : Nat → Nat) : ∀ n x, sumR g (n + 1) x = sumR g n x + g (x + n)
  | 0, x => by simp [sumR]
  | n + 1, x => by
    have := sumR_last g n (x + 1)
    show g x + sumR g (n + 1) (x + 1) = g x + sumR g n (x + 1) + g (x + (n + 1))
    rw [this, show x + 1 + n = x + (n + 1) by omega]
    omega
theorem sumR_congr {f g : Nat → Nat} : ∀ {n x : Nat}, (∀ i, x ≤ i → i < x + n → f i = g i) → sumR f n x = sumR g n x
  | 0, _, _ => rfl
  | n + 1, x, h => by
    unfold sumR
    rw [h x (Nat.le_refl x) (by omega), sumR_congr (n := n) (x := x + 1) (fun i h1 h2 => h i (by omega) (by omega))]
theorem sumR_le {g : Nat → Nat} {b : Nat} : ∀ {n x : Nat}, (∀ i, x ≤ i → i < x + n → g i ≤ b) → sumR g n x ≤ n * b
  | 0, _, _ => by simp [sumR]
  | n + 1, x, h => by
    unfold sumR
    have h1 := sumR_le (n := n) (x := x + 1) (b := b) (g := g) (fun i h1 h2 => h i (by omega) (by omega))
    have h2 := h x (Nat.le_refl x) (by omega)
    rw [Nat.add_mul]
    omega
theorem sumN_win (g : Nat → Nat) (fr : Nat) : ∀ (k s : Nat), fr + s ≤ k → sumN (fun i => if fr ≤ i ∧ i < fr + s then g i else 0) k = sumR g s fr
  | 0, s, h => by rw [show s = 0 by omega]; rfl
  | k + 1, s, h => by
    show sumN (fun i => if fr ≤ i ∧ i < fr + s then g i else 0) k + (if fr ≤ k ∧ k < fr + s then g k else 0) = _
    by_cases he : fr + s ≤ k
    · rw [sumN_win g fr k s he, if_neg (by omega)]; rfl
    · by_cases h0 : s = 0
      · subst h0
        rw [if_neg (by omega)]
        have : sumN (fun i => if fr ≤ i ∧ i < fr + 0 then g i else 0) k ≤ k * 0 := sumN_le (fun i _ => by rw [if_neg (by omega)]; exact Nat.le_refl _)
        show _ + 0 = sumR g 0 fr
        unfold sumR
        omega
      · obtain ⟨s', rfl⟩ : ∃ s', s = s' + 1 := ⟨s - 1, by omega⟩
        rw [if_pos (by omega), sumR_last, ← sumN_win g fr k s' (by omega), show fr + s' = k by omega]
        congr 1
        refine sumN_congr (fun i hi => ?_)
        by_cases hc : fr ≤ i
        · rw [if_pos (by omega), if_pos (by omega)]
        · rw [if_neg (by omega), if_neg (by omega)]
theorem sum_seg (T : Nat → Bool) (g : Nat → Nat) (fr s : Nat) : ∀ F, sumN (fun f => if sgP T fr s f = true then g f else 0) F = sumN (fun i => if fr ≤ i ∧ i < fr + s then g (nmN T F i) else 0) (rnk T F)
  | 0 => rfl
  | F + 1 => by
    show sumN (fun f => if sgP T fr s f = true then g f else 0) F + (if sgP T fr s F = true then g F else 0) = _
    rw [sum_seg T g fr s F]
    by_cases hT : T F = true
    · rw [rnk_y hT]
      show _ = sumN (fun i => if fr ≤ i ∧ i < fr + s then g (nmN T (F + 1) i) else 0) (rnk T F) + (if fr ≤ rnk T F ∧ rnk T F < fr + s then g (nmN T (F + 1) (rnk T F)) else 0)
      rw [nm_rnk T (F := F + 1) (f := F) (by omega) hT]
      congr 1
      · refine sumN_congr (fun i hi => ?_)
        rw [show nmN T (F + 1) i = nmN T F i by
          show (if T F = true then setN (nmN T F) (rnk T F) F else nmN T F) i = _
          rw [if_pos hT, setN_ne _ _ (by omega)]]
      · unfold sgP
        rw [hT, Bool.true_and]
        by_cases h1 : fr ≤ rnk T F ∧ rnk T F < fr + s
        · rw [if_pos h1, if_pos (by rw [decide_eq_true h1.1, decide_eq_true h1.2]; rfl)]
        · rw [if_neg h1, if_neg (fun h => by
            rw [Bool.and_eq_true] at h
            exact h1 ⟨of_decide_eq_true h.1, of_decide_eq_true h.2⟩)]
    · rw [rnk_n hT, show nmN T (F + 1) = nmN T F from if_neg hT, if_neg (fun h => hT (by
        unfold sgP at h
        rw [Bool.and_eq_true] at h
        exact h.1))]
      rfl
/-- the sum over a run -/
def sgS (T : Nat → Bool) (g : Nat → Nat) (nF fr s : Nat) : Nat := sumR (fun i => g (nmN T nF i)) s fr
theorem sgS_eq (T : Nat → Bool) (g : Nat → Nat) {nF fr s : Nat} (h : fr + s ≤ rnk T nF) : sumN (fun f => if sgP T fr s f = true then g f else 0) nF = sgS T g nF fr s := by
  rw [sum_seg, sumN_win _ _ _ _ h]
  rfl
theorem sumR_one : ∀ n x, sumR (fun _ => 1) n x = n
  | 0, _ => rfl
  | n + 1, x => by
    unfold sumR
    rw [sumR_one n (x + 1)]
    omega
/-- how many sprays a run takes -/
def hct (thr : Nat) (S : Nat → Nat → Nat) : Nat → Nat → Nat → Nat
  | 0, _, _ => 0
  | f + 1, fr, s => if s = 0 then 0 else if thr ≤ S fr s ∧ s ≠ 1 then 1 + hct thr S f fr (s - s / 2) + hct thr S f (fr + (s - s / 2)) (s / 2) else 1
def hst (thr : Nat) (S : Nat → Nat → Nat) (nm : Nat → Nat) : Nat → Nat → Nat → Nat → Bool
  | 0, _, _, _ => false
  | f + 1, fr, s, j => if s = 0 then false else if thr ≤ S fr s then (if s = 1 then decide (j = nm fr) else hst thr S nm f fr (s - s / 2) j || hst thr S nm f (fr + (s - s / 2)) (s / 2) j) else false
theorem hct_st (thr : Nat) (S : Nat → Nat → Nat) : ∀ (f f2 fr s : Nat), s ≤ f → s ≤ f2 → hct thr S f fr s = hct thr S f2 fr s
  | 0, 0, _, _, _, _ => rfl
  | 0, f2 + 1, fr, s, h1, _ => by
    rw [show s = 0 by omega]
    unfold hct
    rw [if_pos rfl]
  | f + 1, 0, fr, s, _, h2 => by
    rw [show s = 0 by omega]
    unfold hct
    rw [if_pos rfl]
  | f + 1, f2 + 1, fr, s, h1, h2 => by
    unfold hct
    by_cases h0 : s = 0
    · rw [if_pos h0, if_pos h0]
    · rw [if_neg h0, if_neg h0]
      by_cases hc : thr ≤ S fr s ∧ s ≠ 1
      · rw [if_pos hc, if_pos hc, hct_st thr S f f2 fr (s - s / 2) (by omega) (by omega), hct_st thr S f f2 (fr + (s - s / 2)) (s / 2) (by omega) (by omega)]
      · rw [if_neg hc, if_neg hc]
theorem hst_st (thr : Nat) (S : Nat → Nat → Nat) (nm : Nat → Nat) : ∀ (f f2 fr s j : Nat), s ≤ f → s ≤ f2 → hst thr S nm f fr s j = hst thr S nm f2 fr s j
  | 0, 0, _, _, _, _, _ => rfl
  | 0, f2 + 1, fr, s, j, h1, _ => by
    rw [show s = 0 by omega]
    unfold hst
    rw [if_pos rfl]
  | f + 1, 0, fr, s, j, _, h2 => by
    rw [show s = 0 by omega]
    unfold hst
    rw [if_pos rfl]
  | f + 1, f2 + 1, fr, s, j, h1, h2 => by
    unfold hst
    by_cases h0 : s = 0
    · rw [if_pos h0, if_pos h0]
    · rw [if_neg h0, if_neg h0]
      by_cases hc : thr ≤ S fr s
      · rw [if_pos hc, if_pos hc]
        by_cases h1' : s = 1
        · rw [if_pos h1', if_pos h1']
        · rw [if_neg h1', if_neg h1', hst_st thr S nm f f2 fr (s - s / 2) j (by omega) (by omega), hst_st thr S nm f f2 (fr + (s - s / 2)) (s / 2) j (by omega) (by omega)]
      · rw [if_neg hc, if_neg hc]
/-- a run that must be halved -/
theorem hct_2 {thr : Nat} {S : Nat → Nat → Nat} {fr s : Nat} (h2 : 2 ≤ s) (h24 : s ≤ 24) (hc : thr ≤ S fr s) : hct thr S 24 fr s = 1 + hct thr S 24 fr (s - s / 2) + hct thr S 24 (fr + (s - s / 2)) (s / 2) := by
  show (if s = 0 then 0 else if thr ≤ S fr s ∧ s ≠ 1 then 1 + hct thr S 23 fr (s - s / 2) + hct thr S 23 (fr + (s - s / 2)) (s / 2) else 1) = _
  rw [if_neg (by omega), if_pos ⟨hc, by omega⟩, hct_st thr S 23 24 fr (s - s / 2) (by omega) (by omega), hct_st thr S 23 24 (fr + (s - s / 2)) (s / 2) (by omega) (by omega)]
theorem hct_1 {thr : Nat} {S : Nat → Nat → Nat} {fr s : Nat} (h1 : 1 ≤ s) (hc : ¬ (thr ≤ S fr s ∧ s ≠ 1)) : hct thr S 24 fr s = 1 := by
  show (if s = 0 then 0 else if thr ≤ S fr s ∧ s ≠ 1 then _ else 1) = 1
  rw [if_neg (by omega), if_neg hc]
theorem hst_2 {thr : Nat} {S : Nat → Nat → Nat} {nm : Nat → Nat} {fr s : Nat} (h2 : 2 ≤ s) (h24 : s ≤ 24) (hc : thr ≤ S fr s) (j : Nat) : hst thr S nm 24 fr s j = (hst thr S nm 24 fr (s - s / 2) j || hst thr S nm 24 (fr + (s - s / 2)) (s / 2) j) := by
  show (if s = 0 then false else if thr ≤ S fr s then (if s = 1 then decide (j = nm fr) else hst thr S nm 23 fr (s - s / 2) j || hst thr S nm 23 (fr + (s - s / 2)) (s / 2) j) else false) = _
  rw [if_neg (by omega), if_pos hc, if_neg (by omega), hst_st thr S nm 23 24 fr (s - s / 2) j (by omega) (by omega), hst_st thr S nm 23 24 (fr + (s - s / 2)) (s / 2) j (by omega) (by omega)]
theorem hst_1 {thr : Nat} {S : Nat → Nat → Nat} {nm : Nat → Nat} {fr : Nat} (hc : thr ≤ S fr 1) (j : Nat) : hst thr S nm 24 fr 1 j = decide (j = nm fr) := by
  show (if 1 = 0 then false else if thr ≤ S fr 1 then (if 1 = 1 then decide (j = nm fr) else _) else false) = _
  rw [if_neg (by omega), if_pos hc, if_pos rfl]
theorem hst_0 {thr : Nat} {S : Nat → Nat → Nat} {nm : Nat → Nat} {fr s : Nat} (hc : ¬ thr ≤ S fr s) (j : Nat) : hst thr S nm 24 fr s j = false := by
  show (if s = 0 then false else if thr ≤ S fr s then _ else false) = _
  rw [if_neg hc]
  split <;> rfl
section HU
variable {a : AS} {d : AD} {lY : LL} {tp : TP} {st : Fin 12 → SS} {w : Nat → Int64} {mu : MU} {th : Int32} {ou : Nat → Int64}
def toF (a : AS) (c f : Nat) : Bool := decide (AS_fH a f = c)
/-- the reference -/
theorem M_sizeOf (x : Int32) : f10_sizeOf x = some (i4 (sumN (fun j => if bit x j = true then 1 else 0) 24)) := by
  have := FU_eq
  have key : ∀ (n v fu : Nat), v + n = 24 → n < fu → f10_sizeOf_B4 fu x (i4 (sumN (fun j => if bit x j = true then 1 else 0) v)) (i4 v) = some (i4 (sumN (fun j => if bit x j = true then 1 else 0) 24)) := by
    intro n
    induction n with
    | zero =>
      intro v fu hv hf
      obtain ⟨q, rfl, -⟩ := fuS hf
      rw [f10_sizeOf_B4, if_pos (show (24 : Int32) ≤ i4 v from (i4_le (a := 24) (by omega) (by omega)).mpr (by omega)), show v = 24 by omega]
    | succ n ih =>
      intro v fu hv hf
      obtain ⟨q, rfl, -⟩ := fuS hf
      rw [f10_sizeOf_B4, if_neg (show ¬ ((24 : Int32) ≤ i4 v) from fun h => by have := (i4_le (a := 24) (by omega) (by omega)).mp h; omega), bit_ask _ (by omega), ad1]
      have e : i4 (sumN (fun j => if bit x j = true then 1 else 0) v) + (if bit x v = true then 1 else 0) = i4 (sumN (fun j => if bit x j = true then 1 else 0) (v + 1)) := by
        show _ = i4 (sumN (fun j => if bit x j = true then 1 else 0) v + (if bit x v = true then 1 else 0))
        rw [← i4_add]
        by_cases h : bit x v = true
        · rw [if_pos h, if_pos h]; rfl
        · rw [if_neg h, if_neg h]; rfl
      rw [e]
      exact ih (v + 1) q (by omega) (by omega)
  exact key 24 0 FU (by omega) (by omega)
/-- a mask of flanges, counted -/
theorem cnt_msk (P : Nat → Bool) {nF n : Nat} (h : nF ≤ n) (h32 : n ≤ 32) : sumN (fun j => if bit (mskN P nF) j = true then 1 else 0) n = sumN (fun j => if P j = true then 1 else 0) nF := by
  have h1 : ∀ m, m + nF ≤ 32 → sumN (fun j => if bit (mskN P nF) j = true then 1 else 0) (nF + m) = sumN (fun j => if P j = true then 1 else 0) nF := by
    intro m
    induction m with
    | zero =>
      intro hm
      refine sumN_congr (fun i hi => ?_)
      rw [bit_mskN _ _ (by omega), decide_eq_true (show i < nF from hi), Bool.true_and]
    | succ m ih =>
      intro hm
      show sumN (fun j => if bit (mskN P nF) j = true then 1 else 0) (nF + m) + (if bit (mskN P nF) (nF + m) = true then 1 else 0) = _
      rw [ih (by omega), bit_mskN _ _ (by omega), decide_eq_false (by omega), Bool.false_and, if_neg (by decide)]
      rfl
  have := h1 (n - nF) (by omega)
  rw [show nF + (n - nF) = n by omega] at this
  exact this
theorem M_leaksOf (hW : WFs a) (hA : RMs a w) (hB : RMd a d w) (x : Int32) : f10_leaksOf w x = some (i8 (sumN (fun f => if bit x f = true then AD_lk d f else 0) (AS_nF a))) := by
  have hN := hW.1
  have := FU_eq
  have key : ∀ (n v fu : Nat), v + n = AS_nF a → n < fu → f10_leaksOf_B5 w fu x (i8 (sumN (fun f => if bit x f = true then AD_lk d f else 0) v)) (i4 v) = some (i8 (sumN (fun f => if bit x f = true then AD_lk d f else 0) (AS_nF a))) := by
    intro n
    induction n with
    | zero =>
      intro v fu hv hf
      obtain ⟨q, rfl, -⟩ := fuS hf
      rw [f10_leaksOf_B5, M_nF hA, sbind, if_pos ((i4_le (by omega) (by omega)).mpr (by omega)), show v = AS_nF a by omega]
    | succ n ih =>
      intro v fu hv hf
      obtain ⟨q, rfl, -⟩ := fuS hf
      have hvl : v < AS_nF a := by omega
      rw [f10_leaksOf_B5, M_nF hA, sbind, if_neg (fun h => by have := (i4_le (by omega) (by omega)).mp h; omega), bit_ask _ (by omega), ad1]
      have ih' := ih (v + 1) q (by omega) (by omega)
      by_cases h : bit x v = true
      · rw [if_pos h, if_pos rfl, at_f, sbind, ad1, gdi _ (by omega) (by omega), ix4 (by omega), hB.2.2.2.2.1 v hvl, i8_add]
        rw [show sumN (fun f => if bit x f = true then AD_lk d f else 0) (v + 1) = sumN (fun f => if bit x f = true then AD_lk d f else 0) v + AD_lk d v by
          show _ + (if bit x v = true then AD_lk d v else 0) = _
          rw [if_pos h]] at ih'
        exact ih'
      · rw [if_neg h, if_neg (by decide), Int64.add_zero]
        rw [show sumN (fun f => if bit x f = true then AD_lk d f else 0) (v + 1) = sumN (fun f => if bit x f = true then AD_lk d f else 0) v by
          show _ + (if bit x v = true then AD_lk d v else 0) = _
          rw [if_neg h]; rfl] at ih'
        exact ih'
  exact key (AS_nF a) 0 FU (by omega) (by omega)
def sgm (T : Nat → Bool) (nF fr s : Nat) : Int32 := mskN (sgP T fr s) nF
theorem sgm_size (T : Nat → Bool) {nF fr s : Nat} (h24 : nF ≤ 24) (h : fr + s ≤ rnk T nF) : f10_sizeOf (sgm T nF fr s) = some (i4 s) := by
  rw [M_sizeOf]
  unfold sgm
  rw [cnt_msk _ h24 (by omega), sgS_eq T (fun _ => 1) h]
  unfold sgS
  rw [sumR_one]
theorem sgm_leaks (hW : WFs a) (hA : RMs a w) (hB : RMd a d w) (T : Nat → Bool) {fr s : Nat} (h : fr + s ≤ rnk T (AS_nF a)) : f10_leaksOf w (sgm T (AS_nF a) fr s) = some (i8 (sgS T (AD_lk d) (AS_nF a) fr s)) := by
  have hN := hW.1
  rw [M_leaksOf hW hA hB, ← sgS_eq T (AD_lk d) h]
  congr 2
  refine sumN_congr (fun i hi => ?_)
  unfold sgm
  rw [bit_mskN _ _ (by omega), decide_eq_true (show i < AS_nF a from hi), Bool.true_and]
theorem sgm_first (T : Nat → Bool) {nF fr s h : Nat} (h24 : nF ≤ 24) (hk : fr + s ≤ rnk T nF) (hh : h ≤ s) : f10_firstOnes (sgm T nF fr s) (i4 h) = some (sgm T nF fr h) := by
  have := FU_eq
  have hr := rnk_le T nF
  have sub : ∀ v, v ≤ nF → (fr ≤ rnk T v → sumN (fun j => if bit (mskN (sgP T fr h) v) j = true then 1 else 0) 24 = (if rnk T v < fr + h then rnk T v - fr else h)) := by
    intro v hv hfr
    rw [cnt_msk _ (by omega) (by omega)]
    by_cases hlt : rnk T v < fr + h
    · rw [if_pos hlt]
      have e : sumN (fun j => if sgP T fr h j = true then 1 else 0) v = sumN (fun j => if sgP T fr (rnk T v - fr) j = true then 1 else 0) v := by
        refine sumN_congr (fun i hi => ?_)
        have hm : sgP T fr h i = sgP T fr (rnk T v - fr) i := by
          unfold sgP
          cases hT : T i with
          | false => rfl
          | true =>
            have h1 := rnk_mono T (F := i + 1) (G := v) (by omega)
            rw [rnk_y hT] at h1
            rw [show decide (rnk T i < fr + h) = true from decide_eq_true (by omega), show decide (rnk T i < fr + (rnk T v - fr)) = true from decide_eq_true (by omega)]
        rw [hm]
      rw [e, sgS_eq T (fun _ => 1) (by omega)]
      unfold sgS
      rw [sumR_one]
    · rw [if_neg hlt, sgS_eq T (fun _ => 1) (by omega)]
      unfold sgS
      rw [sumR_one]
  have key : ∀ (n v fu : Nat), v + n = 24 → n < fu → f10_firstOnes_B4 fu (sgm T nF fr s) (i4 h) (mskN (sgP T fr h) (if v < nF then v else nF)) (i4 v) = some (sgm T nF fr h) := by
    intro n
    induction n with
    | zero =>
      intro v fu hv hf
      obtain ⟨q, rfl, -⟩ := fuS hf
      rw [f10_firstOnes_B4, if_pos (show (24 : Int32) ≤ i4 v from (i4_le (a := 24) (by omega) (by omega)).mpr (by omega)), show (if v < nF then v else nF) = nF by split <;> omega]
      rfl
    | succ n ih =>
      intro v fu hv hf
      obtain ⟨q, rfl, -⟩ := fuS hf
      have ih' := ih (v + 1) q (by omega) (by omega)
      rw [f10_firstOnes_B4, if_neg (show ¬ ((24 : Int32) ≤ i4 v) from fun h => by have := (i4_le (a := 24) (by omega) (by omega)).mp h; omega), bit_ask _ (by omega), ad1, M_sizeOf, sbind, Int32.or_zero]
      unfold sgm at ih' ⊢
      rw [bit_mskN _ _ (by omega)]
      by_cases hvF : v < nF
      · rw [decide_eq_true hvF, Bool.true_and, if_pos hvF]
        rw [show (if v + 1 < nF then v + 1 else nF) = v + 1 by split <;> omega] at ih'
        by_cases hb : sgP T fr s v = true
        · have hb' := hb
          unfold sgP at hb'
          rw [Bool.and_eq_true, Bool.and_eq_true] at hb'
          have b1 := of_decide_eq_true hb'.2.1
          have b2 := of_decide_eq_true hb'.2.2
          rw [if_pos hb, if_pos rfl, sub v (by omega) b1]
          by_cases hlt : rnk T v < fr + h
          · rw [if_pos hlt, if_neg (fun q => by have := (i4_le (by omega) (by omega)).mp q; omega), mskN_y (show sgP T fr h v = true by unfold sgP; rw [hb'.1, hb'.2.1, decide_eq_true hlt]; rfl)]
            exact ih'
          · rw [if_neg hlt, if_pos ((i4_le (by omega) (by omega)).mpr (Nat.le_refl _)), mskN_n (show ¬ sgP T fr h v = true from fun q => by
              unfold sgP at q
              rw [Bool.and_eq_true, Bool.and_eq_true] at q
              exact hlt (of_decide_eq_true q.2.2))]
            exact ih'
        · rw [if_neg hb, if_neg (by decide), mskN_n (show ¬ sgP T fr h v = true from fun q => hb (by
            unfold sgP at q ⊢
            rw [Bool.and_eq_true, Bool.and_eq_true] at q ⊢
            exact ⟨q.1, q.2.1, decide_eq_true (by have := of_decide_eq_true q.2.2; omega)⟩))]
          exact ih'
      · rw [decide_eq_false hvF, Bool.false_and, if_neg hvF, if_neg (show ¬ (false = true) by decide), if_neg (show ¬ ((0 : Int32) = 1) by decide)]
        rw [if_neg (by omega)] at ih'
        exact ih'
  have k0 := key 24 0 FU (by omega) (by omega)
  rw [show mskN (sgP T fr h) (if 0 < nF then 0 else nF) = 0 by
    by_cases h0 : 0 < nF
    · rw [if_pos h0]; rfl
    · rw [if_neg h0, show nF = 0 by omega]; rfl] at k0
  exact k0
theorem sgm_rest (T : Nat → Bool) {nF fr s h : Nat} (h24 : nF ≤ 24) (hh : h ≤ s) : sgm T nF fr s &&& (sgm T nF fr h ^^^ (-1)) = sgm T nF (fr + h) (s - h) := by
  refine bit_ext (fun j hj => ?_)
  unfold sgm
  rw [bit_and, bit_not _ hj, bit_mskN _ _ (by omega), bit_mskN _ _ (by omega), bit_mskN _ _ (by omega)]
  by_cases hn : j < nF
  · rw [decide_eq_true hn, Bool.true_and, Bool.true_and, Bool.true_and]
    unfold sgP
    cases T j with
    | false => rfl
    | true =>
      rw [Bool.true_and, Bool.true_and, Bool.true_and]
      by_cases h1 : fr ≤ rnk T j
      · by_cases h2 : rnk T j < fr + h
        · rw [decide_eq_true h1, decide_eq_true h2, decide_eq_false (show ¬ (fr + h ≤ rnk T j) by omega)]
          simp
        · rw [decide_eq_true h1, decide_eq_false h2, decide_eq_true (show fr + h ≤ rnk T j by omega), show decide (rnk T j < fr + h + (s - h)) = decide (rnk T j < fr + s) from decide_eq_decide.mpr (by omega)]
          simp
      · rw [decide_eq_false h1, decide_eq_false (show ¬ (fr + h ≤ rnk T j) by omega)]
        simp
  · rw [decide_eq_false hn, Bool.false_and, Bool.false_and, Bool.false_and]
theorem sgm_ne0 (T : Nat → Bool) {nF fr s : Nat} (h24 : nF ≤ 24) (h : fr + s ≤ rnk T nF) (h1 : 1 ≤ s) : ¬ sgm T nF fr s = 0 := by
  intro e
  have hr := rnk_le T nF
  have h2 := sgm_size T h24 h
  rw [e] at h2
  have h3 : f10_sizeOf 0 = some (i4 0) := by
    rw [M_sizeOf]
    rfl
  rw [h3] at h2
  injection h2 with h2
  have := (i4_eq (by omega) (by omega)).mp h2
  omega
theorem sgm_0 (T : Nat → Bool) {nF fr : Nat} (h24 : nF ≤ 24) : sgm T nF fr 0 = 0 := by
  refine bit_ext (fun j hj => ?_)
  unfold sgm
  rw [bit_mskN _ _ (by omega), bit_zero]
  unfold sgP
  by_cases h1 : fr ≤ rnk T j
  · rw [decide_eq_false (show ¬ (rnk T j < fr + 0) by omega)]
    simp
  · rw [decide_eq_false h1]
    simp
theorem sgm_one (T : Nat → Bool) {nF fr : Nat} (h24 : nF ≤ 24) (h : fr < rnk T nF) : ∀ j, j < 32 → bit (sgm T nF fr 1) j = decide (j = nmN T nF fr) := by
  intro j hj
  unfold sgm
  rw [bit_mskN _ _ (by omega)]
  obtain ⟨n1, n2, n3⟩ := nm_spec T h
  by_cases he : j = nmN T nF fr
  · rw [he, decide_eq_true n1, decide_eq_true rfl]
    unfold sgP
    rw [n2, n3, decide_eq_true (Nat.le_refl fr), decide_eq_true (show fr < fr + 1 by omega)]
    rfl
  · rw [decide_eq_false he]
    by_cases hn : j < nF
    · rw [decide_eq_true hn, Bool.true_and]
      unfold sgP
      cases hT : T j with
      | false => rfl
      | true =>
        have hne : rnk T j ≠ fr := fun q => he (by rw [← q, nm_rnk T hn hT])
        by_cases h1 : fr ≤ rnk T j
        · rw [decide_eq_false (show ¬ (rnk T j < fr + 1) by omega)]
          simp
        · rw [decide_eq_false h1]
          simp
    · rw [decide_eq_false hn, Bool.false_and]
theorem sgS_le (hW : WFs a) (hD : WFd a d) (T : Nat → Bool) {fr s : Nat} (h : fr + s ≤ rnk T (AS_nF a)) : sgS T (AD_lk d) (AS_nF a) fr s ≤ 239976 := by
  have hN := hW.1
  have hr := rnk_le T (AS_nF a)
  have h1 := sumR_le (g := fun i => AD_lk d (nmN T (AS_nF a) i)) (b := 9999) (n := s) (x := fr) (fun i _ h2 => hD.2.2.1 _ (nm_spec T (F := AS_nF a) (i := i) (by omega)).1)
  have h2 : s * 9999 ≤ 24 * 9999 := Nat.mul_le_mul_right _ (by omega)
  unfold sgS
  omega
theorem M_hunt (hW : WFs a) (hD : WFd a d) (hA : RMs a w) (hB : RMd a d w) (T : Nat → Bool) {thr : Nat} (ht : thr < 100000) : ∀ (fu fr s sp : Nat) (mh : MH), s ≤ 2 ^ fu → fr + s ≤ rnk T (AS_nF a) → MH_sprayed mh = i4 sp →
    ∃ mh', f10_hunt w (fu + 1) mh (sgm T (AS_nF a) fr s) (i4 thr) = some mh' ∧ MH_sprayed mh' = i4 (sp + hct thr (sgS T (AD_lk d) (AS_nF a)) 24 fr s) ∧ ∀ j, j < 32 → bit (MH_foundSet mh') j = (bit (MH_foundSet mh) j || hst thr (sgS T (AD_lk d) (AS_nF a)) (nmN T (AS_nF a)) 24 fr s j) := by
  intro fu
  have hN := hW.1
  have hr := rnk_le T (AS_nF a)
  induction fu with
  | zero =>
    intro fr s sp mh hs hk hm
    have hs' : s ≤ 1 := hs
    by_cases h0 : s = 0
    · subst h0
      rw [f10_hunt, sgm_0 T hN.2.2.2, if_pos rfl]
      exact ⟨mh, rfl, hm, fun j _ => (Bool.or_false _).symm⟩
    · obtain rfl : s = 1 := by omega
      have hle := sgS_le hW hD T hk
      rw [f10_hunt, if_neg (sgm_ne0 T hN.2.2.2 hk (by omega)), sgm_leaks hW hA hB T hk, sbind, i4_to8 (by omega), sgm_size T hN.2.2.2 hk, sbind, hm, ad1]
      by_cases hc : thr ≤ sgS T (AD_lk d) (AS_nF a) fr 1
      · rw [if_pos ((i8_le (by omega) (by omega)).mpr hc), if_pos (show i4 1 = (1 : Int32) from rfl)]
        refine ⟨_, rfl, ?_, fun j hj => ?_⟩
        · rw [hct_1 (by omega) (fun h => h.2 rfl)]
          rfl
        · show bit (MH_foundSet mh ||| sgm T (AS_nF a) fr 1) j = _
          rw [bit_or, sgm_one T hN.2.2.2 (by omega) j hj, hst_1 hc]
      · rw [if_neg (fun q => hc ((i8_le (by omega) (by omega)).mp q))]
        refine ⟨_, rfl, ?_, fun j hj => ?_⟩
        · rw [hct_1 (by omega) (fun h => hc h.1)]
          rfl
        · rw [hst_0 hc, Bool.or_false]
          rfl
  | succ fu ih =>
    intro fr s sp mh hs hk hm
    rw [Nat.pow_succ] at hs
    by_cases h0 : s = 0
    · subst h0
      rw [f10_hunt, sgm_0 T hN.2.2.2, if_pos rfl]
      exact ⟨mh, rfl, hm, fun j _ => (Bool.or_false _).symm⟩
    · have hle := sgS_le hW hD T hk
      rw [f10_hunt, if_neg (sgm_ne0 T hN.2.2.2 hk (by omega)), sgm_leaks hW hA hB T hk, sbind, i4_to8 (by omega), sgm_size T hN.2.2.2 hk, sbind, hm, ad1]
      by_cases hc : thr ≤ sgS T (AD_lk d) (AS_nF a) fr s
      · rw [if_pos ((i8_le (by omega) (by omega)).mpr hc)]
        by_cases h1 : s = 1
        · subst h1
          rw [if_pos (show i4 1 = (1 : Int32) from rfl)]
          refine ⟨_, rfl, ?_, fun j hj => ?_⟩
          · rw [hct_1 (by omega) (fun h => h.2 rfl)]
            rfl
          · show bit (MH_foundSet mh ||| sgm T (AS_nF a) fr 1) j = _
            rw [bit_or, sgm_one T hN.2.2.2 (by omega) j hj, hst_1 hc]
        · rw [if_neg (show ¬ (i4 s = (1 : Int32)) from fun q => h1 ((i4_eq (b := 1) (by omega) (by omega)).mp q)), sbind, ad1, show i4 (s + 1) / 2 = i4 (s - s / 2) by
            rw [show i4 (s + 1) / 2 = i4 ((s + 1) / 2) from i4_div (b := 2) (by omega) (by omega)]
            congr 1
            omega, sgm_first T hN.2.2.2 hk (by omega), sbind, sgm_rest T hN.2.2.2 (by omega), show s - (s - s / 2) = s / 2 by omega]
          obtain ⟨m1, e1, f1, g1⟩ := ih fr (s - s / 2) (sp + 1) (MH_set_sprayed mh (i4 (sp + 1))) (by omega) (by omega) rfl
          obtain ⟨m2, e2, f2, g2⟩ := ih (fr + (s - s / 2)) (s / 2) _ m1 (by omega) (by omega) f1
          rw [e1, sbind, e2, sbind]
          refine ⟨m2, rfl, ?_, fun j hj => ?_⟩
          · rw [f2, hct_2 (by omega) (by omega) hc]
            congr 1
            omega
          · rw [g2 j hj, g1 j hj, hst_2 (by omega) (by omega) hc, Bool.or_assoc]
            rfl
      · rw [if_neg (fun q => hc ((i8_le (by omega) (by omega)).mp q))]
        refine ⟨_, rfl, ?_, fun j hj => ?_⟩
        · rw [hct_1 (by omega) (fun h => hc h.1)]
          rfl
        · rw [hst_0 hc, Bool.or_false]
          rfl
end HU
