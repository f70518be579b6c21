/-! many ticks -/
def tot (d : AD) : Int64 := AD_vTs d + AD_pTs d
def tksN (a : AS) : Nat → AD × Nat → AD × Nat
  | 0, s => s
  | n + 1, s => tksN a n ((tic a (s.1, 0)).1, s.2 + (tic a (s.1, 0)).2)
/-- until a pressure is low enough: how many ticks, and the state then -/
def untN (a : AS) (c to : Nat) : Nat → Nat → AD → Option (Nat × AD)
  | 0, n, d => if prz a d c ≤ to then some (n, d) else none
  | r + 1, n, d => if prz a d c ≤ to then some (n, d) else untN a c to r (n + 1) (tic a (d, 0)).1
def ansN (o : Option (Nat × AD)) : Int32 := match o with
  | some q => i4 q.1
  | none => -1
section TK
variable {a : AS} {d : AD} {ly : LL} {S : SS}
theorem i8_1 : (1 : Int64) = i8 1 := rfl
theorem tot_trip {T0 : Int64} {s : AD × Nat} {v : Nat} (h : tot s.1 = T0 + i8 s.2) : tot (trip1 a v s).1 = T0 + i8 (trip1 a v s).2 := by
  unfold trip1
  split
  · show (AD_vTs s.1 + 1) + AD_pTs s.1 = T0 + i8 (s.2 + 1)
    rw [← i8_add, ← Int64.add_assoc, ← h]
    unfold tot
    rw [Int64.add_assoc, Int64.add_comm 1, ← Int64.add_assoc]
    rfl
  · exact h
theorem tot_pump {T0 : Int64} {s : AD × Nat} {v : Nat} (h : tot s.1 = T0 + i8 s.2) : tot (pump1 a v s).1 = T0 + i8 (pump1 a v s).2 := by
  unfold pump1
  split
  · split
    · split
      · exact h
      · have e1 : ∀ c u d, tot (giveN c u d) = tot d := by intro c u d; unfold giveN; split <;> rfl
        have e2 : ∀ c u d, tot (takeN c u d) = tot d := by intro c u d; unfold takeN; split <;> rfl
        dsimp only
        rw [e1, e2]
        exact h
    · show AD_vTs s.1 + (AD_pTs s.1 + 1) = T0 + i8 (s.2 + 1)
      rw [← i8_add, ← Int64.add_assoc, ← Int64.add_assoc, ← h]
      rfl
  · exact h
theorem tot_tic (a : AS) (d : AD) : tot (tic a (d, 0)).1 = tot d + i8 (tic a (d, 0)).2 := by
  have h1 : tot (ticT a (d, 0)).1 = tot d + i8 (ticT a (d, 0)).2 := goN_ind (P := fun s : AD × Nat => tot s.1 = tot d + i8 s.2) (by show tot d = tot d + i8 0; rw [show i8 0 = 0 from rfl, Int64.add_zero]) (fun i t _ _ ht => tot_trip ht)
  have h2 : tot (ticG a (ticT a (d, 0)).1) = tot (ticT a (d, 0)).1 := goN_ind (P := fun s : AD => tot s = tot (ticT a (d, 0)).1) rfl (fun i t _ _ ht => ht)
  have h3 : tot (ticM a (ticG a (ticT a (d, 0)).1)) = tot (ticT a (d, 0)).1 := goN_ind (P := fun s : AD => tot s = tot (ticT a (d, 0)).1) h2 (fun i t _ _ ht => by
    have e1 : ∀ c u d, tot (giveN c u d) = tot d := by intro c u d; unfold giveN; split <;> rfl
    have e2 : ∀ c u d, tot (takeN c u d) = tot d := by intro c u d; unfold takeN; split <;> rfl
    unfold move1
    split
    · split
      · rw [e1, e2]; exact ht
      · rw [e1, e2]; exact ht
    · exact ht)
  have h4 : tot (tic0 a (d, 0)).1 = tot d + i8 (tic0 a (d, 0)).2 := goN_ind (P := fun s : AD × Nat => tot s.1 = tot d + i8 s.2) (h3.trans h1) (fun i t _ _ ht => tot_pump ht)
  exact h4
theorem cnt_go {f : Nat → AD × Nat → AD × Nat} (hf : ∀ v s, (f v s).2 ≤ s.2 + 1) : ∀ (n v : Nat) (s : AD × Nat), (goN f n v s).2 ≤ s.2 + n
  | 0, _, s => Nat.le_refl _
  | n + 1, v, s => by
    have h1 := cnt_go hf n (v + 1) (f v s)
    have h2 := hf v s
    rw [goN_succ]
    omega
theorem trip1_c (v : Nat) (s : AD × Nat) : (trip1 a v s).2 ≤ s.2 + 1 := by
  unfold trip1
  split
  · exact Nat.le_refl _
  · exact Nat.le_succ _
theorem pump1_c (v : Nat) (s : AD × Nat) : (pump1 a v s).2 ≤ s.2 + 1 := by
  unfold pump1
  split
  · split
    · split
      · exact Nat.le_succ _
      · exact Nat.le_succ _
    · exact Nat.le_refl _
  · exact Nat.le_succ _
theorem cnt_tic (hW : WFs a) (d : AD) : (tic a (d, 0)).2 ≤ 16 := by
  have hN := hW.1
  have h1 := cnt_go (f := trip1 a) trip1_c (AS_nV a) 0 (d, 0)
  have h2 := cnt_go (f := pump1 a) pump1_c (AS_nP a) 0 (ticM a (ticG a (ticT a (d, 0)).1), (ticT a (d, 0)).2)
  have h3 : (tic a (d, 0)).2 = (goN (pump1 a) (AS_nP a) 0 (ticM a (ticG a (ticT a (d, 0)).1), (ticT a (d, 0)).2)).2 := rfl
  have h4 : (ticT a (d, 0)).2 = (goN (trip1 a) (AS_nV a) 0 (d, 0)).2 := rfl
  rw [h3]
  dsimp only at h1 h2
  omega
theorem WF_tks (hW : WFs a) : ∀ (n : Nat) (s : AD × Nat), WFd a s.1 → WFd a (tksN a n s).1
  | 0, _, h => h
  | n + 1, s, h => WF_tks hW n _ (WF_tic (s := (s.1, 0)) hW h)
theorem tot_tks : ∀ (n : Nat) (s : AD × Nat) (T0 : Int64), tot s.1 = T0 + i8 s.2 → tot (tksN a n s).1 = T0 + i8 (tksN a n s).2
  | 0, _, _, h => h
  | n + 1, s, T0, h => by
    refine tot_tks n _ T0 ?_
    dsimp only
    rw [tot_tic, h, ← i8_add, Int64.add_assoc]
theorem cnt_tks (hW : WFs a) : ∀ (n : Nat) (s : AD × Nat), (tksN a n s).2 ≤ s.2 + 16 * n
  | 0, _ => Nat.le_refl _
  | n + 1, s => by
    have h1 := cnt_tks hW n ((tic a (s.1, 0)).1, s.2 + (tic a (s.1, 0)).2)
    have h2 := cnt_tic hW s.1
    unfold tksN
    dsimp only at h1
    omega
theorem C_pass0 (hW : WFs a) (hL : RCs a ly) {N : Nat} (hN : N < 2147483648) : ∀ (n x fu t : Nat) (d : AD) (S : SS), WFd a d → RCd a d S → x + n = N → n < fu →
    ∃ S', f5_passTicks_B4 ly fu S (i4 N) (i4 t) (i4 x) = some (i4 (tksN a n (d, t)).2, S') ∧ RCd a (tksN a n (d, t)).1 S' := by
  intro n
  induction n with
  | zero =>
    intro x fu t d S hD hS hx hf
    obtain ⟨k, rfl, -⟩ := fuS hf
    rw [f5_passTicks_B4, if_pos ((i4_le hN (by omega)).mpr (by omega))]
    exact ⟨S, rfl, hS⟩
  | succ n ih =>
    intro x fu t d S hD hS hx hf
    obtain ⟨k, rfl, -⟩ := fuS hf
    obtain ⟨S1, e1, h1⟩ := C_tick hW hD hL hS
    rw [f5_passTicks_B4, if_neg (fun h => by have := (i4_le hN (by omega)).mp h; omega), e1, sbind]
    dsimp only
    rw [i4_add, ad1]
    exact ih (x + 1) k _ _ S1 (WF_tic (s := (d, 0)) hW hD) h1 (by omega) (by omega)
theorem C_pass (hW : WFs a) (hD : WFd a d) (hL : RCs a ly) (hS : RCd a d S) {N : Nat} (hN : N ≤ 4000) : ∃ S', f5_passTicks ly S (i4 N) = some (i4 (tksN a N (d, 0)).2, S') ∧ RCd a (tksN a N (d, 0)).1 S' :=
  C_pass0 hW hL (by omega) N 0 FU 0 d S hD hS (by omega) (by have := FU_eq; omega)
theorem WF_unt (hW : WFs a) {c to : Nat} : ∀ (r n : Nat) (d : AD), WFd a d → ∀ m d', untN a c to r n d = some (m, d') → WFd a d' ∧ n ≤ m ∧ m ≤ n + r
  | 0, n, d, h, m, d', e => by
    unfold untN at e
    split at e
    · cases e; exact ⟨h, Nat.le_refl _, by omega⟩
    · cases e
  | r + 1, n, d, h, m, d', e => by
    unfold untN at e
    split at e
    · cases e; exact ⟨h, Nat.le_refl _, by omega⟩
    · have := WF_unt hW r (n + 1) _ (WF_tic (s := (d, 0)) hW h) m d' e
      exact ⟨this.1, by omega, by omega⟩
theorem C_unt0 (hW : WFs a) (hL : RCs a ly) {c to : Nat} (hc : c < AS_nC a) (ht : to ≤ 1000000) : ∀ (r n fu : Nat) (d : AD) (S : SS), WFd a d → RCd a d S → n + r = 999 → r + 1 < fu →
    ∃ S', f5_passUntilAtMost_B2 ly fu S (i4 c) (i4 to) (i4 n) = some (ansN (untN a c to r n d), S') ∧ SS_pressure S' 8 = i4 1000000 ∧ ∀ m d', untN a c to r n d = some (m, d') → RCd a d' S' := by
  intro r
  have hN := hW.1
  induction r with
  | zero =>
    intro n fu d S hD hS hx hf
    obtain ⟨k, rfl, hk⟩ := fuS hf
    obtain ⟨k, rfl, -⟩ := fuS (n := 0) (fu := k) (by omega)
    have hp := prz_le hW hD (e := c) (Or.inr hc)
    rw [f5_passUntilAtMost_B2, if_neg (show ¬ ((999 : Int32) < i4 n) from fun h => by have := (i4_lt (a := 999) (by omega) (by omega)).mp h; omega), gdi _ (by omega) (by omega), ix4 (by omega), C_pr hS (Or.inr hc)]
    unfold untN
    by_cases h : prz a d c ≤ to
    · rw [if_pos h, if_neg (fun q => by have := (i4_lt (by omega) (by omega)).mp q; omega)]
      exact ⟨S, rfl, hS.2.1.2, fun m d' e => by cases e; exact hS⟩
    · rw [if_neg h, if_pos ((i4_lt (by omega) (by omega)).mpr (by omega))]
      obtain ⟨S1, e1, h1⟩ := C_tick hW hD hL hS
      rw [e1, sbind]
      dsimp only
      rw [ad1, f5_passUntilAtMost_B2, if_pos (show ((999 : Int32) < i4 (n + 1)) from (i4_lt (a := 999) (by omega) (by omega)).mpr (by omega))]
      exact ⟨S1, rfl, h1.2.1.2, fun m d' e => by cases e⟩
  | succ r ih =>
    intro n fu d S hD hS hx hf
    obtain ⟨k, rfl, hk⟩ := fuS hf
    have hp := prz_le hW hD (e := c) (Or.inr hc)
    rw [f5_passUntilAtMost_B2, if_neg (show ¬ ((999 : Int32) < i4 n) from fun h => by have := (i4_lt (a := 999) (by omega) (by omega)).mp h; omega), gdi _ (by omega) (by omega), ix4 (by omega), C_pr hS (Or.inr hc)]
    unfold untN
    by_cases h : prz a d c ≤ to
    · rw [if_pos h, if_neg (fun q => by have := (i4_lt (by omega) (by omega)).mp q; omega)]
      exact ⟨S, rfl, hS.2.1.2, fun m d' e => by cases e; exact hS⟩
    · rw [if_neg h, if_pos ((i4_lt (by omega) (by omega)).mpr (by omega))]
      obtain ⟨S1, e1, h1⟩ := C_tick hW hD hL hS
      rw [e1, sbind]
      dsimp only
      rw [ad1]
      exact ih (n + 1) k _ S1 (WF_tic (s := (d, 0)) hW hD) h1 (by omega) (by omega)
theorem C_unt (hW : WFs a) (hD : WFd a d) (hL : RCs a ly) (hS : RCd a d S) {c to : Nat} (hc : c < AS_nC a) (ht : to ≤ 1000000) :
    ∃ S', f5_passUntilAtMost ly S (i4 c) (i4 to) = some (ansN (untN a c to 999 0 d), S') ∧ SS_pressure S' 8 = i4 1000000 ∧ ∀ m d', untN a c to 999 0 d = some (m, d') → RCd a d' S' :=
  C_unt0 hW hL hc ht 999 0 FU d S hD hS (by omega) (by have := FU_eq; omega)
end TK

