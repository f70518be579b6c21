/-! joined chambers, hunts, the report's length -/
section VIEW
variable {a : AS} {d : AD} {lY : LL} {tp : TP} {st : Fin 12 → SS}
theorem grwF_congr {m m' : Nat → Bool} (hm : ∀ v, v < AS_nV a → m v = m' v) (x : Int32) : grwF a m x = grwF a m' x := by
  unfold grwF
  refine goN_congr (fun i t h1 h2 => ?_)
  unfold grw1
  rw [hm i (by omega)]
theorem itN_congr {f g : Int32 → Int32} (h : ∀ x, f x = g x) : ∀ (n : Nat) (x : Int32), itN f n x = itN g n x := by
  have e : f = g := funext h
  rw [e]
  exact fun _ _ => rfl
theorem rch_congr {m m' : Nat → Bool} (hm : ∀ v, v < AS_nV a → m v = m' v) (c n : Nat) : rch a m c n = rch a m' c n := itN_congr (fun x => grwF_congr hm x) n _
theorem rch_opn (hI : IV a d lY tp st) (c n : Nat) : rch a (bit (SS_openValves (st (TP_pr tp)))) c n = rch a (AD_opn d) c n := rch_congr (fun v hv => (hI.1.2.2.2.2.2.2.2.2.1 v hv).1) c n
theorem Q_openable (hI : IV a d lY tp st) : f9_openable lY tp st = some (mskN (mayO a d) (AS_nV a)) := by
  obtain ⟨⟨hW, hD, hL, hS⟩, -⟩ := hI
  have hN := hW.1
  have := FU_eq
  have kC : ∀ (n v fu : Nat), v + n = AS_nV a → n < fu → f9_openable_B4 lY tp st fu (mskN (mayO a d) v) (i4 v) = some (mskN (mayO a d) (AS_nV a)) := by
    intro n
    induction n with
    | zero =>
      intro v fu hv hf
      obtain ⟨q, rfl, -⟩ := fuS hf
      rw [f9_openable_B4, hL.1.2.2.1, if_pos ((i4_le (by omega) (by omega)).mpr (by omega)), show v = AS_nV a by omega]
    | succ n ih =>
      intro v fu hv hf
      obtain ⟨q, rfl, -⟩ := fuS hf
      rw [f9_openable_B4, hL.1.2.2.1, if_neg (fun h => by have := (i4_le (by omega) (by omega)).mp h; omega), C_openBar hW hD hL hS (by omega), sbind, ad1]
      by_cases hO : AD_opn d v = true
      · rw [if_pos hO, if_neg one_ne, mskN_n (show ¬ mayO a d v = true from fun h => by unfold mayO at h; rw [hO] at h; simp at h)]
        exact ih (v + 1) q (by omega) (by omega)
      · rw [if_neg hO]
        have hO' : AD_opn d v = false := by simpa using hO
        by_cases hR : dif a d v ≤ AD_rul d v
        · rw [if_pos hR, if_pos rfl, mskN_y (show mayO a d v = true by unfold mayO; rw [hO', decide_eq_true hR]; rfl)]
          exact ih (v + 1) q (by omega) (by omega)
        · rw [if_neg hR, if_neg (by decide), mskN_n (show ¬ mayO a d v = true from fun h => by unfold mayO at h; rw [decide_eq_false hR] at h; simp at h)]
          exact ih (v + 1) q (by omega) (by omega)
  exact kC (AS_nV a) 0 FU (by omega) (by omega)
theorem Q_spread (hI : IV a d lY tp st) {c : Nat} (hc : c < AS_nC a) : f9_spread lY tp st (i4 c) = some (i4 (goN (spr a d (bit (rch a (AD_opn d) c 8))) (AS_nC a) 0 (prz a d c, prz a d c)).2 - i4 (goN (spr a d (bit (rch a (AD_opn d) c 8))) (AS_nC a) 0 (prz a d c, prz a d c)).1) := by
  have hr := rch_opn hI c 8
  obtain ⟨⟨hW, hD, hL, hS⟩, -⟩ := hI
  have hN := hW.1
  have := FU_eq
  have hp := prz_le hW hD (e := c) (Or.inr hc)
  unfold f9_spread
  rw [C_hasC_y hW hL hc, sbind, if_neg one_ne, C_reach hW hL, sbind, gdi _ (by omega) (by omega), ix4 (by omega), C_pr hS (Or.inr hc), hr]
  exact C_spread0 hW hD hL hS (P := bit (rch a (AD_opn d) c 8)) (fun _ _ => rfl) (AS_nC a) 0 FU _ _ (by omega) (by omega) (by omega) (by omega)
theorem Q_settled (hI : IV a d lY tp st) {c : Nat} (hc : c < AS_nC a) (hb : bit (rch a (AD_opn d) c 8) c = true) : f9_settled lY tp st (i4 c) = some (i4 ((goN (stl a d (bit (rch a (AD_opn d) c 8))) (AS_nC a) 0 (0, 0)).1 / (goN (stl a d (bit (rch a (AD_opn d) c 8))) (AS_nC a) 0 (0, 0)).2)) := by
  have hr := rch_opn hI c 8
  obtain ⟨⟨hW, hD, hL, hS⟩, -⟩ := hI
  have hN := hW.1
  have := FU_eq
  have h1 := stl_pos (d := d) hW (bit (rch a (AD_opn d) c 8)) (AS_nC a) 0 (0, 0) (by omega) (Or.inr ⟨c, by omega, by omega, hb⟩)
  have h2 := stl_le hW hD (bit (rch a (AD_opn d) c 8)) (AS_nC a) 0 (0, 0) (by omega)
  unfold f9_settled
  rw [C_hasC_y hW hL hc, sbind, if_neg one_ne, C_reach hW hL, sbind, hr]
  exact C_settled0 hW hD hL hS (P := bit (rch a (AD_opn d) c 8)) (fun _ _ => rfl) (AS_nC a) 0 FU 0 0 (by omega) (by omega) h1 (by omega) (by
    have : (goN (stl a d (bit (rch a (AD_opn d) c 8))) (AS_nC a) 0 (0, 0)).1 ≤ 0 + 999249750999 * AS_nC a := h2.2
    omega)
theorem Q_found (hI : IV a d lY tp st) (hn : HN) {c thr : Nat} (hc : c < AS_nC a) (h1 : 1 ≤ thr) (h2 : thr ≤ 9999) :
    ∃ x hn', f9_found lY tp st hn (i4 c) (i4 thr) = some (x, hn') ∧ ∀ j, j < 32 → bit x j = hst thr (sgS (toF a c) (AD_lk d) (AS_nF a)) (nmN (toF a c) (AS_nF a)) 24 0 (rnk (toF a c) (AS_nF a)) j := by
  obtain ⟨⟨hW, hD, hL, hS⟩, -⟩ := hI
  obtain ⟨hn', e, -, k⟩ := C_run hW hD hL hS hn hc (thr := thr) (by omega)
  refine ⟨_, hn', ?_, k⟩
  unfold f9_found
  rw [C_hasC_y hW hL hc, sbind, if_neg one_ne, if_neg (show ¬ (i4 thr < 1) from fun q => by have := (i4_lt (b := 1) (by omega) (by omega)).mp q; omega), if_pos (show i4 thr ≤ 9999 from (i4_le (b := 9999) (by omega) (by omega)).mpr h2), e, sbind]
theorem Q_sprays (hI : IV a d lY tp st) (hn : HN) {c thr : Nat} (hc : c < AS_nC a) (h1 : 1 ≤ thr) (h2 : thr ≤ 9999) :
    ∃ hn', f9_sprays lY tp st hn (i4 c) (i4 thr) = some (i4 (hct thr (sgS (toF a c) (AD_lk d) (AS_nF a)) 24 0 (rnk (toF a c) (AS_nF a))), hn') := by
  obtain ⟨⟨hW, hD, hL, hS⟩, -⟩ := hI
  obtain ⟨hn', e, k, -⟩ := C_run hW hD hL hS hn hc (thr := thr) (by omega)
  refine ⟨hn', ?_⟩
  unfold f9_sprays
  rw [C_hasC_y hW hL hc, sbind, if_neg one_ne, if_neg (show ¬ (i4 thr < 1) from fun q => by have := (i4_lt (b := 1) (by omega) (by omega)).mp q; omega), if_pos (show i4 thr ≤ 9999 from (i4_le (b := 9999) (by omega) (by omega)).mpr h2), e, sbind, k]
theorem Q_spray (hI : IV a d lY tp st) {x : Int32} (hx : ∀ j, AS_nF a ≤ j → j < 32 → bit x j = false) : f9_spray lY tp st x = some (i4 (sumN (fun f => if bit x f = true then AD_lk d f else 0) (AS_nF a))) := by
  obtain ⟨⟨hW, hD, hL, hS⟩, -⟩ := hI
  have hN := hW.1
  have := FU_eq
  have k : ∀ (n f fu : Nat), f + n = AS_nF a → n < fu → f9_spray_B26 lY tp st fu x (i4 (sumN (fun f => if bit x f = true then AD_lk d f else 0) f)) (i4 f) = some (i4 (sumN (fun f => if bit x f = true then AD_lk d f else 0) (AS_nF a))) := by
    intro n
    induction n with
    | zero =>
      intro f fu hf hu
      obtain ⟨q, rfl, -⟩ := fuS hu
      rw [f9_spray_B26, hL.1.2.2.2, if_pos ((i4_le (by omega) (by omega)).mpr (by omega)), show f = AS_nF a by omega]
    | succ n ih =>
      intro f fu hf hu
      obtain ⟨q, rfl, -⟩ := fuS hu
      rw [f9_spray_B26, hL.1.2.2.2, if_neg (fun h => by have := (i4_le (by omega) (by omega)).mp h; omega), C_has _ (by omega), sbind, ad1]
      by_cases hb : bit x f = true
      · rw [if_pos hb, if_neg one_ne, gdi _ (by omega) (by omega), ix4 (by omega), hS.2.2.2.1.2 f (by omega), i4_add]
        have := ih (f + 1) q (by omega) (by omega)
        rw [show sumN (fun f => if bit x f = true then AD_lk d f else 0) (f + 1) = sumN (fun f => if bit x f = true then AD_lk d f else 0) f + AD_lk d f from by show _ + (if bit x f = true then AD_lk d f else 0) = _; rw [if_pos hb]] at this
        exact this
      · rw [if_neg hb, if_pos rfl]
        have := ih (f + 1) q (by omega) (by omega)
        rw [show sumN (fun f => if bit x f = true then AD_lk d f else 0) (f + 1) = sumN (fun f => if bit x f = true then AD_lk d f else 0) f from by show _ + (if bit x f = true then AD_lk d f else 0) = _; rw [if_neg hb]; rfl] at this
        exact this
  unfold f9_spray f1_allFlanges
  rw [sbind, hL.1.2.2.2, if_pos (int0_bits.mpr (fun j hj => ?_))]
  · exact k (AS_nF a) 0 FU (by omega) (by omega)
  · rw [bit_and, bit_not _ hj, allf_bit _ (by omega) j hj]
    by_cases h : j < AS_nF a
    · rw [decide_eq_true h]; simp
    · rw [hx j (by omega) hj]; rfl
end VIEW
/-! what a hunt finds -/
theorem hst_in {thr : Nat} {S : Nat → Nat → Nat} {nm : Nat → Nat} : ∀ (f fr s j : Nat), hst thr S nm f fr s j = true → ∃ i, fr ≤ i ∧ i < fr + s ∧ j = nm i ∧ thr ≤ S i 1 := by
  intro f
  induction f with
  | zero => intro fr s j h; cases h
  | succ f ih =>
    intro fr s j h
    rw [hst] at h
    by_cases h0 : s = 0
    · rw [if_pos h0] at h; cases h
    · rw [if_neg h0] at h
      by_cases hc : thr ≤ S fr s
      · rw [if_pos hc] at h
        by_cases h1 : s = 1
        · rw [if_pos h1] at h
          subst h1
          exact ⟨fr, by omega, by omega, of_decide_eq_true h, hc⟩
        · rw [if_neg h1, Bool.or_eq_true] at h
          rcases h with h | h
          · obtain ⟨i, i1, i2, i3, i4⟩ := ih _ _ _ h
            exact ⟨i, i1, by omega, i3, i4⟩
          · obtain ⟨i, i1, i2, i3, i4⟩ := ih _ _ _ h
            exact ⟨i, by omega, by omega, i3, i4⟩
      · rw [if_neg hc] at h; cases h
theorem hst_sum {thr : Nat} {S : Nat → Nat → Nat} {nm : Nat → Nat} {f fr s j : Nat} (h : hst thr S nm f fr s j = true) : thr ≤ S fr s := by
  cases f with
  | zero => cases h
  | succ f =>
    rw [hst] at h
    by_cases h0 : s = 0
    · rw [if_pos h0] at h; cases h
    · rw [if_neg h0] at h
      by_cases hc : thr ≤ S fr s
      · exact hc
      · rw [if_neg hc] at h; cases h
theorem sumN_le2 {f g : Nat → Nat} : ∀ {n : Nat}, (∀ i, i < n → f i ≤ g i) → sumN f n ≤ sumN g n := fun h => sumN_mono h
theorem hst_cnt {thr : Nat} {S : Nat → Nat → Nat} {nm : Nat → Nat} (N : Nat) : ∀ (f fr s : Nat), sumN (fun j => if hst thr S nm f fr s j = true then 1 else 0) N ≤ hct thr S f fr s := by
  intro f
  induction f with
  | zero =>
    intro fr s
    refine Nat.le_trans (sumN_mono (g := fun _ => 0) (fun i _ => ?_)) (by rw [sumN_zero]; omega)
    show (if hst thr S nm 0 fr s i = true then 1 else 0) ≤ 0
    rw [if_neg (by intro q; cases q)]
    exact Nat.le_refl _
  | succ f ih =>
    intro fr s
    by_cases h0 : s = 0
    · refine Nat.le_trans (sumN_mono (g := fun _ => 0) (fun i _ => ?_)) (by rw [sumN_zero]; omega)
      rw [if_neg (by rw [hst, if_pos h0]; intro q; cases q)]
      exact Nat.le_refl _
    · by_cases hc : thr ≤ S fr s
      · by_cases h1 : s = 1
        · have e : hct thr S (f + 1) fr s = 1 := by rw [hct, if_neg h0, if_neg (fun q => q.2 h1)]
          rw [e]
          refine Nat.le_trans (sumN_mono (g := fun c => if nm fr = c then 1 else 0) (fun i _ => ?_)) (by rw [sumN_one]; split <;> omega)
          rw [hst, if_neg h0, if_pos hc, if_pos h1]
          by_cases q : i = nm fr
          · rw [if_pos (decide_eq_true q), if_pos q.symm]; exact Nat.le_refl _
          · rw [if_neg (by simp [q])]; omega
        · have e : hct thr S (f + 1) fr s = 1 + hct thr S f fr (s - s / 2) + hct thr S f (fr + (s - s / 2)) (s / 2) := by rw [hct, if_neg h0, if_pos ⟨hc, h1⟩]
          rw [e]
          have i1 := ih fr (s - s / 2)
          have i2 := ih (fr + (s - s / 2)) (s / 2)
          have i3 : sumN (fun j => if hst thr S nm (f + 1) fr s j = true then 1 else 0) N ≤ sumN (fun j => (if hst thr S nm f fr (s - s / 2) j = true then 1 else 0) + (if hst thr S nm f (fr + (s - s / 2)) (s / 2) j = true then 1 else 0)) N := by
            refine sumN_mono (fun i _ => ?_)
            rw [hst, if_neg h0, if_pos hc, if_neg h1]
            cases hst thr S nm f fr (s - s / 2) i <;> cases hst thr S nm f (fr + (s - s / 2)) (s / 2) i <;> simp
          rw [sumN_add] at i3
          omega
      · refine Nat.le_trans (sumN_mono (g := fun _ => 0) (fun i _ => ?_)) (by rw [sumN_zero]; omega)
        rw [if_neg (by rw [hst, if_neg h0, if_neg hc]; intro q; cases q)]
        exact Nat.le_refl _
/-! the report's length is that of what it tells -/
theorem wn_l2 : ∀ (f n : Nat) (s t : PG), s.2 = t.2 → (wn f n s).2 = (wn f n t).2 := by
  intro f
  induction f with
  | zero => intro n s t h; exact h
  | succ f ih =>
    intro n s t h
    show (wr _ _).2 = (wr _ _).2
    rw [wr_len, wr_len]
    by_cases hn : n ≤ 9
    · rw [if_pos hn, if_pos hn, h]
    · rw [if_neg hn, if_neg hn, ih _ s t h]
theorem go_l2 {f : Nat → PG → PG} (hf : ∀ v s t, s.2 = t.2 → (f v s).2 = (f v t).2) : ∀ (n v : Nat) (s t : PG), s.2 = t.2 → (goN f n v s).2 = (goN f n v t).2 := by
  intro n
  induction n with
  | zero => intro v s t h; exact h
  | succ n ih => intro v s t h; exact ih (v + 1) _ _ (hf v s t h)
theorem mrk_l2 (ch : Int32) (P : Nat → Bool) (v : Nat) (s t : PG) (h : s.2 = t.2) : (mrk ch P v s).2 = (mrk ch P v t).2 := by
  unfold mrk
  by_cases hp : P v = true
  · rw [if_pos hp, if_pos hp]
    exact wn_l2 _ _ _ _ (by rw [wr_len, wr_len, wr_len, wr_len, h])
  · rw [if_neg hp, if_neg hp]; exact h
theorem lne_l2 (a : AS) (d : AD) (c : Nat) (s t : PG) (h : s.2 = t.2) : (lne a d c s).2 = (lne a d c t).2 := by
  unfold lne
  rw [wr_len, wr_len]
  congr 1
  refine go_l2 (fun v s t h => mrk_l2 _ _ v s t h) _ _ _ _ (go_l2 (fun v s t h => mrk_l2 _ _ v s t h) _ _ _ _ (wn_l2 _ _ _ _ ?_))
  rw [wr_len, wr_len]
  congr 1
  refine wn_l2 _ _ _ _ ?_
  unfold wt
  rw [goW_len, goW_len, h]
def rpl (a : AS) (d : AD) : Nat := (goN (lne a d) (AS_nC a) 0 ((fun _ => 0), 0)).2
theorem Q_rep {a : AS} {d : AD} {lY : LL} {tp : TP} {st : Fin 12 → SS} (hI : IV a d lY tp st) (rp : RP) : ∃ rp', f9_writeReport lY tp st rp = some (i4 (rpl a d), rp') := by
  obtain ⟨rp', e⟩ := Q_report hI rp
  have h := go_l2 (f := lne a d) (fun v s t h => lne_l2 a d v s t h) (AS_nC a) 0 (RP_bytes rp, 0) ((fun _ => 0), 0) rfl
  rw [h] at e
  exact ⟨rp', e⟩
