/-! what the law asks after each turn holds -/
theorem and_k (y : Int32) {m : Nat} (hm : m < 2147483648) : ∃ k, k ≤ m ∧ (y &&& i4 m) = i4 k := by
  refine ⟨(y.toBitVec &&& (i4 m).toBitVec).toNat, ?_, ?_⟩
  · rw [BitVec.toNat_and]
    refine Nat.le_trans Nat.and_le_right ?_
    show (BitVec.ofNat 32 m).toNat ≤ m
    rw [BitVec.toNat_ofNat]
    exact Nat.mod_le _ _
  · refine Int32.toBitVec_inj.mp ?_
    show y.toBitVec &&& (i4 m).toBitVec = BitVec.ofNat 32 _
    rw [BitVec.ofNat_toNat, BitVec.setWidth_eq]
def mk5 (b0 b1 b2 b3 b4 : Bool) (v : Nat) : Bool := if v = 0 then b0 else if v = 1 then b1 else if v = 2 then b2 else if v = 3 then b3 else b4
theorem bc_5 : ∀ b0 b1 b2 b3 b4 : Bool, bcF (mskN (mk5 b0 b1 b2 b3 b4) 5) = i4 (sumN (fun j => if mk5 b0 b1 b2 b3 b4 j = true then 1 else 0) 5) := by decide +kernel
theorem mk5_at (p : Nat → Bool) {j : Nat} (hj : j < 5) : mk5 (p 0) (p 1) (p 2) (p 3) (p 4) j = p j := by
  rcases (show j = 0 ∨ j = 1 ∨ j = 2 ∨ j = 3 ∨ j = 4 by omega) with rfl | rfl | rfl | rfl | rfl <;> rfl
theorem bc_of {x : Int32} (hx : ∀ j, 5 ≤ j → j < 32 → bit x j = false) : bcF x = i4 (sumN (fun j => if bit x j = true then 1 else 0) 5) := by
  have e : x = mskN (mk5 (bit x 0) (bit x 1) (bit x 2) (bit x 3) (bit x 4)) 5 := by
    refine bit_ext (fun j hj => ?_)
    rw [bit_mskN _ _ (by omega)]
    by_cases h : j < 5
    · rw [decide_eq_true h, mk5_at (bit x) h, Bool.true_and]
    · rw [decide_eq_false h, Bool.false_and]
      exact hx j (by omega) hj
  have h5 := bc_5 (bit x 0) (bit x 1) (bit x 2) (bit x 3) (bit x 4)
  rw [← e] at h5
  rw [h5, sumN_congr (f := fun j => if mk5 (bit x 0) (bit x 1) (bit x 2) (bit x 3) (bit x 4) j = true then 1 else 0) (g := fun j => if bit x j = true then 1 else 0) (fun i hi => by rw [mk5_at (bit x) hi])]
theorem hct_le {thr : Nat} {S : Nat → Nat → Nat} : ∀ (f fr s : Nat), hct thr S f fr s ≤ 2 * s - 1 := by
  intro f
  induction f with
  | zero => intro fr s; exact Nat.zero_le _
  | succ f ih =>
    intro fr s
    rw [hct]
    split
    · exact Nat.zero_le _
    · split
      · have h1 := ih fr (s - s / 2)
        have h2 := ih (fr + (s - s / 2)) (s / 2)
        omega
      · omega
section HLD
variable {d : AD} {lY : LL} {tp : TP} {st : Fin 12 → SS}
theorem sum_v (hD : WFd A0 d) : (AD_vT d 0).toInt32 + (AD_vT d 1).toInt32 + (AD_vT d 2).toInt32 + (AD_vT d 3).toInt32 = (AD_vTs d).toInt32 := by
  rw [← hD.2.2.2.2.1]
  show _ = (0 + AD_vT d 0 + AD_vT d 1 + AD_vT d 2 + AD_vT d 3).toInt32
  rw [Int64.zero_add, Int64.toInt32_add, Int64.toInt32_add, Int64.toInt32_add]
theorem sum_p (hD : WFd A0 d) : (AD_pT d 0).toInt32 + (AD_pT d 1).toInt32 = (AD_pTs d).toInt32 := by
  rw [← hD.2.2.2.2.2]
  show _ = (0 + AD_pT d 0 + AD_pT d 1).toInt32
  rw [Int64.zero_add, Int64.toInt32_add]
theorem H_pend (hI : IV A0 d lY tp st) (hn : HN) {n : Nat} (h1 : 1 ≤ n) (h2 : n ≤ 999) (fu : Nat) : ∃ st', f_holds_B599 lY tp (fu + 1) hn st (i4 n) (i4 2) = some (1, hn, st') ∧ SX tp st st' := by
  obtain ⟨st', e, hs⟩ := Q_trips hI h1 h2
  have hD := hI.1.2.1
  have hc := cnt_tks WF_A0 n (d, 0)
  refine ⟨st', ?_, hs⟩
  have v0 : f9_valve lY tp st 0 5 = _ := Q_va5 hI (v := 0) (by decide)
  have v1 : f9_valve lY tp st 1 5 = _ := Q_va5 hI (v := 1) (by decide)
  have v2 : f9_valve lY tp st 2 5 = _ := Q_va5 hI (v := 2) (by decide)
  have v3 : f9_valve lY tp st 3 5 = _ := Q_va5 hI (v := 3) (by decide)
  have p0 : f9_pump lY tp st 0 7 = _ := Q_pu7 hI (p := 0) (by decide)
  have p1 : f9_pump lY tp st 1 7 = _ := Q_pu7 hI (p := 1) (by decide)
  rw [f_holds_B599, if_pos (by decide), v0, sbind, v1, sbind, v2, sbind, v3, sbind, Q_n5 hI, sbind, if_pos (sum_v hD), p0, sbind, p1, sbind, Q_n6 hI, sbind, if_pos (sum_p hD), e, sbind]
  dsimp only
  rw [if_neg (lt0_i4 (by have : (tksN A0 n (d, 0)).2 ≤ 0 + 16 * n := hc; omega))]
theorem H_pstep (hI : IV A0 d lY tp st) (hn : HN) {n p : Nat} (hp : p < 2) (fu : Nat) : f_holds_B599 lY tp (fu + 1) hn st (i4 n) (i4 p) = f_holds_B599 lY tp fu hn st (i4 n) (i4 (p + 1)) := by
  have hW := WF_A0
  have hD := hI.1.2.1
  obtain ⟨h1, h2, h3, h4, h5, h6, h7, h8⟩ := hW.2.2.1 p hp
  have hz := prz_le hW hD (e := AS_pC A0 p) (Or.inr h1)
  have hcl : cnd A0 d p ≤ 3 := by unfold cnd; split <;> (try split) <;> omega
  have hc1 : cnd A0 d p ≠ 1 := by unfold cnd; split <;> (try split) <;> omega
  rw [f_holds_B599, if_neg (show ¬ (2 ≤ i4 p) from fun q => by have := (i4_le (a := 2) (by omega) (by omega)).mp q; omega), Q_mayStart hI hp, sbind, Q_pu0 hI hp, sbind, Q_ch3 hI h1, sbind, Q_pu6 hI hp, sbind]
  by_cases hr : AD_run d p = true
  · rw [if_pos hr, if_pos hr, if_pos rfl, if_neg one_ne]
    unfold f_holds_B675
    rw [if_neg (by decide), ad1]
  · rw [if_neg hr, if_neg hr, if_neg (show ¬ (i4 (cnd A0 d p) = 1) from fun q => hc1 ((i4_eq (b := 1) (by omega) (by omega)).mp q)), if_neg (show ¬ ((0 : Int32) = 1) by decide), if_pos rfl]
    unfold f_holds_B675
    by_cases h0 : cnd A0 d p = 0
    · have hle := (cnd_0 h0).1
      rw [h0, if_pos (show i4 0 = (0 : Int32) from rfl), Q_pu4 hI hp, sbind, if_neg (fun q => by have := (i4_lt (by omega) (by omega)).mp q; omega), if_neg (show ¬ (i4 0 = (2 : Int32)) by decide), ad1]
    · rw [if_neg (show ¬ (i4 (cnd A0 d p) = 0) from fun q => h0 ((i4_eq (b := 0) (by omega) (by omega)).mp q))]
      by_cases h2' : cnd A0 d p = 2
      · have hgt : AS_pH A0 p < prz A0 d (AS_pC A0 p) := by
          refine Nat.lt_of_not_le (fun q => ?_)
          unfold cnd at h2'
          rw [if_pos q] at h2'
          split at h2' <;> omega
        rw [h2', if_pos (show i4 2 = (2 : Int32) from rfl), Q_pu4 hI hp, sbind, if_pos ((i4_lt (by omega) (by omega)).mpr hgt), ad1]
      · rw [if_neg (show ¬ (i4 (cnd A0 d p) = 2) from fun q => h2' ((i4_eq (b := 2) (by omega) (by omega)).mp q)), ad1]
theorem FU_s : ∃ k, FU = k + 1 + 1 + 1 + 1 + 1 + 1 := ⟨4090, rfl⟩
theorem H_pumps (hI : IV A0 d lY tp st) (hn : HN) {n : Nat} (h1 : 1 ≤ n) (h2 : n ≤ 999) : ∃ st', f_holds_B599 lY tp FU hn st (i4 n) 0 = some (1, hn, st') ∧ SX tp st st' := by
  obtain ⟨k, hk⟩ := FU_s
  obtain ⟨st', e, hs⟩ := H_pend hI hn h1 h2 (k + 1 + 1 + 1)
  refine ⟨st', ?_, hs⟩
  rw [hk, show (0 : Int32) = i4 0 from rfl, H_pstep hI hn (by omega), H_pstep hI hn (by omega)]
  exact e
theorem H_vstep (hI : IV A0 d lY tp st) (hn : HN) {n v : Nat} (hv : v < 4) (fu : Nat) : f_holds_B466 lY tp (fu + 1) hn st (i4 n) (i4 v) = f_holds_B466 lY tp fu hn st (i4 n) (i4 (v + 1)) := by
  have hW := WF_A0
  have hD := hI.1.2.1
  have hd := dif_le hW hD (v := v) hv
  have hr := hD.2.1 v hv
  have hb : ((mskN (mayO A0 d) 4) >>> (i4 v &&& 31)) &&& 1 = if mayO A0 d v = true then 1 else 0 := by
    rw [bit_ask _ (by omega), bit_mskN _ _ (by omega), decide_eq_true hv, Bool.true_and]
  rw [f_holds_B466, if_neg (show ¬ (4 ≤ i4 v) from fun q => by have := (i4_le (a := 4) (by omega) (by omega)).mp q; omega), Q_mayOpen hI hv, sbind, Q_va4 hI hv, sbind, Q_openable hI, sbind, A0_V, hb]
  by_cases hO : AD_opn d v = true
  · rw [if_neg (show ¬ mayO A0 d v = true from fun h => by unfold mayO at h; rw [hO] at h; simp at h), if_pos hO, if_pos hO, if_pos (show (if (1 : Int32) = 1 then (1 : Int32) else 0) = (if (1 : Int32) = 1 then (1 : Int32) else 0) from rfl), if_pos (show (if (1 : Int32) = 0 then (1 : Int32) else 0) = (if (0 : Int32) = 1 then (1 : Int32) else 0) by decide), if_neg one_ne]
    unfold f_holds_B564
    rw [if_neg (show ¬ ((1 : Int32) = 2) by decide), ad1]
  · have hO' : AD_opn d v = false := by simpa using hO
    by_cases hR : dif A0 d v ≤ AD_rul d v
    · rw [if_pos (show mayO A0 d v = true by unfold mayO; rw [hO', decide_eq_true hR]; rfl), if_neg hO, if_neg hO, if_pos hR, if_pos (show (if (0 : Int32) = 1 then (1 : Int32) else 0) = (if (0 : Int32) = 1 then (1 : Int32) else 0) from rfl), if_pos (show (if (0 : Int32) = 0 then (1 : Int32) else 0) = (if (1 : Int32) = 1 then (1 : Int32) else 0) by decide), if_pos (show (0 : Int32) = 0 from rfl), Q_va6 hI hv, sbind, Q_va3 hI hv, sbind, if_neg (fun q => by have := (i4_lt (by omega) (by omega)).mp q; omega)]
      unfold f_holds_B564
      rw [if_neg (show ¬ ((0 : Int32) = 2) by decide), ad1]
    · rw [if_neg (show ¬ mayO A0 d v = true from fun h => by unfold mayO at h; rw [decide_eq_false hR] at h; simp at h), if_neg hO, if_neg hO, if_neg hR, if_pos (show (if (2 : Int32) = 1 then (1 : Int32) else 0) = (if (0 : Int32) = 1 then (1 : Int32) else 0) by decide), if_pos (show (if (2 : Int32) = 0 then (1 : Int32) else 0) = (if (0 : Int32) = 1 then (1 : Int32) else 0) by decide), if_neg (show ¬ ((2 : Int32) = 0) by decide)]
      unfold f_holds_B564
      rw [if_pos (show (2 : Int32) = 2 from rfl), Q_va6 hI hv, sbind, Q_va3 hI hv, sbind, if_pos ((i4_lt (by omega) (by omega)).mpr (by omega)), ad1]
theorem H_valves (hI : IV A0 d lY tp st) (hn : HN) {n : Nat} (h1 : 1 ≤ n) (h2 : n ≤ 999) : ∃ st', f_holds_B466 lY tp FU hn st (i4 n) 0 = some (1, hn, st') ∧ SX tp st st' := by
  obtain ⟨k, hk⟩ := FU_s
  obtain ⟨st', e, hs⟩ := H_pumps hI hn h1 h2
  refine ⟨st', ?_, hs⟩
  rw [show f_holds_B466 lY tp FU hn st (i4 n) 0 = f_holds_B466 lY tp (k + 1 + 1 + 1 + 1 + 1 + 1) hn st (i4 n) (i4 0) from by rw [← hk]; rfl, H_vstep hI hn (by omega), H_vstep hI hn (by omega), H_vstep hI hn (by omega), H_vstep hI hn (by omega), f_holds_B466, if_pos (by decide)]
  exact e
theorem T_of {c i : Nat} (h : i < rnk (toF A0 c) 5) : nmN (toF A0 c) 5 i < 5 ∧ AS_fH A0 (nmN (toF A0 c) 5 i) = c :=
  ⟨(nm_spec _ h).1, of_decide_eq_true (nm_spec _ h).2.1⟩
theorem sgS_all (c : Nat) : sgS (toF A0 c) (AD_lk d) 5 0 (rnk (toF A0 c) 5) = lks A0 d c := by
  rw [← sgS_eq (toF A0 c) (AD_lk d) (nF := 5) (fr := 0) (s := rnk (toF A0 c) 5) (by omega)]
  refine sumN_congr (fun f hf => ?_)
  by_cases h : AS_fH A0 f = c
  · have hT : toF A0 c f = true := decide_eq_true h
    have h1 := rnk_y hT
    have h2 := rnk_mono (toF A0 c) (F := f + 1) (G := 5) (by omega)
    rw [if_pos h, if_pos]
    unfold sgP
    rw [hT, decide_eq_true (by omega), decide_eq_true (by omega)]
    rfl
  · have hT : toF A0 c f = false := decide_eq_false h
    rw [if_neg h, if_neg]
    unfold sgP
    rw [hT]
    simp
/-- what is known of a hunt's answer -/
def FND (d : AD) (c thr : Nat) (x : Int32) : Prop := (∀ j, j < 32 → bit x j = true → j < 5 ∧ AS_fH A0 j = c ∧ thr ≤ AD_lk d j) ∧ (x ≠ 0 → thr ≤ lks A0 d c)
theorem fnd_of {c thr : Nat} {x : Int32} (hx : ∀ j, j < 32 → bit x j = hst thr (sgS (toF A0 c) (AD_lk d) 5) (nmN (toF A0 c) 5) 24 0 (rnk (toF A0 c) 5) j) : FND d c thr x := by
  refine ⟨fun j hj hb => ?_, fun hne => ?_⟩
  · rw [hx j hj] at hb
    obtain ⟨i, i1, i2, i3, i4⟩ := hst_in _ _ _ _ hb
    obtain ⟨t1, t2⟩ := T_of (c := c) (i := i) (by omega)
    rw [i3]
    refine ⟨t1, t2, ?_⟩
    have e : sgS (toF A0 c) (AD_lk d) 5 i 1 = AD_lk d (nmN (toF A0 c) 5 i) + 0 := rfl
    omega
  · rw [← sgS_all]
    refine Classical.byContradiction (fun hq => hne (int0_bits.mpr (fun j hj => ?_)))
    cases hb : bit x j with
    | false => rfl
    | true =>
      rw [hx j hj] at hb
      exact absurd (hst_sum hb) hq
theorem H_fstep (hI : IV A0 d lY tp st) (hn : HN) {n thr c f : Nat} {x : Int32} (ht : thr ≤ 9999) (hc : c < 3) (hx : FND d c thr x) (hf : f < 5) (rec : HN → (Fin 12 → SS) → Int32 → Int32 → Int32 → Option (Int32 × (HN) × (Fin 12 → SS))) (fu : Nat) :
    f_holds_B381 lY tp rec (fu + 1) hn st (i4 n) (i4 thr) (i4 c) x (i4 f) = f_holds_B381 lY tp rec fu hn st (i4 n) (i4 thr) (i4 c) x (i4 (f + 1)) := by
  have hD := hI.1.2.1
  have hl := hD.2.2.1 f hf
  have hh := WF_A0.2.2.2.2 f hf
  have hC := A0_C
  rw [f_holds_B381, Q_n3 hI, sbind, if_neg (show ¬ (i4 (AS_nF A0) ≤ i4 f) from fun q => by have := (i4_le (a := 5) (by omega) (by omega)).mp q; omega), Q_fl0 hI hf, sbind, bit_ask x (k := f) (by omega)]
  unfold f_holds_B435
  rw [bit_ask x (k := f) (by omega)]
  by_cases hb : bit x f = true
  · obtain ⟨-, k1, k2⟩ := hx.1 f (by omega) hb
    rw [k1, if_pos rfl, Q_fl1 hI hf, sbind, if_neg (fun q => by have := (i4_lt (by omega) (by omega)).mp q; omega), if_pos hb, if_pos rfl, if_pos rfl, ad1]
  · rw [if_neg hb, if_neg (show ¬ ((0 : Int32) = 1) by decide), if_pos rfl, if_neg (show ¬ ((0 : Int32) = 1) by decide), ad1]
    split
    · rw [Q_fl1 hI hf, sbind]
      split <;> rfl
    · rfl
theorem H_flanges (hI : IV A0 d lY tp st) (hn : HN) {n thr c : Nat} {x : Int32} (ht : thr ≤ 9999) (hc : c < 3) (hx : FND d c thr x) (rec : HN → (Fin 12 → SS) → Int32 → Int32 → Int32 → Option (Int32 × (HN) × (Fin 12 → SS))) :
    f_holds_B381 lY tp rec FU hn st (i4 n) (i4 thr) (i4 c) x 0 = rec hn st (i4 n) (i4 thr) (i4 (c + 1)) := by
  obtain ⟨k, hk⟩ := FU_s
  rw [show f_holds_B381 lY tp rec FU hn st (i4 n) (i4 thr) (i4 c) x 0 = f_holds_B381 lY tp rec (k + 1 + 1 + 1 + 1 + 1 + 1) hn st (i4 n) (i4 thr) (i4 c) x (i4 0) from by rw [← hk]; rfl, H_fstep hI hn ht hc hx (by omega), H_fstep hI hn ht hc hx (by omega), H_fstep hI hn ht hc hx (by omega), H_fstep hI hn ht hc hx (by omega), H_fstep hI hn ht hc hx (by omega), f_holds_B381, Q_n3 hI, sbind, if_pos (by decide), ad1]
theorem H_yend (hI : IV A0 d lY tp st) (hn : HN) {n thr c : Nat} {x6 : Int32} (h1 : 1 ≤ thr) (ht : thr ≤ 9999) (hc : c < 3) (rec : HN → (Fin 12 → SS) → Int32 → Int32 → Int32 → Option (Int32 × (HN) × (Fin 12 → SS))) (fu : Nat) :
    ∃ hn', f_holds_B225 lY tp rec (fu + 1) hn st (i4 n) (i4 thr) (i4 c) x6 (i4 3) = rec hn' st (i4 n) (i4 thr) (i4 (c + 1)) := by
  have hD := hI.1.2.1
  have hlk := lks_le WF_A0 hD c
  obtain ⟨x, hn1, e1, hx⟩ := Q_found hI hn (c := c) hc h1 ht
  obtain ⟨hn2, e2⟩ := Q_sprays hI hn1 (c := c) hc h1 ht
  have hF := fnd_of (d := d) hx
  have hx5 : ∀ j, 5 ≤ j → j < 32 → bit x j = false := by
    intro j h5 h32
    cases hb : bit x j with
    | false => rfl
    | true => have := (hF.1 j h32 hb).1; omega
  have hsum : sumN (fun f => if bit x f = true then AD_lk d f else 0) 5 ≤ lks A0 d c := by
    refine sumN_mono (fun f hf => ?_)
    by_cases hb : bit x f = true
    · rw [if_pos hb, if_pos (hF.1 f (by omega) hb).2.1]; exact Nat.le_refl _
    · rw [if_neg hb]; exact Nat.zero_le _
  have hcnt : sumN (fun j => if bit x j = true then 1 else 0) 5 ≤ hct thr (sgS (toF A0 c) (AD_lk d) 5) 24 0 (rnk (toF A0 c) 5) := by
    refine Nat.le_trans (Nat.le_of_eq (sumN_congr (fun i hi => ?_))) (hst_cnt (nm := nmN (toF A0 c) 5) 5 24 0 (rnk (toF A0 c) 5))
    rw [hx i (by omega)]
    rfl
  have hcs : sumN (fun j => if bit x j = true then 1 else 0) 5 ≤ 5 * 1 := sumN_le (fun i _ => by split <;> omega)
  have hfin : ∀ hn', f_holds_B381 lY tp rec FU hn' st (i4 n) (i4 thr) (i4 c) x 0 = rec hn' st (i4 n) (i4 thr) (i4 (c + 1)) := fun hn' => H_flanges hI hn' ht hc hF rec
  refine ⟨hn2, ?_⟩
  rw [f_holds_B225, if_pos (by decide), e1, sbind]
  dsimp only
  rw [e2, sbind, Q_spray hI (fun j a b => hx5 j a b), sbind, Q_ch4 hI hc, sbind, if_neg (fun q => by have := (i4_lt (by omega) (by have : sumN (fun f => if bit x f = true then AD_lk d f else 0) (AS_nF A0) ≤ lks A0 d c := hsum; omega)).mp q; have : sumN (fun f => if bit x f = true then AD_lk d f else 0) (AS_nF A0) ≤ lks A0 d c := hsum; omega)]
  dsimp only
  rw [bc_of hx5]
  have hh : ¬ (i4 (hct thr (sgS (toF A0 c) (AD_lk d) (AS_nF A0)) 24 0 (rnk (toF A0 c) (AS_nF A0))) < i4 (sumN (fun j => if bit x j = true then 1 else 0) 5)) := by
    have hr5 := rnk_le (toF A0 c) 5
    have h9 := hct_le (thr := thr) (S := sgS (toF A0 c) (AD_lk d) 5) 24 0 (rnk (toF A0 c) 5)
    intro q
    have := (i4_lt (a := hct thr (sgS (toF A0 c) (AD_lk d) 5) 24 0 (rnk (toF A0 c) 5)) (by omega) (by omega)).mp q
    omega
  rw [if_neg hh]
  by_cases h0 : x = 0
  · rw [if_pos h0]
    exact hfin hn2
  · rw [if_neg h0, sbind, if_pos ((i4_le (by omega) (by omega)).mpr (hF.2 h0))]
    exact hfin hn2
abbrev JO (d : AD) (c : Nat) : Int32 := JN (AD_opn d 0) (AD_opn d 1) (AD_opn d 2) (AD_opn d 3) c
theorem Q_jn (hI : IV A0 d lY tp st) {c : Nat} (hc : c < 3) : f9_joined lY tp st (i4 c) = some (JO d c &&& 255) := by
  rw [Q_joined hI hc, rch_opn hI, JN_of]
theorem Q_vn (hI : IV A0 d lY tp st) {c : Nat} (hc : c < 3) : f9_isVented lY tp st (i4 c) = some (if bit (JO d c) 8 = true then 1 else 0) := by
  rw [Q_vented hI hc, rch_opn hI, JN_of]
theorem H_ystep (hI : IV A0 d lY tp st) (hn : HN) {n thr c y : Nat} (hc : c < 3) (hy : y < 3) (rec : HN → (Fin 12 → SS) → Int32 → Int32 → Int32 → Option (Int32 × (HN) × (Fin 12 → SS))) (fu : Nat) :
    f_holds_B225 lY tp rec (fu + 1) hn st (i4 n) (i4 thr) (i4 c) (JO d c &&& 255) (i4 y) = f_holds_B225 lY tp rec fu hn st (i4 n) (i4 thr) (i4 c) (JO d c &&& 255) (i4 (y + 1)) := by
  have hL := hI.1.2.2.1
  obtain ⟨f1, f2⟩ := fwv_sym c hc y hy
  rw [f_holds_B225, if_neg (show ¬ (3 ≤ i4 y) from fun q => by have := (i4_le (a := 3) (by omega) (by omega)).mp q; omega), Q_jn hI hy, sbind, if_pos (jn_sym _ _ _ _ c hc y hy), Q_fewest hL hc hy, sbind, Q_fewest hL hy hc, sbind, if_pos f1]
  by_cases hb : ((JO d c &&& 255) >>> (i4 y &&& 31)) &&& 1 = 1
  · rw [if_pos hb, sbind, if_neg f2, Q_vn hI hc, sbind, Q_vn hI hy, sbind, if_pos (by rw [jn_vent _ _ _ _ c hc y hy hb]), ad1]
  · rw [if_neg hb, ad1]
theorem H_y (hI : IV A0 d lY tp st) (hn : HN) {n thr c : Nat} (h1 : 1 ≤ thr) (ht : thr ≤ 9999) (hc : c < 3) (rec : HN → (Fin 12 → SS) → Int32 → Int32 → Int32 → Option (Int32 × (HN) × (Fin 12 → SS))) :
    ∃ hn', f_holds_B225 lY tp rec FU hn st (i4 n) (i4 thr) (i4 c) (JO d c &&& 255) 0 = rec hn' st (i4 n) (i4 thr) (i4 (c + 1)) := by
  obtain ⟨k, hk⟩ := FU_s
  obtain ⟨hn', e⟩ := H_yend hI hn (n := n) (x6 := JO d c &&& 255) h1 ht hc rec (k + 1 + 1)
  refine ⟨hn', ?_⟩
  rw [show f_holds_B225 lY tp rec FU hn st (i4 n) (i4 thr) (i4 c) (JO d c &&& 255) 0 = f_holds_B225 lY tp rec (k + 1 + 1 + 1 + 1 + 1 + 1) hn st (i4 n) (i4 thr) (i4 c) (JO d c &&& 255) (i4 0) from by rw [← hk]; rfl, H_ystep hI hn hc (by omega), H_ystep hI hn hc (by omega), H_ystep hI hn hc (by omega)]
  exact e
theorem spr_ge (P : Nat → Bool) : ∀ (n v : Nat) (s : Nat × Nat), s.1 ≤ s.2 → (goN (spr A0 d P) n v s).1 ≤ (goN (spr A0 d P) n v s).2 := by
  intro n
  induction n with
  | zero => intro v s h; exact h
  | succ n ih =>
    intro v s h
    refine ih (v + 1) _ ?_
    unfold spr
    split
    · dsimp only
      split <;> split <;> omega
    · exact h
theorem spr_hi (P : Nat → Bool) (hW : WFs A0) (hD : WFd A0 d) : ∀ (n v : Nat) (s : Nat × Nat), v + n ≤ 3 → s.2 ≤ 1000250000 → (goN (spr A0 d P) n v s).2 ≤ 1000250000 := by
  intro n
  induction n with
  | zero => intro v s _ h; exact h
  | succ n ih =>
    intro v s hv h
    refine ih (v + 1) _ (by omega) ?_
    have := prz_le hW hD (e := v) (Or.inr (show v < 3 by omega))
    unfold spr
    split
    · dsimp only
      split <;> omega
    · exact h
theorem one_spr {c : Nat} (hc : c < 3) {P : Nat → Bool} (hP : ∀ i, i < 3 → P i = decide (i = c)) : goN (spr A0 d P) 3 0 (prz A0 d c, prz A0 d c) = (prz A0 d c, prz A0 d c) := by
  have k : ∀ i, i < 3 → spr A0 d P i (prz A0 d c, prz A0 d c) = (prz A0 d c, prz A0 d c) := by
    intro i hi
    unfold spr
    by_cases h : i = c
    · subst h
      rw [hP i hi, decide_eq_true rfl, if_pos rfl]
      dsimp only
      rw [if_neg (Nat.lt_irrefl _)]
    · rw [hP i hi, decide_eq_false h, if_neg (by decide)]
  show spr A0 d P 2 (spr A0 d P 1 (spr A0 d P 0 _)) = _
  rw [k 0 (by omega), k 1 (by omega), k 2 (by omega)]
theorem one_stl {c : Nat} (hc : c < 3) {P : Nat → Bool} (hP : ∀ i, i < 3 → P i = decide (i = c)) : goN (stl A0 d P) 3 0 (0, 0) = (AD_gas d c, AS_vol A0 c) := by
  show stl A0 d P 2 (stl A0 d P 1 (stl A0 d P 0 _)) = _
  unfold stl
  rw [hP 0 (by omega), hP 1 (by omega), hP 2 (by omega)]
  rcases (show c = 0 ∨ c = 1 ∨ c = 2 by omega) with rfl | rfl | rfl <;> simp
theorem lt0_sub {x y : Nat} (hx : x ≤ y) (hy : y < 2147483648) : ¬ (i4 y - i4 x < 0) := by
  rw [i4_sub hx]
  exact lt0_i4 (by omega)
theorem alone_one {c : Nat} (hc : c < 3) (h : aln A0 d c) : JO d c &&& 255 = (1 : Int32) <<< (i4 c &&& 31) := by
  have k := anyF_false.mp h.1
  exact jn_alone _ _ _ _ c hc (k 0 (by omega) (by decide)) (k 1 (by omega) (by decide)) (k 2 (by omega) (by decide)) (k 3 (by omega) (by decide))
theorem stl_b (P : Nat → Bool) (hD : WFd A0 d) : ∀ (n v : Nat) (s : Nat × Nat), v + n ≤ 3 → s.1 ≤ 1000250001 * s.2 → (goN (stl A0 d P) n v s).1 ≤ 1000250001 * (goN (stl A0 d P) n v s).2 := by
  intro n
  induction n with
  | zero => intro v s _ h; exact h
  | succ n ih =>
    intro v s hv h
    refine ih (v + 1) _ (by omega) ?_
    have hg : AD_gas d v < (PMAX + 1) * AS_vol A0 v := (hD.1 v (show v < 3 by omega)).1
    have hg' : AD_gas d v < 1000250001 * AS_vol A0 v := hg
    unfold stl
    split
    · show s.1 + AD_gas d v ≤ 1000250001 * (s.2 + AS_vol A0 v)
      rw [Nat.mul_add]
      omega
    · exact h
theorem Q_spr (hI : IV A0 d lY tp st) {c : Nat} (hc : c < 3) : ∃ lo hi, f9_spread lY tp st (i4 c) = some (i4 hi - i4 lo) ∧ lo ≤ hi ∧ hi ≤ 1000250000 ∧ (JO d c &&& 255 = (1 : Int32) <<< (i4 c &&& 31) → hi = lo) := by
  have hW := WF_A0
  have hD := hI.1.2.1
  have hp := prz_le hW hD (e := c) (Or.inr (show c < AS_nC A0 from hc))
  have q1 := Q_spread hI (c := c) hc
  rw [JN_of] at q1
  refine ⟨_, _, q1, spr_ge (d := d) (bit (JO d c)) 3 0 (prz A0 d c, prz A0 d c) (Nat.le_refl _), spr_hi (bit (JO d c)) hW hD 3 0 (prz A0 d c, prz A0 d c) (by omega) hp, fun h => ?_⟩
  have e : goN (spr A0 d (bit (JO d c))) 3 0 (prz A0 d c, prz A0 d c) = _ := one_spr hc (jn_one _ _ _ _ c hc h)
  show (goN (spr A0 d (bit (JO d c))) 3 0 (prz A0 d c, prz A0 d c)).2 = (goN (spr A0 d (bit (JO d c))) 3 0 (prz A0 d c, prz A0 d c)).1
  rw [e]
theorem Q_stl (hI : IV A0 d lY tp st) {c : Nat} (hc : c < 3) : ∃ m, f9_settled lY tp st (i4 c) = some (i4 m) ∧ m ≤ 1000250001 ∧ (JO d c &&& 255 = (1 : Int32) <<< (i4 c &&& 31) → m = prz A0 d c) := by
  have hW := WF_A0
  have hD := hI.1.2.1
  have hb := jn_self (AD_opn d 0) (AD_opn d 1) (AD_opn d 2) (AD_opn d 3) c hc
  have q2 := Q_settled hI (c := c) hc (by rw [JN_of]; exact hb)
  rw [JN_of] at q2
  refine ⟨_, q2, ?_, fun h => ?_⟩
  · have h := stl_b (bit (JO d c)) hD 3 0 (0, 0) (by omega) (Nat.le_refl _)
    exact Nat.div_le_of_le_mul (by rw [Nat.mul_comm]; exact h)
  · have e : goN (stl A0 d (bit (JO d c))) 3 0 (0, 0) = _ := one_stl hc (jn_one _ _ _ _ c hc h)
    show (goN (stl A0 d (bit (JO d c))) 3 0 (0, 0)).1 / (goN (stl A0 d (bit (JO d c))) 3 0 (0, 0)).2 = _
    rw [e, prz_c hW hc]
theorem H_109 (hI : IV A0 d lY tp st) (hn : HN) {n thr c : Nat} (n1 : 1 ≤ n) (n2 : n ≤ 999) (h1 : 1 ≤ thr) (ht : thr ≤ 9999) (hc : c < 3) (rec : HN → (Fin 12 → SS) → Int32 → Int32 → Int32 → Option (Int32 × (HN) × (Fin 12 → SS))) :
    ∃ hn' st', f_holds_B109 lY tp rec hn st (i4 n) (i4 thr) (i4 c) (i4 (prz A0 d c)) (JO d c &&& 255) = rec hn' st' (i4 n) (i4 thr) (i4 (c + 1)) ∧ SX tp st st' := by
  have hW := WF_A0
  have hD := hI.1.2.1
  have hp := prz_le hW hD (e := c) (Or.inr (show c < AS_nC A0 from hc))
  obtain ⟨s1, e1, x1⟩ := Q_lowest hI (c := c) hc n1 n2
  have hI1 := IV_sx hI x1
  obtain ⟨s2, e2, x2⟩ := Q_after hI1 (c := c) hc n1 n2
  have hI2 := IV_sx hI1 x2
  obtain ⟨s3, e3, x3⟩ := Q_mean hI2 (c := c) hc n1 n2
  have hI3 := IV_sx hI2 x3
  obtain ⟨s4, e4, x4⟩ := Q_after hI3 (c := c) hc (n := 1) (by omega) (by omega)
  have hI4 := IV_sx hI3 x4
  have l1 := lws_le (a := A0) c n d (prz A0 d c)
  have l2 := lws_k (a := A0) c n d (prz A0 d c) n n1 (by omega)
  have l3 := lws_k (a := A0) c n d (prz A0 d c) 1 (by omega) n1
  have hDn := WF_tkD hW n d hD
  have hD1 := WF_tkD hW 1 d hD
  have p1 := prz_le hW hDn (e := c) (Or.inr (show c < AS_nC A0 from hc))
  have p2 := prz_le hW hD1 (e := c) (Or.inr (show c < AS_nC A0 from hc))
  have hm := mean_law hW hD (c := c) hc n1 n2
  have hb := jn_self (AD_opn d 0) (AD_opn d 1) (AD_opn d 2) (AD_opn d 3) c hc
  obtain ⟨lo, hi, q1, g1, g2, g3⟩ := Q_spr hI4 hc
  obtain ⟨m, q2, g4, g5⟩ := Q_stl hI4 hc
  obtain ⟨hn', e5⟩ := H_y hI4 hn (n := n) h1 ht hc rec
  refine ⟨hn', s4, ?_, SX_tr (SX_tr (SX_tr x1 x2) x3) x4⟩
  unfold f_holds_B109
  rw [e1, sbind]
  dsimp only
  rw [e2, sbind]
  dsimp only
  rw [e3, sbind]
  dsimp only
  rw [if_neg (fun q => by have := (i4_lt (by omega) (by omega)).mp q; omega), if_neg (fun q => by have := (i4_lt (by omega) (by omega)).mp q; omega), if_neg hm, show f9_pressureAfter lY tp s3 (i4 c) 1 = _ from e4, sbind]
  dsimp only
  rw [if_pos ((i4_le (by omega) (by omega)).mpr l3), q1, sbind, if_neg (lt0_sub g1 (by omega)), q2, sbind, if_neg (lt0_i4 (by omega))]
  by_cases ho : JO d c &&& 255 = (1 : Int32) <<< (i4 c &&& 31)
  · rw [if_pos ho, sbind, g3 ho, Int32.sub_self, if_pos rfl, sbind, g5 ho, if_pos rfl]
    exact e5
  · rw [if_neg ho]
    exact e5
theorem H_xstep (hI : IV A0 d lY tp st) (hn : HN) {n thr c : Nat} (n1 : 1 ≤ n) (n2 : n ≤ 999) (h1 : 1 ≤ thr) (ht : thr ≤ 9999) (hc : c < 3) (fu : Nat) :
    ∃ hn' st', f_holds_B23 lY tp (fu + 1) hn st (i4 n) (i4 thr) (i4 c) = f_holds_B23 lY tp fu hn' st' (i4 n) (i4 thr) (i4 (c + 1)) ∧ SX tp st st' := by
  have hW := WF_A0
  have hD := hI.1.2.1
  have hp := prz_le hW hD (e := c) (Or.inr (show c < AS_nC A0 from hc))
  have hv := hW.2.1 c hc
  have hg := gas_lt hW hD (c := c) hc
  obtain ⟨hn', st', e, hx⟩ := H_109 hI hn n1 n2 h1 ht hc (f_holds_B23 lY tp fu)
  refine ⟨hn', st', ?_, hx⟩
  obtain ⟨r, er, ry, rn⟩ := Q_isolated hI (c := c) hc
  have hdiv : (i4 (prz A0 d c)).toInt64 = i8 (AD_gas d c) / (i4 (AS_vol A0 c)).toInt64 := by
    rw [i4_to8 (by omega), i4_to8 (by omega), i8_div (by omega) (by omega), prz_c hW hc]
  rw [f_holds_B23, if_neg (show ¬ (3 ≤ i4 c) from fun q => by have := (i4_le (a := 3) (by omega) (by omega)).mp q; omega), Q_ch3 hI hc, sbind, Q_jn hI hc, sbind, Q_gas hI hc, sbind, if_neg (fun q => by have := (i8_lt (b := 0) (by omega) (by omega)).mp q; omega), sbind, Q_ch0 hI hc, sbind, gd_of (by rw [i4_to8 (by omega)]; exact i8_ne0 (by omega) hv.1), if_pos hdiv, if_neg (jn_self2 _ _ _ _ c hc), er, sbind]
  by_cases ha : aln A0 d c
  · rw [ry ha, if_neg one_ne, if_pos (alone_one hc ha)]
    exact e
  · rw [rn ha, if_pos rfl]
    exact e
theorem H_x (hI : IV A0 d lY tp st) (hn : HN) {n thr : Nat} (n1 : 1 ≤ n) (n2 : n ≤ 999) (h1 : 1 ≤ thr) (ht : thr ≤ 9999) :
    ∃ hn' st', f_holds_B23 lY tp FU hn st (i4 n) (i4 thr) 0 = some (1, hn', st') ∧ SX tp st st' := by
  obtain ⟨k, hk⟩ := FU_s
  obtain ⟨ha, sa, ea, xa⟩ := H_xstep hI hn n1 n2 h1 ht (c := 0) (by omega) (k + 1 + 1 + 1 + 1 + 1)
  have Ia := IV_sx hI xa
  obtain ⟨hb, sb, eb, xb⟩ := H_xstep Ia ha n1 n2 h1 ht (c := 1) (by omega) (k + 1 + 1 + 1 + 1)
  have Ib := IV_sx Ia xb
  obtain ⟨hc, sc, ec, xc⟩ := H_xstep Ib hb n1 n2 h1 ht (c := 2) (by omega) (k + 1 + 1 + 1)
  have Ic := IV_sx Ib xc
  obtain ⟨s', e, xs⟩ := H_valves Ic hc n1 n2
  refine ⟨hc, s', ?_, SX_tr (SX_tr (SX_tr xa xb) xc) xs⟩
  rw [show f_holds_B23 lY tp FU hn st (i4 n) (i4 thr) 0 = f_holds_B23 lY tp (k + 1 + 1 + 1 + 1 + 1 + 1) hn st (i4 n) (i4 thr) (i4 0) from by rw [← hk]; rfl, ea, eb, ec, f_holds_B23, if_pos (by decide)]
  exact e
theorem H_holds (hI : IV A0 d lY tp st) (hn : HN) (x : Int32) : ∃ hn' st', f_holds lY tp hn st x = some (1, hn', st') ∧ SX tp st st' := by
  obtain ⟨n, hn1, e1⟩ := and_k (iushrF x 4) (m := 31) (by omega)
  obtain ⟨t, ht1, e2⟩ := and_k (iushrF x 9) (m := 255) (by omega)
  obtain ⟨hn', st', e, hx⟩ := H_x hI hn (n := 1 + n) (thr := 1 + t) (by omega) (by omega) (by omega) (by omega)
  refine ⟨hn', st', ?_, hx⟩
  unfold f_holds
  rw [show (iushrF x 4) &&& 31 = i4 n from e1, show (iushrF x 9) &&& 255 = i4 t from e2, show (1 : Int32) + i4 n = i4 (1 + n) from i4_add 1 n, show (1 : Int32) + i4 t = i4 (1 + t) from i4_add 1 t]
  exact e
end HLD
