/-! a turn of the law -/
abbrev OTL : Type := Int32 × (HN) × (RP) × (TP) × (Fin 12 → SS)
abbrev RECL : Type := HN → RP → TP → (Fin 12 → SS) → Int32 → Int32 → Option OTL
/-- the next turn begins, with what must hold there -/
def NXT (F : Option OTL) (rec : RECL) (lY : LL) (k : Nat) : Prop := ∃ (hn' : HN) (rp' : RP) (tp' : TP) (st' : Fin 12 → SS) (cnt' np' : Nat) (d' : AD), F = rec hn' rp' tp' st' (i4 cnt') (i4 (k + 1)) ∧ IV A0 d' lY tp' st' ∧ UD tp' cnt' np'
section TURN
variable {len : Nat} {xs : Nat → Int32} {lY : LL} {rec : RECL} {d d' : AD} {tp : TP} {st : Fin 12 → SS} {cnt np k : Nat}
theorem T_1031a (hI : IV A0 d lY tp st) (hU : UD tp cnt np) (hn : HN) (rp : RP) {c x5 x6 x8 x10 x11 x12 x13 x14 x15 : Int32} {x17 : Int64} {told : Nat} (ht : told < 2147483648) : NXT (f_law_B1031 len xs lY rec hn rp tp st (i4 cnt) (i4 k) c x5 x6 x8 x10 x11 x12 x13 x14 x15 (i4 told) x17 0) rec lY k := by
  obtain ⟨hn', st', e, hx⟩ := H_holds hI hn c
  refine ⟨hn', rp, tp, st', cnt, np, d, ?_, IV_sx hI hx, hU⟩
  unfold f_law_B1031 f9_undoDepth
  rw [if_neg (lt0_i4 ht), sbind, if_pos hU.2.2.1, e, sbind]
  dsimp only
  rw [if_neg one_ne, if_pos rfl, ad1]
theorem T_1031b (hI : IV A0 d' lY tp st) (hU : UD tp cnt np) (h0 : cnt ≠ 0) (hB : BK A0 d tp st np) (hn : HN) (rp : RP) {c : Int32} {x v f : Nat} (hx0 : x < 3) (hv : v < 4) (hf : f < 5) {told : Nat} (ht : told < 2147483648) :
    NXT (f_law_B1031 len xs lY rec hn rp tp st (i4 cnt) (i4 k) c (i4 x) (i4 v) (i4 f) (i4 (rpl A0 d)) (AD_tm d).toInt32 (AD_vTs d).toInt32 (AD_pTs d).toInt32 (i4 (AD_lk d f)) (i4 (AD_rul d v)) (i4 told) (i8 (AD_gas d x)) 1) rec lY k := by
  obtain ⟨hn', st', e, hx⟩ := H_holds hI hn c
  have hI' := IV_sx hI hx
  have hB' := BK_sx hI.2.2 hB hx
  by_cases hq : (iushrF c 29) &&& 3 = 1
  · obtain ⟨tp2, np2, e2, hI2, hU2⟩ := V_undo hI' hU h0 hB'
    obtain ⟨rp2, e3⟩ := Q_rep hI2 rp
    have hd : i4 cnt + (-1) = i4 (cnt - 1) := by
      rw [show (i4 cnt + (-1) : Int32) = i4 cnt - 1 from (Int32.sub_eq_add_neg _ _).symm]
      exact i4_sub (b := 1) (by omega)
    refine ⟨hn', rp2, tp2, st', cnt - 1, np2, d, ?_, hI2, hU2⟩
    unfold f_law_B1031 f9_undoDepth
    rw [if_neg (lt0_i4 ht), sbind, if_pos hU.2.2.1, e, sbind]
    dsimp only
    rw [if_neg one_ne, if_neg one_ne, if_pos hq, e2, sbind]
    dsimp only
    rw [hd, if_pos rfl, Q_n4 hI2, sbind, if_pos rfl, Q_n5 hI2, sbind, if_pos rfl, Q_n6 hI2, sbind, if_pos rfl, show f9_flange lY tp2 st' (i4 f) 1 = _ from Q_fl1 hI2 hf, sbind, if_pos rfl, show f9_valve lY tp2 st' (i4 v) 3 = _ from Q_va3 hI2 hv, sbind, if_pos rfl, Q_gas hI2 hx0, sbind, if_pos rfl, e3, sbind]
    dsimp only
    rw [if_pos rfl, ad1]
  · refine ⟨hn', rp, tp, st', cnt, np, d', ?_, hI', hU⟩
    unfold f_law_B1031 f9_undoDepth
    rw [if_neg (lt0_i4 ht), sbind, if_pos hU.2.2.1, e, sbind]
    dsimp only
    rw [if_neg one_ne, if_neg one_ne, if_neg hq, ad1]
theorem T_1017a (hI : IV A0 d lY tp st) (hU : UD tp cnt np) (hn : HN) (rp : RP) {c x5 x6 x8 x10 x11 x12 x13 x14 x15 : Int32} {x17 : Int64} {told : Nat} (ht : told < 2147483648) : NXT (f_law_B1017 len xs lY rec hn rp tp st (i4 cnt) (i4 k) c x5 x6 x8 x10 x11 x12 x13 x14 x15 (i4 told) x17 0) rec lY k := by
  unfold f_law_B1017
  rw [if_pos rfl]
  exact T_1031a hI hU hn rp ht
theorem T_1017b (hC : CH A0 d d' lY cnt np tp st) (hn : HN) (rp : RP) {c : Int32} {x v f : Nat} (hx0 : x < 3) (hv : v < 4) (hf : f < 5) (hc : cnt ≤ 10) {told : Nat} (ht : told < 2147483648) :
    NXT (f_law_B1017 len xs lY rec hn rp tp st (i4 cnt) (i4 k) c (i4 x) (i4 v) (i4 f) (i4 (rpl A0 d)) (AD_tm d).toInt32 (AD_vTs d).toInt32 (AD_pTs d).toInt32 (i4 (AD_lk d f)) (i4 (AD_rul d v)) (i4 told) (i8 (AD_gas d x)) 1) rec lY k := by
  obtain ⟨hI, hU, hB⟩ := hC
  have e : (if i4 cnt + 1 < 10 then i4 cnt + 1 else 10) = i4 (cnt1 cnt) := by
    rw [ad1]
    unfold cnt1
    by_cases h : cnt = 10
    · subst h; rfl
    · rw [if_neg h]
      by_cases h9 : cnt = 9
      · subst h9; rfl
      · rw [if_pos (show i4 (cnt + 1) < (10 : Int32) from (i4_lt (b := 10) (by omega) (by omega)).mpr (by omega))]
  unfold f_law_B1017
  rw [if_neg one_ne, e]
  exact T_1031b hI hU (by unfold cnt1; split <;> omega) hB hn rp hx0 hv hf ht
theorem md3 {c : Int32} : ∃ x, x < 3 ∧ ((iushrF c 4) &&& 3) - ((iushrF c 4) &&& 3) / 3 * 3 = i4 x := by
  obtain ⟨q, hq, e⟩ := and_k (iushrF c 4) (m := 3) (by omega)
  refine ⟨q % 3, by omega, ?_⟩
  rw [show (iushrF c 4) &&& 3 = i4 q from e]
  exact i4_mod (b := 3) (by omega) (by omega)
theorem md5 {c : Int32} : ∃ x, x < 5 ∧ ((iushrF c 9) &&& 7) - ((iushrF c 9) &&& 7) / 5 * 5 = i4 x := by
  obtain ⟨q, hq, e⟩ := and_k (iushrF c 9) (m := 7) (by omega)
  refine ⟨q % 5, by omega, ?_⟩
  rw [show (iushrF c 9) &&& 7 = i4 q from e]
  exact i4_mod (b := 5) (by omega) (by omega)
theorem cell_ok {len : Nat} {xs : Nat → Int32} (hl : len ≤ 260) (hk : k < 14) : ∃ c, fL_cell len xs (i4 k) = some c := by
  unfold fL_cell
  by_cases h : len ≤ k
  · rw [if_pos (show Int32.ofNat len ≤ i4 k from (i4_le (by omega) (by omega)).mpr h)]; exact ⟨_, rfl⟩
  · rw [if_neg (show ¬ (Int32.ofNat len ≤ i4 k) from fun q => h ((i4_le (by omega) (by omega)).mp q)), gdi _ (by omega) (by omega)]; exact ⟨_, rfl⟩
/-! what a test leaves behind -/
theorem Q_rise (hI : IV A0 d lY tp st) {q : Nat} (hq : q < 4) (h0 : 0 < AD_kt d) : f9_rise tp st 0 (i4 q) = some (AD_tF d 0 q).toInt32 := by
  obtain ⟨⟨hW, hD, hL, hS⟩, -⟩ := hI
  have hk := hD.2.2.2.1
  obtain ⟨t1, nx, t2, t3, t4⟩ := hS.2.2.2.2.2.2.2
  have hlt : (0 : Int32) < SS_kept (st (TP_pr tp)) := by rw [t1]; exact (i4_lt (a := 0) (by omega) (by omega)).mpr h0
  have hr : rg nx 0 < 10 := by unfold rg; omega
  unfold f9_rise f7_fact
  rw [if_neg (by decide), if_pos hlt, if_neg (lt0_i4 (by omega)), if_pos (show i4 q < (4 : Int32) from (i4_lt (b := 4) (by omega) (by omega)).mpr (by omega)), show f7_slot (st (TP_pr tp)) 0 = _ from C_slot (g := 0) t2 (by omega) t3, sbind, show i4 (rg nx 0) * 4 + i4 q = i4 (4 * rg nx 0 + q) by rw [show i4 (rg nx 0) * 4 = i4 (rg nx 0 * 4) from i4_mul _ 4, i4_add, Nat.mul_comm], gdi _ (by omega) (by omega), ix4 (by omega), (t4 0 h0).1 q hq]
  rfl
theorem Q_riseGas (hI : IV A0 d lY tp st) (h0 : 0 < AD_kt d) : f9_riseGas tp st 0 0 = some (AD_tF d 0 4) ∧ f9_riseGas tp st 0 1 = some (AD_tF d 0 5) := by
  obtain ⟨⟨hW, hD, hL, hS⟩, -⟩ := hI
  have hk := hD.2.2.2.1
  obtain ⟨t1, nx, t2, t3, t4⟩ := hS.2.2.2.2.2.2.2
  have hlt : (0 : Int32) < SS_kept (st (TP_pr tp)) := by rw [t1]; exact (i4_lt (a := 0) (by omega) (by omega)).mpr h0
  have hr : rg nx 0 < 10 := by unfold rg; omega
  have e2 : i4 (rg nx 0) * 2 = i4 (2 * rg nx 0) := by rw [show i4 (rg nx 0) * 2 = i4 (rg nx 0 * 2) from i4_mul _ 2, Nat.mul_comm]
  unfold f9_riseGas f7_riseOf
  rw [if_neg (by decide), if_pos hlt, show f7_slot (st (TP_pr tp)) 0 = _ from C_slot (g := 0) t2 (by omega) t3, sbind]
  constructor
  · rw [if_pos rfl, e2, ad0, gdi _ (by omega) (by omega), ix4 (by omega), (t4 0 h0).2.1]
    rfl
  · rw [if_neg (by decide), if_pos hlt, sbind, if_neg one_ne, e2, ad1, gdi _ (by omega) (by omega), ix4 (by omega), (t4 0 h0).2.2]
    rfl
theorem tot4 (n : Nat) (d : AD) : (AD_vTs (tksN A0 n (d, 0)).1).toInt32 + (AD_pTs (tksN A0 n (d, 0)).1).toInt32 = (AD_vTs d).toInt32 + (AD_pTs d).toInt32 + i4 (tksN A0 n (d, 0)).2 := by
  have h := tot_tks (a := A0) n (d, 0) (tot d) (Int64.add_zero _).symm
  have h2 := congrArg Int64.toInt32 h
  unfold tot at h2
  rw [Int64.toInt32_add, Int64.toInt32_add, Int64.toInt32_add, i8_to4] at h2
  exact h2
end TURN
