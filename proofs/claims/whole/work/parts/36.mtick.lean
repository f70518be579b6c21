/-! the reference's tick -/
section MT1
variable {a : AS} {d : AD} {w : Nat → Int64}
theorem setN_setN {α : Type} (f : Nat → α) (k : Nat) (x y : α) : setN (setN f k x) k y = setN f k y := by
  funext i
  unfold setN
  split <;> rfl
theorem setN_id {α : Type} (f : Nat → α) (k : Nat) : setN f k (f k) = f := by
  funext i
  unfold setN
  split
  · rename_i h; rw [h]
  · rfl
theorem setN_comm {α : Type} (f : Nat → α) {k j : Nat} (x y : α) (h : k ≠ j) : setN (setN f k x) j y = setN (setN f j y) k x := by
  funext i
  unfold setN
  split
  · rename_i h1
    rw [if_neg (by omega)]
  · split <;> rfl
theorem RM_trip1 (hW : WFs a) (hA : RMs a w) (hB : RMd a d w) {v : Nat} (hv : v < AS_nV a) :
    RMs a (vp_updL (vp_updL (vp_updL w (88 + 6 * v + 4) 0) (88 + 6 * v + 5) ((vp_updL w (88 + 6 * v + 4) 0) (88 + 6 * v + 5) + 1)) 5 ((vp_updL (vp_updL w (88 + 6 * v + 4) 0) (88 + 6 * v + 5) ((vp_updL w (88 + 6 * v + 4) 0) (88 + 6 * v + 5) + 1)) 5 + 1)) ∧
    RMd a (tripV d v) (vp_updL (vp_updL (vp_updL w (88 + 6 * v + 4) 0) (88 + 6 * v + 5) ((vp_updL w (88 + 6 * v + 4) 0) (88 + 6 * v + 5) + 1)) 5 ((vp_updL (vp_updL w (88 + 6 * v + 4) 0) (88 + 6 * v + 5) ((vp_updL w (88 + 6 * v + 4) 0) (88 + 6 * v + 5) + 1)) 5 + 1)) := by
  obtain ⟨a1, b1⟩ := RM_opn hW hA hB hv false
  have e1 : (vp_updL w (88 + 6 * v + 4) 0) (88 + 6 * v + 5) = AD_vT d v := (b1.2.2.2.1 v hv).2.2
  obtain ⟨a2, b2⟩ := RM_vT hW a1 b1 hv (AD_vT d v + 1)
  have e2 : (vp_updL (vp_updL w (88 + 6 * v + 4) 0) (88 + 6 * v + 5) (AD_vT d v + 1)) 5 = AD_vTs d := b2.1.2.1
  rw [e1, e2]
  exact RM_vTs hW a2 b2 (AD_vTs d + 1)
theorem RM_trip2 (hW : WFs a) (hA : RMs a w) (hB : RMd a d w) {v : Nat} (hv : v < AS_nP a) :
    RMs a (vp_updL (vp_updL (vp_updL w (40 + 8 * v + 6) 0) (40 + 8 * v + 7) ((vp_updL w (40 + 8 * v + 6) 0) (40 + 8 * v + 7) + 1)) 6 ((vp_updL (vp_updL w (40 + 8 * v + 6) 0) (40 + 8 * v + 7) ((vp_updL w (40 + 8 * v + 6) 0) (40 + 8 * v + 7) + 1)) 6 + 1)) ∧
    RMd a (tripP d v) (vp_updL (vp_updL (vp_updL w (40 + 8 * v + 6) 0) (40 + 8 * v + 7) ((vp_updL w (40 + 8 * v + 6) 0) (40 + 8 * v + 7) + 1)) 6 ((vp_updL (vp_updL w (40 + 8 * v + 6) 0) (40 + 8 * v + 7) ((vp_updL w (40 + 8 * v + 6) 0) (40 + 8 * v + 7) + 1)) 6 + 1)) := by
  obtain ⟨a1, b1⟩ := RM_run hW hA hB hv false
  have e1 : (vp_updL w (40 + 8 * v + 6) 0) (40 + 8 * v + 7) = AD_pT d v := (b1.2.2.1 v hv).2
  obtain ⟨a2, b2⟩ := RM_pT hW a1 b1 hv (AD_pT d v + 1)
  have e2 : (vp_updL (vp_updL w (40 + 8 * v + 6) 0) (40 + 8 * v + 7) (AD_pT d v + 1)) 6 = AD_pTs d := b2.1.2.2.1
  rw [e1, e2]
  exact RM_pTs hW a2 b2 (AD_pTs d + 1)
theorem M_trip (hW : WFs a) : ∀ (n v fu t : Nat) (d : AD) (w : Nat → Int64), WFd a d → RMs a w → RMd a d w → v + n = AS_nV a → n < fu →
    ∃ w', f10_tripValves_B2 fu w (i4 v) = some w' ∧ RMs a w' ∧ RMd a (goN (trip1 a) n v (d, t)).1 w' := by
  intro n
  have hN := hW.1
  induction n with
  | zero =>
    intro v fu t d w hD hA hB hv hf
    obtain ⟨k, rfl, -⟩ := fuS hf
    rw [f10_tripValves_B2, M_nV hA, sbind, if_pos ((i4_le (by omega) (by omega)).mpr (by omega))]
    exact ⟨w, rfl, hA, hB⟩
  | succ n ih =>
    intro v fu t d w hD hA hB hv hf
    obtain ⟨k, rfl, -⟩ := fuS hf
    have hvl : v < AS_nV a := by omega
    rw [goN_succ, f10_tripValves_B2, M_nV hA, sbind, if_neg (fun h => by have := (i4_le (by omega) (by omega)).mp h; omega), M_isOpen hW hB hvl, sbind]
    by_cases hO : AD_opn d v = true
    · rw [if_pos hO, if_neg one_ne, M_mayJoin hW hD hA hB hvl, sbind]
      by_cases hR : AD_rul d v < dif a d v
      · rw [if_pos hR, if_pos rfl, at_v, sbind, ad4, gdi _ (by omega) (by omega), sbind, ad5, gdi _ (by omega) (by omega), ad1, trip1_y hO hR, ix4 (by omega), ix4 (by omega), show ix (5 : Int32) = 5 from rfl]
        obtain ⟨a1, b1⟩ := RM_trip1 hW hA hB hvl
        exact ih (v + 1) k (t + 1) (tripV d v) _ (WF_tripV hD hvl) a1 b1 (by omega) (by omega)
      · rw [if_neg hR, if_neg one_ne, ad1, trip1_n2 (by omega)]
        exact ih (v + 1) k t d w hD hA hB (by omega) (by omega)
    · rw [if_neg hO, if_pos rfl, ad1, trip1_n1 hO]
      exact ih (v + 1) k t d w hD hA hB (by omega) (by omega)
theorem M_leaks0 (hW : WFs a) (hD : WFd a d) (hA : RMs a w) (hB : RMd a d w) {c : Nat} (hc : c < 2147483648) : ∀ (n f fu : Nat), f + n = AS_nF a → n < fu →
    f10_leaks_B5 w fu (i4 c) (i8 (sumN (fun f => if AS_fH a f = c then AD_lk d f else 0) f)) (i4 f) = some (i8 (lks a d c)) := by
  intro n
  have hN := hW.1
  induction n with
  | zero =>
    intro f fu hv hf
    obtain ⟨k, rfl, -⟩ := fuS hf
    rw [f10_leaks_B5, M_nF hA, sbind, if_pos ((i4_le (by omega) (by omega)).mpr (by omega)), show f = AS_nF a by omega]
    rfl
  | succ n ih =>
    intro f fu hv hf
    obtain ⟨k, rfl, -⟩ := fuS hf
    have hl : f < AS_nF a := by omega
    have hH := hW.2.2.2.2 f hl
    have e := ih (f + 1) k (by omega) (by omega)
    unfold sumN at e
    rw [f10_leaks_B5, M_nF hA, sbind, if_neg (fun h => by have := (i4_le (by omega) (by omega)).mp h; omega), at_f, sbind, ad0, gdi _ (by omega) (by omega), ix4 (by omega), hA.2.2.2.2 f hl, i4_to8 hc]
    by_cases h : AS_fH a f = c
    · rw [if_pos (by rw [h]), sbind, ad1, ad1, gdi _ (by omega) (by omega), ix4 (by omega), hB.2.2.2.2.1 f hl, i8_add]
      rw [if_pos h] at e
      exact e
    · rw [if_neg (fun q => h ((i8_eq (by omega) (by omega)).mp q)), ad1, Int64.add_zero]
      rw [if_neg h] at e
      exact e
theorem M_leaks (hW : WFs a) (hD : WFd a d) (hA : RMs a w) (hB : RMd a d w) {c : Nat} (hc : c < 2147483648) : f10_leaks w (i4 c) = some (i8 (lks a d c)) := by
  have hN := hW.1
  have FU4 := FU_eq
  exact M_leaks0 hW hD hA hB hc (AS_nF a) 0 FU (by omega) (by omega)
theorem M_decay (hW : WFs a) (hD : WFd a d) (hA : RMs a w) (hB : RMd a d w) {c : Nat} (hc : c < AS_nC a) (rec : (Nat → Int64) → Int32 → Option (Nat → Int64)) :
    ∃ w', f10_getGas_B73 rec w (i4 c) (i4 (8 + 4 * c)) = rec w' (i4 (c + 1)) ∧ RMs a w' ∧ RMd a (AD_set_oug d (setN (AD_oug d) c (decN a d c))) w' := by
  have hN := hW.1
  have hv := hW.2.1 c hc
  have ho := (hD.1 c hc).2
  unfold f10_getGas_B73
  rw [ad2, gdi _ (by omega) (by omega), ix4 (by omega), (hA.2.1 c hc).2, ad1, ad1]
  by_cases hd : AS_dec a c = 0
  · rw [if_pos (show i8 (AS_dec a c) ≤ (0 : Int64) from (i8_le (b := 0) (by omega) (by omega)).mpr (by omega))]
    refine ⟨w, rfl, hA, ?_⟩
    unfold decN
    rw [if_pos hd, Nat.sub_zero, setN_id]
    exact hB
  · rw [if_neg (show ¬ (i8 (AS_dec a c) ≤ (0 : Int64)) from fun h => hd (by have := (i8_le (b := 0) (by omega) (by omega)).mp h; omega)), gdi _ (by omega) (by omega), gd_of (i8_ne0 (by omega) (by omega)), ix4 (by omega), (hB.2.1 c hc).1, i8_div (by omega) (by omega), i8_sub (Nat.div_le_self _ _)]
    refine ⟨_, rfl, ?_⟩
    unfold decN
    rw [if_neg hd]
    exact RM_oug hW hA hB hc _
theorem M_gasIn (hW : WFs a) : ∀ (n c fu : Nat) (d : AD) (w : Nat → Int64), WFd a d → RMs a w → RMd a d w → c + n = AS_nC a → n < fu →
    ∃ w', f10_getGas_B2 fu w (i4 c) = some w' ∧ RMs a w' ∧ RMd a (goN (gasIn1 a) n c d) w' := by
  intro n
  have hN := hW.1
  induction n with
  | zero =>
    intro c fu d w hD hA hB hv hf
    obtain ⟨k, rfl, -⟩ := fuS hf
    rw [f10_getGas_B2, M_nC hA, sbind, if_pos ((i4_le (by omega) (by omega)).mpr (by omega))]
    exact ⟨w, rfl, hA, hB⟩
  | succ n ih =>
    intro c fu d w hD hA hB hv hf
    obtain ⟨k, rfl, -⟩ := fuS hf
    have hc : c < AS_nC a := by omega
    have hp := prz_le hW hD (e := c) (Or.inr hc)
    have hg := gas_lt hW hD hc
    have ho := (hD.1 c hc).2
    have hl := lks_le hW hD c
    have hI := inn_le hW hD hc
    have hvv := hW.2.1 c hc
    rw [goN_succ, f10_getGas_B2, M_nC hA, sbind, if_neg (fun h => by have := (i4_le (by omega) (by omega)).mp h; omega), at_c, sbind, M_prc hW hD hA hB hc, sbind]
    -- behind the gas: the decay, then the rest
    have fin : ∀ (w1 : Nat → Int64) (g : Nat), g = AD_gas d c + inn a d c → RMs a w1 → RMd a (AD_set_gas d (setN (AD_gas d) c g)) w1 → ∃ w', f10_getGas_B73 (f10_getGas_B2 k) w1 (i4 c) (i4 (8 + 4 * c)) = some w' ∧ RMs a w' ∧ RMd a (goN (gasIn1 a) n (c + 1) (gasIn1 a c d)) w' := by
      intro w1 g hg1 hA1 hB1
      subst hg1
      have hG : WFd a (gasIn1 a c d) := WF_gasIn hW hD hc
      have hD1 : WFd a (AD_set_gas d (setN (AD_gas d) c (AD_gas d c + inn a d c))) := ⟨fun c' hc' => ⟨(hG.1 c' hc').1, (hD.1 c' hc').2⟩, hD.2⟩
      obtain ⟨w2, e2, hA2, hB2⟩ := M_decay hW hD1 hA1 hB1 hc (f10_getGas_B2 k)
      rw [e2]
      exact ih (c + 1) k (gasIn1 a c d) w2 hG hA2 hB2 (by omega) (by omega)
    by_cases h9 : prz a d c < 1000000000
    · rw [if_neg (show ¬ ((1000000000 : Int64) ≤ i8 (prz a d c)) from fun h => by have := (i8_le (a := 1000000000) (by omega) (by omega)).mp h; omega), ad3, gdi _ (by omega) (by omega), ad1, gdi _ (by omega) (by omega), ix4 (by omega), ix4 (by omega), (hB.2.1 c hc).1, (hB.2.1 c hc).2, i8_add]
      obtain ⟨hA1, hB1⟩ := RM_gas hW hA hB hc (AD_gas d c + AD_oug d c)
      unfold f10_getGas_B49
      by_cases h6 : prz a d c < 1000000
      · rw [if_neg (show ¬ ((1000000 : Int64) ≤ i8 (prz a d c)) from fun h => by have := (i8_le (a := 1000000) (by omega) (by omega)).mp h; omega), ad3, gdi _ (by omega) (by omega)]
        have hx : AD_gas d c + AD_oug d c < (PMAX + 1) * AS_vol a c := by
          have h4 : AD_gas d c < 1000000000 * AS_vol a c := by
            rw [prz_c hW hc] at h9
            exact (Nat.div_lt_iff_lt_mul (by omega)).mp h9
          unfold PMAX
          omega
        rw [M_leaks hW (WF_gas hD _ hx) hA1 hB1 (by omega), sbind, ix4 (by omega), (hB1.2.1 c hc).2, show AD_gas (AD_set_gas d (setN (AD_gas d) c (AD_gas d c + AD_oug d c))) c = AD_gas d c + AD_oug d c from setN_self _ _ _, show lks a (AD_set_gas d (setN (AD_gas d) c (AD_gas d c + AD_oug d c))) c = lks a d c from rfl, i8_add]
        obtain ⟨hA2, hB2⟩ := RM_gas hW hA1 hB1 hc (AD_gas d c + AD_oug d c + lks a d c)
        refine fin _ (AD_gas d c + AD_oug d c + lks a d c) ?_ hA2 ?_
        · unfold inn
          rw [if_pos h9, if_pos h6, Nat.add_assoc]
        · have e : setN (AD_gas (AD_set_gas d (setN (AD_gas d) c (AD_gas d c + AD_oug d c)))) c (AD_gas d c + AD_oug d c + lks a d c) = setN (AD_gas d) c (AD_gas d c + AD_oug d c + lks a d c) := setN_setN _ _ _ _
          rw [e] at hB2
          exact hB2
      · rw [if_pos (show ((1000000 : Int64) ≤ i8 (prz a d c)) from (i8_le (a := 1000000) (by omega) (by omega)).mpr (by omega))]
        refine fin _ _ ?_ hA1 hB1
        unfold inn
        rw [if_pos h9, if_neg h6]
        rfl
    · rw [if_pos (show ((1000000000 : Int64) ≤ i8 (prz a d c)) from (i8_le (a := 1000000000) (by omega) (by omega)).mpr (by omega))]
      unfold f10_getGas_B49
      rw [if_pos (show ((1000000 : Int64) ≤ i8 (prz a d c)) from (i8_le (a := 1000000) (by omega) (by omega)).mpr (by omega))]
      refine fin w (AD_gas d c) ?_ hA ?_
      · unfold inn
        rw [if_neg h9, if_neg (by omega)]
        rfl
      · rw [setN_id]
        exact hB
theorem M_give (hW : WFs a) (hA : RMs a w) (hB : RMd a d w) {c : Nat} (hc : c = 8 ∨ c < AS_nC a) (u : Nat) : ∃ w', f10_give w (m4 c) (i8 u) = some w' ∧ RMs a w' ∧ RMd a (giveN c u d) w' := by
  have hN := hW.1
  unfold f10_give giveN
  by_cases h8 : c = 8
  · subst h8
    rw [if_pos m4_8, if_pos rfl]
    exact ⟨w, rfl, hA, hB⟩
  · have hc' : c < AS_nC a := by omega
    rw [if_neg h8, m4_lt h8, if_neg (by rw [i4_ne_m1 (by omega)]; exact id), at_c, sbind, ad3, gdi _ (by omega) (by omega), ix4 (by omega), (hB.2.1 c hc').2, i8_add]
    exact ⟨_, rfl, RM_gas hW hA hB hc' _⟩
theorem M_take (hW : WFs a) (hA : RMs a w) (hB : RMd a d w) {c : Nat} (hc : c = 8 ∨ c < AS_nC a) (u : Nat) (hu : c ≠ 8 → u ≤ AD_gas d c) : ∃ w', f10_give w (m4 c) (-i8 u) = some w' ∧ RMs a w' ∧ RMd a (takeN c u d) w' := by
  have hN := hW.1
  unfold f10_give takeN
  by_cases h8 : c = 8
  · subst h8
    rw [if_pos m4_8, if_pos rfl]
    exact ⟨w, rfl, hA, hB⟩
  · have hc' : c < AS_nC a := by omega
    rw [if_neg h8, m4_lt h8, if_neg (by rw [i4_ne_m1 (by omega)]; exact id), at_c, sbind, ad3, gdi _ (by omega) (by omega), ix4 (by omega), (hB.2.1 c hc').2, ← Int64.sub_eq_add_neg, i8_sub (hu h8)]
    exact ⟨_, rfl, RM_gas hW hA hB hc' _⟩
theorem give_take {c e u : Nat} (h : c ≠ e) : takeN e u (giveN c u d) = giveN c u (takeN e u d) := by
  unfold takeN giveN
  by_cases hc : c = 8
  · by_cases he : e = 8
    · rw [if_pos he, if_pos he]
    · simp only [if_pos hc]
  · by_cases he : e = 8
    · simp only [if_pos he]
    · simp only [if_neg hc, if_neg he]
      show AD_set_gas d (setN (setN (AD_gas d) c (AD_gas d c + u)) e (setN (AD_gas d) c (AD_gas d c + u) e - u)) = AD_set_gas d (setN (setN (AD_gas d) e (AD_gas d e - u)) c (setN (AD_gas d) e (AD_gas d e - u) c + u))
      rw [setN_ne _ _ (Ne.symm h), setN_ne _ _ h, setN_comm _ _ _ h]
theorem give_0 (c : Nat) (d : AD) : giveN c 0 d = d := by
  unfold giveN
  split
  · rfl
  · rw [Nat.add_zero, setN_id]
    rfl
theorem take_0 (c : Nat) (d : AD) : takeN c 0 d = d := by
  unfold takeN
  split
  · rfl
  · rw [Nat.sub_zero, setN_id]
    rfl
theorem evn_0 (a : AS) (v : Nat) : evn a v 0 = 0 := by
  unfold evn
  split
  · rw [Nat.zero_mul]
  · rw [Nat.zero_mul, Nat.zero_mul, Nat.zero_div]
theorem flw_0 (a : AS) (v : Nat) : flw a v 0 = 0 := by
  have := flw_le a v 0
  rw [evn_0] at this
  omega
theorem give_gas_ne {c u c' : Nat} (h : c' ≠ c) : AD_gas (giveN c u d) c' = AD_gas d c' := by
  unfold giveN
  split
  · rfl
  · show setN (AD_gas d) c _ c' = _
    rw [setN_ne _ _ h]
theorem M_flow1 (hW : WFs a) (hD : WFd a d) (hA : RMs a w) (hB : RMd a d w) {v : Nat} (hv : v < AS_nV a) (hO : AD_opn d v = true) (t0 : Int64) (ht : t0 = i8 (evn a v (dif a d v))) :
    ∃ w', f10_flowThrough_B61 w (i4 v) (i4 (AS_vA a v)) (m4 (AS_vB a v)) (i8 (dif a d v)) t0 = some w' ∧ RMs a w' ∧ RMd a (move1 a v d) w' := by
  have hN := hW.1
  obtain ⟨h1, h2, h3, h4, h5⟩ := hW.2.2.2.1 v hv
  have pA := prz_le hW hD (e := AS_vA a v) (Or.inr h1)
  have pB := prz_le hW hD (e := AS_vB a v) h2
  have hd := dif_le hW hD hv
  have hfl := flw_le a v (dif a d v)
  have hel := evn_lt hW hv hd
  have eA := evn_A hW hv (dif a d v)
  subst ht
  have mA : i4 (AS_vA a v) = m4 (AS_vA a v) := (m4_lt (by omega)).symm
  unfold f10_flowThrough_B61
  rw [at_v, sbind, ad2, gdi _ (by omega) (by omega), M_prc hW hD hA hB h1, sbind, M_pr hW hD hA hB h2, sbind, ix4 (by omega), (hA.2.2.2.1 v hv).2.2, flw_8 hW hv hd]
  have uB : AS_vB a v ≠ 8 → prz a d (AS_vA a v) ≤ prz a d (AS_vB a v) → flw a v (dif a d v) ≤ AD_gas d (AS_vB a v) := by
    intro h8 hle
    have eB := evn_B (a := a) (v := v) (dif a d v) h8
    have gd := gas_dn (d := d) hW (c := AS_vB a v) (by omega)
    have : dif a d v * AS_vol a (AS_vB a v) ≤ prz a d (AS_vB a v) * AS_vol a (AS_vB a v) := Nat.mul_le_mul_right _ (by unfold dif; omega)
    omega
  by_cases hc : prz a d (AS_vA a v) ≤ prz a d (AS_vB a v)
  · rw [if_pos ((i8_le (by omega) (by omega)).mpr hc), if_pos rfl, if_pos rfl, mA]
    obtain ⟨w1, e1, a1, b1⟩ := M_give hW hA hB (c := AS_vA a v) (Or.inr h1) (flw a v (dif a d v))
    rw [e1, sbind]
    obtain ⟨w2, e2, a2, b2⟩ := M_take hW a1 b1 h2 (flw a v (dif a d v)) (fun h8 => by rw [give_gas_ne h3]; exact uB h8 hc)
    rw [e2, sbind]
    refine ⟨w2, rfl, a2, ?_⟩
    have e : takeN (AS_vB a v) (flw a v (dif a d v)) (giveN (AS_vA a v) (flw a v (dif a d v)) d) = move1 a v d := by
      unfold move1
      rw [if_pos hO]
      by_cases hlt : prz a d (AS_vA a v) < prz a d (AS_vB a v)
      · rw [if_pos hlt, give_take (Ne.symm h3)]
      · rw [if_neg hlt, show dif a d v = 0 by unfold dif; omega, flw_0, give_0, give_0, take_0, take_0]
    rw [e] at b2
    exact b2
  · rw [if_neg (fun h => hc ((i8_le (by omega) (by omega)).mp h)), if_neg one_ne, if_neg one_ne, mA]
    obtain ⟨w1, e1, a1, b1⟩ := M_take hW hA hB (c := AS_vA a v) (Or.inr h1) (flw a v (dif a d v)) (fun h8 => by
      have gd := gas_dn (d := d) hW (c := AS_vA a v) h1
      have : dif a d v * AS_vol a (AS_vA a v) ≤ prz a d (AS_vA a v) * AS_vol a (AS_vA a v) := Nat.mul_le_mul_right _ (by unfold dif; omega)
      omega)
    rw [e1, sbind]
    obtain ⟨w2, e2, a2, b2⟩ := M_give hW a1 b1 h2 (flw a v (dif a d v))
    rw [e2, sbind]
    refine ⟨w2, rfl, a2, ?_⟩
    unfold move1
    rw [if_pos hO, if_neg (by omega)]
    exact b2
theorem M_flow (hW : WFs a) (hD : WFd a d) (hA : RMs a w) (hB : RMd a d w) {v : Nat} (hv : v < AS_nV a) (hO : AD_opn d v = true) :
    ∃ w', f10_flowThrough w (i4 v) = some w' ∧ RMs a w' ∧ RMd a (move1 a v d) w' := by
  have hN := hW.1
  obtain ⟨h1, h2, h3, h4, h5⟩ := hW.2.2.2.1 v hv
  have hvA := hW.2.1 _ h1
  have hd := dif_le hW hD hv
  unfold f10_flowThrough
  rw [M_vA hW hA hv, sbind, M_vB hW hA hv, sbind, M_dif hW hD hA hB hv, sbind, M_volume hW hA h1, sbind]
  by_cases h8 : AS_vB a v = 8
  · rw [if_pos (by rw [h8]; rfl)]
    refine M_flow1 hW hD hA hB hv hO _ ?_
    unfold evn
    rw [if_pos h8, i8_mul]
  · have hB8 : AS_vB a v < AS_nC a := by omega
    have hvB := hW.2.1 _ hB8
    rw [if_neg (by rw [m4_lt h8, i4_ne_m1 (by omega)]; exact id)]
    have mv : f10_volume w (m4 (AS_vB a v)) = some (i8 (AS_vol a (AS_vB a v))) := by rw [m4_lt h8]; exact M_volume hW hA hB8
    rw [mv, sbind, sbind, gd_of (by rw [i8_add]; exact i8_ne0 (by omega) (by omega)), evn_8 hW hv hd h8]
    exact M_flow1 hW hD hA hB hv hO _ rfl
theorem M_pumpOut (hW : WFs a) (hD : WFd a d) (hA : RMs a w) (hB : RMd a d w) {p : Nat} (hp : p < AS_nP a) (hO : AD_run d p = true) (t : Nat) :
    ∃ w', f10_pumpOut w (i4 p) = some w' ∧ RMs a w' ∧ RMd a (pump1 a p (d, t)).1 w' := by
  have hN := hW.1
  obtain ⟨h1, h2, h3, h4, h5, h6, h7, h8⟩ := hW.2.2.1 p hp
  have pC := prz_le hW hD (e := AS_pC a p) (Or.inr h1)
  have tripped : cnd a d p ≠ 0 → ∃ w', f10_pumpOut_B23 w (i4 p) = some w' ∧ RMs a w' ∧ RMd a (pump1 a p (d, t)).1 w' := by
    intro hc
    unfold f10_pumpOut_B23
    rw [at_p, sbind, ad6, gdi _ (by omega) (by omega), sbind, ad7, gdi _ (by omega) (by omega), ix4 (by omega), ix4 (by omega), show ix (6 : Int32) = 6 from rfl]
    refine ⟨_, rfl, ?_⟩
    have e : pump1 a p (d, t) = (tripP d p, t + 1) := by unfold pump1; rw [if_pos hO, if_neg hc]
    rw [e]
    exact RM_trip2 hW hA hB hp
  unfold f10_pumpOut
  rw [M_pC hW hA hp, sbind, M_isLowEnough hW hD hA hB hp, sbind]
  by_cases c1 : prz a d (AS_pC a p) ≤ AS_pH a p
  · rw [if_pos c1, if_neg one_ne, M_isBacked hW hD hA hB hp, sbind]
    by_cases c2 : AS_pE a p = 8 ∨ prz a d (AS_pE a p) ≤ AS_pB a p
    · have hc : cnd a d p = 0 := by unfold cnd; rw [if_pos c1, if_pos c2]
      rw [if_pos c2, if_neg one_ne, M_prc hW hD hA hB h1, sbind, at_p, sbind, ad3, gdi _ (by omega) (by omega), ix4 (by omega), (hA.2.2.1 p hp).2.2.2.1]
      by_cases hl : prz a d (AS_pC a p) ≤ AS_pL a p
      · have e : pump1 a p (d, t) = (d, t) := by unfold pump1; rw [if_pos hO, if_pos hc, if_pos hl]
        rw [if_neg (show ¬ ((0 : Int64) < i8 (prz a d (AS_pC a p)) - i8 (AS_pL a p)) from fun h => by
          rw [Int64.lt_iff_toInt_lt, i8_neg_lt (by omega) (by omega)] at h
          have h0 : (0 : Int64).toInt = 0 := by decide
          omega), e]
        exact ⟨w, rfl, hA, hB⟩
      · obtain ⟨q1, q2⟩ := pmp_8 hW hD hp hc (by omega)
        have e : pump1 a p (d, t) = (giveN (AS_pE a p) (pmp a d p) (takeN (AS_pC a p) (pmp a d p) d), t) := by unfold pump1; rw [if_pos hO, if_pos hc, if_neg hl]
        rw [if_pos (show ((0 : Int64) < i8 (prz a d (AS_pC a p)) - i8 (AS_pL a p)) from by
          rw [Int64.lt_iff_toInt_lt, i8_neg_lt (by omega) (by omega)]
          have h0 : (0 : Int64).toInt = 0 := by decide
          omega), sbind, ad2, gdi _ (by omega) (by omega), at_c, sbind, ad3, gdi _ (by omega) (by omega), ix4 (by omega), ix4 (by omega), (hB.2.1 _ h1).2, (hA.2.2.1 p hp).2.2.1, i8_sub (by omega), q1, e]
        obtain ⟨w1, f1, a1, b1⟩ := M_take hW hA hB (c := AS_pC a p) (Or.inr h1) (pmp a d p) (fun _ => (pmp_le a d p).1)
        rw [m4_lt (by omega)] at f1
        rw [f1, sbind, M_pE hW a1 hp, sbind]
        obtain ⟨w2, f2, a2, b2⟩ := M_give hW a1 b1 (c := AS_pE a p) h2 (pmp a d p)
        rw [f2, sbind]
        exact ⟨w2, rfl, a2, b2⟩
    · rw [if_neg c2, if_pos rfl]
      exact tripped (by unfold cnd; rw [if_pos c1, if_neg c2]; omega)
  · rw [if_neg c1, if_pos rfl]
    exact tripped (by unfold cnd; rw [if_neg c1]; omega)
theorem M_pump (hW : WFs a) : ∀ (n v fu t : Nat) (d : AD) (w : Nat → Int64), WFd a d → RMs a w → RMd a d w → v + n = AS_nP a → n < fu →
    ∃ w', f10_tick_B40 fu w (i4 v) = some w' ∧ RMs a w' ∧ RMd a (AD_set_tm (goN (pump1 a) n v (d, t)).1 (AD_tm (goN (pump1 a) n v (d, t)).1 + 1)) w' := by
  intro n
  have hN := hW.1
  induction n with
  | zero =>
    intro v fu t d w hD hA hB hv hf
    obtain ⟨k, rfl, -⟩ := fuS hf
    rw [f10_tick_B40, M_nP hA, sbind, if_pos ((i4_le (by omega) (by omega)).mpr (by omega)), show ix (4 : Int32) = 4 from rfl, hB.1.1]
    exact ⟨_, rfl, RM_tm hW hA hB _⟩
  | succ n ih =>
    intro v fu t d w hD hA hB hv hf
    obtain ⟨k, rfl, -⟩ := fuS hf
    have hvl : v < AS_nP a := by omega
    have D2 := WF_pump (s := (d, t)) hW hD hvl
    rw [goN_succ, f10_tick_B40, M_nP hA, sbind, if_neg (fun h => by have := (i4_le (by omega) (by omega)).mp h; omega), M_isRunning hW hB hvl, sbind]
    by_cases hO : AD_run d v = true
    · rw [if_pos hO, if_neg one_ne]
      obtain ⟨w1, e1, a1, b1⟩ := M_pumpOut hW hD hA hB hvl hO t
      rw [e1, sbind, ad1]
      exact ih (v + 1) k (pump1 a v (d, t)).2 (pump1 a v (d, t)).1 w1 D2 a1 b1 (by omega) (by omega)
    · rw [if_neg hO, if_pos rfl, ad1]
      have e : pump1 a v (d, t) = (d, t) := if_neg hO
      rw [e]
      exact ih (v + 1) k t d w hD hA hB (by omega) (by omega)
theorem M_move (hW : WFs a) {X : AD → (Nat → Int64) → Prop} : ∀ (n v fu : Nat) (d : AD) (w : Nat → Int64), WFd a d → RMs a w → RMd a d w → v + n = AS_nV a → n < fu →
    (∀ w1, RMs a w1 → RMd a (goN (move1 a) n v d) w1 → ∃ w', f10_tick_B40 FU w1 0 = some w' ∧ X (goN (move1 a) n v d) w') → ∃ w', f10_tick_B10 fu w (i4 v) = some w' ∧ X (goN (move1 a) n v d) w' := by
  intro n
  have hN := hW.1
  induction n with
  | zero =>
    intro v fu d w hD hA hB hv hf hk
    obtain ⟨k, rfl, -⟩ := fuS hf
    rw [f10_tick_B10, M_nV hA, sbind, if_pos ((i4_le (by omega) (by omega)).mpr (by omega))]
    exact hk w hA hB
  | succ n ih =>
    intro v fu d w hD hA hB hv hf hk
    obtain ⟨k, rfl, -⟩ := fuS hf
    have hvl : v < AS_nV a := by omega
    rw [goN_succ] at hk ⊢
    rw [f10_tick_B10, M_nV hA, sbind, if_neg (fun h => by have := (i4_le (by omega) (by omega)).mp h; omega), M_isOpen hW hB hvl, sbind]
    by_cases hO : AD_opn d v = true
    · rw [if_pos hO, if_neg one_ne]
      obtain ⟨w1, e1, a1, b1⟩ := M_flow hW hD hA hB hvl hO
      rw [e1, sbind, ad1]
      exact ih (v + 1) k _ w1 (WF_move hW hD hvl) a1 b1 (by omega) (by omega) hk
    · rw [if_neg hO, if_pos rfl, ad1]
      have e : move1 a v d = d := if_neg hO
      rw [e] at hk ⊢
      exact ih (v + 1) k d w hD hA hB (by omega) (by omega) hk
theorem M_tick (hW : WFs a) (hD : WFd a d) (hA : RMs a w) (hB : RMd a d w) : ∃ w', f10_tick w = some w' ∧ RMs a w' ∧ RMd a (tic a (d, 0)).1 w' := by
  have hN := hW.1
  have FU4 := FU_eq
  have h1 : WFd a (ticT a (d, 0)).1 := goN_ind (P := fun t : AD × Nat => WFd a t.1) hD (fun i t h1 h2 ht => WF_trip hW ht (by omega))
  have h2 : WFd a (ticG a (ticT a (d, 0)).1) := goN_ind (P := fun t : AD => WFd a t) h1 (fun i t h1 h2 ht => WF_gasIn hW ht (by omega))
  have h3 : WFd a (ticM a (ticG a (ticT a (d, 0)).1)) := goN_ind (P := fun t : AD => WFd a t) h2 (fun i t h1 h2 ht => WF_move hW ht (by omega))
  obtain ⟨w1, e1, a1, b1⟩ := M_trip hW (AS_nV a) 0 FU 0 d w hD hA hB (by omega) (by omega)
  obtain ⟨w2, e2, a2, b2⟩ := M_gasIn hW (AS_nC a) 0 FU _ w1 h1 a1 b1 (by omega) (by omega)
  obtain ⟨w3, e3, a3, b3⟩ := M_move hW (X := fun d1 w' => RMs a w' ∧ RMd a (AD_set_tm (goN (pump1 a) (AS_nP a) 0 (d1, 0)).1 (AD_tm (goN (pump1 a) (AS_nP a) 0 (d1, 0)).1 + 1)) w') (AS_nV a) 0 FU _ w2 h2 a2 b2 (by omega) (by omega) (fun w4 a4 b4 => M_pump hW (AS_nP a) 0 FU 0 _ w4 h3 a4 b4 (by omega) (by omega))
  refine ⟨w3, ?_, a3, ?_⟩
  · unfold f10_tick f10_tripValves f10_getGas
    rw [show f10_tripValves_B2 FU w 0 = _ from e1, sbind, show f10_getGas_B2 FU w1 0 = _ from e2, sbind]
    exact e3
  · have hp := pump_n a (AS_nP a) 0 (ticT a (d, 0)).2 (ticM a (ticG a (ticT a (d, 0)).1))
    unfold tic tic0 ticP
    rw [hp.1]
    exact b3
end MT1
