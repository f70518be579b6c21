/-! the law's turns -/
theorem sub3 (a b c : Int64) : a - b = (c - b) + (a - c) := by grind
theorem kt1_if {q : Nat} (h : q ≤ 10) : i4 (kt1 q) = (if i4 (q + 1) < 10 then i4 (q + 1) else 10) := by
  unfold kt1
  by_cases h10 : q = 10
  · subst h10; rfl
  · rw [if_neg h10]
    by_cases h9 : q = 9
    · subst h9; rfl
    · rw [if_pos (show i4 (q + 1) < (10 : Int32) from (i4_lt (b := 10) (by omega) (by omega)).mpr (by omega))]
theorem kt_giv (c u : Nat) (d : AD) : AD_kt (giveN c u d) = AD_kt d := by unfold giveN; split <;> rfl
theorem kt_tak (c u : Nat) (d : AD) : AD_kt (takeN c u d) = AD_kt d := by unfold takeN; split <;> rfl
theorem kt_tic {a : AS} (d : AD) : AD_kt (tic a (d, 0)).1 = AD_kt d := by
  show AD_kt (tic0 a (d, 0)).1 = AD_kt d
  unfold tic0 ticP ticM ticG ticT
  have t1 : AD_kt (goN (trip1 a) (AS_nV a) 0 (d, 0)).1 = AD_kt d := goN_ind (P := fun (s : AD × Nat) => AD_kt s.1 = AD_kt d) rfl (fun i t _ _ h => by
    show AD_kt (trip1 a i t).1 = _
    unfold trip1
    split
    · exact h
    · exact h)
  have t2 : AD_kt (goN (gasIn1 a) (AS_nC a) 0 (goN (trip1 a) (AS_nV a) 0 (d, 0)).1) = AD_kt d := goN_ind (P := fun (s : AD) => AD_kt s = AD_kt d) t1 (fun i t _ _ h => h)
  have t3 : AD_kt (goN (move1 a) (AS_nV a) 0 (goN (gasIn1 a) (AS_nC a) 0 (goN (trip1 a) (AS_nV a) 0 (d, 0)).1)) = AD_kt d := goN_ind (P := fun (s : AD) => AD_kt s = AD_kt d) t2 (fun i t _ _ h => by
    show AD_kt (move1 a i t) = _
    unfold move1
    split
    · split <;> rw [kt_giv, kt_tak, h]
    · exact h)
  exact goN_ind (P := fun (s : AD × Nat) => AD_kt s.1 = AD_kt d) t3 (fun i t _ _ h => by
    show AD_kt (pump1 a i t).1 = _
    unfold pump1
    split
    · split
      · split
        · exact h
        · show AD_kt (giveN _ _ (takeN _ _ t.1)) = _
          rw [kt_giv, kt_tak, h]
      · exact h
    · exact h)
theorem kt_tkD {a : AS} : ∀ (n : Nat) (d : AD), AD_kt (tkD a n d) = AD_kt d := by
  intro n
  induction n with
  | zero => intro d; rfl
  | succ n ih => intro d; exact (ih _).trans (kt_tic d)
section TURNS
variable {lY : LL} {d : AD} {tp : TP} {st : Fin 12 → SS} {cnt np k : Nat}
set_option maxRecDepth 100000 in
set_option maxHeartbeats 4000000 in
theorem K_open {len : Nat} {xs : Nat → Int32} {rec : RECL} (hI : IV A0 d lY tp st) (hU : UD tp cnt np) (hn : HN) (rp : RP) {c : Int32} {x v f : Nat} (hx : x < 3) (hv : v < 4) (hf : f < 5) (hcnt : cnt ≤ 10) : NXT ((f9_mayOpen lY tp st (i4 v)).bind fun u287 => (f9_valve lY tp st (i4 v) 6).bind fun u305 => if (if u287 = 0 then (1 : Int32) else (0 : Int32)) = 0 then f_law_B325 len xs lY rec hn rp tp st (i4 cnt) (i4 k) c (i4 x) (i4 v) (i4 f) (i4 (rpl A0 d)) (AD_tm d).toInt32 (AD_vTs d).toInt32 (AD_pTs d).toInt32 (i4 (AD_lk d f)) (i4 (AD_rul d v)) (i8 (AD_gas d x)) (if u287 = 0 then (1 : Int32) else (0 : Int32)) u305 0 else (f9_open lY tp st (i4 v)).bind fun u318 => f_law_B325 len xs lY rec hn rp u318.2.1 u318.2.2 (i4 cnt) (i4 k) c (i4 x) (i4 v) (i4 f) (i4 (rpl A0 d)) (AD_tm d).toInt32 (AD_vTs d).toInt32 (AD_pTs d).toInt32 (i4 (AD_lk d f)) (i4 (AD_rul d v)) (i8 (AD_gas d x)) (if u287 = 0 then (1 : Int32) else (0 : Int32)) u305 u318.1) rec lY k := by
  have hW := WF_A0
  have hD := hI.1.2.1
  have hd := dif_le hW hD (v := v) hv
  rw [Q_mayOpen hI hv, sbind, show f9_valve lY tp st (i4 v) 6 = _ from Q_va6 hI hv, sbind]
  by_cases hO : AD_opn d v = true
  · rw [if_pos hO, if_pos (show (if (1 : Int32) = 0 then (1 : Int32) else 0) = 0 by decide), if_neg one_ne]
    unfold f_law_B325
    rw [if_pos rfl]
    exact T_1017a (told := 0) hI hU hn rp (by omega)
  · rw [if_neg hO]
    by_cases hR : dif A0 d v ≤ AD_rul d v
    · obtain ⟨tp', st', e, hC⟩ := D_open hI hU hv hO hR
      rw [if_pos hR, if_neg (show ¬ ((if (0 : Int32) = 0 then (1 : Int32) else 0) = 0) by decide), e, sbind, if_pos (show (0 : Int32) = 0 from rfl)]
      dsimp only
      unfold f_law_B325
      rw [if_neg one_ne, if_pos rfl, show f9_valve lY tp' st' (i4 v) 4 = _ from Q_va4 hC.1 hv, sbind, if_pos (show AD_opn (AD_set_opn d (setN (AD_opn d) v true)) v = true from setN_self _ _ _), if_pos rfl]
      exact T_1017b hC hn rp hx hv hf hcnt (by omega)
    · rw [if_neg hR, if_pos (show (if (2 : Int32) = 0 then (1 : Int32) else 0) = 0 by decide), if_neg (show ¬ ((2 : Int32) = 0) by decide)]
      unfold f_law_B325
      rw [if_pos rfl]
      exact T_1017a (told := 0) hI hU hn rp (by omega)
set_option maxRecDepth 100000 in
set_option maxHeartbeats 4000000 in
theorem K_close {len : Nat} {xs : Nat → Int32} {rec : RECL} (hI : IV A0 d lY tp st) (hU : UD tp cnt np) (hn : HN) (rp : RP) {c : Int32} {x v f : Nat} (hx : x < 3) (hv : v < 4) (hf : f < 5) (hcnt : cnt ≤ 10) : NXT ((f9_mayOpen lY tp st (i4 v)).bind fun u355 => if (if u355 = 1 then (1 : Int32) else (0 : Int32)) = 0 then f_law_B384 len xs lY rec hn rp tp st (i4 cnt) (i4 k) c (i4 x) (i4 v) (i4 f) (i4 (rpl A0 d)) (AD_tm d).toInt32 (AD_vTs d).toInt32 (AD_pTs d).toInt32 (i4 (AD_lk d f)) (i4 (AD_rul d v)) (i8 (AD_gas d x)) (if u355 = 1 then (1 : Int32) else (0 : Int32)) 0 else (f9_close lY tp st (i4 v)).bind fun u377 => f_law_B384 len xs lY rec hn rp u377.2.1 u377.2.2 (i4 cnt) (i4 k) c (i4 x) (i4 v) (i4 f) (i4 (rpl A0 d)) (AD_tm d).toInt32 (AD_vTs d).toInt32 (AD_pTs d).toInt32 (i4 (AD_lk d f)) (i4 (AD_rul d v)) (i8 (AD_gas d x)) (if u355 = 1 then (1 : Int32) else (0 : Int32)) u377.1) rec lY k := by
  have hW := WF_A0
  have hD := hI.1.2.1
  have hd := dif_le hW hD (v := v) hv
  rw [Q_mayOpen hI hv, sbind]
  by_cases hO : AD_opn d v = true
  · obtain ⟨tp', st', e, hC⟩ := D_close hI hU hv hO
    rw [if_pos hO, if_neg (show ¬ ((if (1 : Int32) = 1 then (1 : Int32) else 0) = 0) by decide), e, sbind, if_pos (show (1 : Int32) = 1 from rfl)]
    dsimp only
    unfold f_law_B384
    rw [if_neg one_ne, show f9_valve lY tp' st' (i4 v) 6 = _ from Q_va6 hC.1 hv, sbind, if_pos (show i4 (dif A0 d v) = i4 (dif A0 (AD_set_opn d (setN (AD_opn d) v false)) v) from rfl), show f9_valve lY tp' st' (i4 v) 4 = _ from Q_va4 hC.1 hv, sbind, if_neg (show ¬ (AD_opn (AD_set_opn d (setN (AD_opn d) v false)) v = true) from by rw [show AD_opn (AD_set_opn d (setN (AD_opn d) v false)) v = false from setN_self _ _ _]; decide), if_pos rfl]
    exact T_1017b hC hn rp hx hv hf hcnt (by omega)
  · rw [if_neg hO]
    by_cases hR : dif A0 d v ≤ AD_rul d v
    · rw [if_pos hR, if_pos (show (if (0 : Int32) = 1 then (1 : Int32) else 0) = 0 by decide), if_neg (show ¬ ((0 : Int32) = 1) by decide)]
      unfold f_law_B384
      rw [if_pos rfl]
      exact T_1017a (told := 0) hI hU hn rp (by omega)
    · rw [if_neg hR, if_pos (show (if (2 : Int32) = 1 then (1 : Int32) else 0) = 0 by decide), if_neg (show ¬ ((2 : Int32) = 1) by decide)]
      unfold f_law_B384
      rw [if_pos rfl]
      exact T_1017a (told := 0) hI hU hn rp (by omega)
set_option maxRecDepth 100000 in
set_option maxHeartbeats 4000000 in
theorem K_start {len : Nat} {xs : Nat → Int32} {rec : RECL} (hI : IV A0 d lY tp st) (hU : UD tp cnt np) (hn : HN) (rp : RP) {c : Int32} {x v f p : Nat} (hx : x < 3) (hv : v < 4) (hf : f < 5) (hp : p < 2) (hcnt : cnt ≤ 10) : NXT ((f9_mayStart lY tp st (i4 p)).bind fun u419 => if (if u419 = 0 then (1 : Int32) else (0 : Int32)) = 0 then f_law_B447 len xs lY rec hn rp tp st (i4 cnt) (i4 k) c (i4 x) (i4 v) (i4 p) (i4 f) (i4 (rpl A0 d)) (AD_tm d).toInt32 (AD_vTs d).toInt32 (AD_pTs d).toInt32 (i4 (AD_lk d f)) (i4 (AD_rul d v)) (i8 (AD_gas d x)) (if u419 = 0 then (1 : Int32) else (0 : Int32)) 0 else (f9_start lY tp st (i4 p)).bind fun u440 => f_law_B447 len xs lY rec hn rp u440.2.1 u440.2.2 (i4 cnt) (i4 k) c (i4 x) (i4 v) (i4 p) (i4 f) (i4 (rpl A0 d)) (AD_tm d).toInt32 (AD_vTs d).toInt32 (AD_pTs d).toInt32 (i4 (AD_lk d f)) (i4 (AD_rul d v)) (i8 (AD_gas d x)) (if u419 = 0 then (1 : Int32) else (0 : Int32)) u440.1) rec lY k := by
  have hW := WF_A0
  have hD := hI.1.2.1
  obtain ⟨h1, h2, h3, h4, h5, h6, h7, h8⟩ := hW.2.2.1 p hp
  have hz := prz_le hW hD (e := AS_pC A0 p) (Or.inr h1)
  have hcl : cnd A0 d p ≤ 3 := by unfold cnd; split <;> (try split) <;> omega
  have hc1 : cnd A0 d p ≠ 1 := by unfold cnd; split <;> (try split) <;> omega
  have hn1 : ¬ (i4 (cnd A0 d p) = 1) := fun q => hc1 ((i4_eq (b := 1) (by omega) (by omega)).mp q)
  
  rw [Q_mayStart hI hp, sbind]
  by_cases hr : AD_run d p = true
  · rw [if_pos hr, if_pos (show (if (1 : Int32) = 0 then (1 : Int32) else 0) = 0 by decide), if_neg one_ne]
    unfold f_law_B447
    rw [if_pos rfl]
    exact T_1017a (told := 0) hI hU hn rp (by omega)
  · rw [if_neg hr]
    by_cases h0 : cnd A0 d p = 0
    · obtain ⟨tp', st', e, hC⟩ := D_start hI hU hp hr h0
      rw [h0, if_neg (show ¬ ((if i4 0 = (0 : Int32) then (1 : Int32) else 0) = 0) by decide), e, sbind, if_pos (show i4 0 = (0 : Int32) from rfl)]
      dsimp only
      unfold f_law_B447
      rw [if_neg one_ne, show f9_pump lY tp' st' (i4 p) 0 = _ from Q_pu0 hC.1 hp, sbind, show f9_chamber lY tp' st' (i4 (AS_pC A0 p)) 3 = _ from Q_ch3 hC.1 h1, sbind, if_pos (show i4 (prz A0 d (AS_pC A0 p)) = i4 (prz A0 (AD_set_run d (setN (AD_run d) p true)) (AS_pC A0 p)) from rfl), show f9_pump lY tp' st' (i4 p) 6 = _ from Q_pu6 hC.1 hp, sbind, if_pos (show AD_run (AD_set_run d (setN (AD_run d) p true)) p = true from setN_self _ _ _), if_pos rfl]
      exact T_1017b hC hn rp hx hv hf hcnt (by omega)
    · have hne : ¬ (i4 (cnd A0 d p) = 0) := fun q => h0 ((i4_eq (b := 0) (by omega) (by omega)).mp q)
      rw [if_neg hne, if_pos (show (0 : Int32) = 0 from rfl)]
      unfold f_law_B447
      rw [if_pos rfl]
      exact T_1017a (told := 0) hI hU hn rp (by omega)
set_option maxRecDepth 100000 in
set_option maxHeartbeats 4000000 in
theorem K_stop {len : Nat} {xs : Nat → Int32} {rec : RECL} (hI : IV A0 d lY tp st) (hU : UD tp cnt np) (hn : HN) (rp : RP) {c : Int32} {x v f p : Nat} (hx : x < 3) (hv : v < 4) (hf : f < 5) (hp : p < 2) (hcnt : cnt ≤ 10) : NXT ((f9_mayStart lY tp st (i4 p)).bind fun u488 => if (if u488 = 1 then (1 : Int32) else (0 : Int32)) = 0 then f_law_B517 len xs lY rec hn rp tp st (i4 cnt) (i4 k) c (i4 x) (i4 v) (i4 p) (i4 f) (i4 (rpl A0 d)) (AD_tm d).toInt32 (AD_vTs d).toInt32 (AD_pTs d).toInt32 (i4 (AD_lk d f)) (i4 (AD_rul d v)) (i8 (AD_gas d x)) (if u488 = 1 then (1 : Int32) else (0 : Int32)) 0 else (f9_stop lY tp st (i4 p)).bind fun u510 => f_law_B517 len xs lY rec hn rp u510.2.1 u510.2.2 (i4 cnt) (i4 k) c (i4 x) (i4 v) (i4 p) (i4 f) (i4 (rpl A0 d)) (AD_tm d).toInt32 (AD_vTs d).toInt32 (AD_pTs d).toInt32 (i4 (AD_lk d f)) (i4 (AD_rul d v)) (i8 (AD_gas d x)) (if u488 = 1 then (1 : Int32) else (0 : Int32)) u510.1) rec lY k := by
  have hW := WF_A0
  have hD := hI.1.2.1
  obtain ⟨h1, h2, h3, h4, h5, h6, h7, h8⟩ := hW.2.2.1 p hp
  have hz := prz_le hW hD (e := AS_pC A0 p) (Or.inr h1)
  have hcl : cnd A0 d p ≤ 3 := by unfold cnd; split <;> (try split) <;> omega
  have hc1 : cnd A0 d p ≠ 1 := by unfold cnd; split <;> (try split) <;> omega
  have hn1 : ¬ (i4 (cnd A0 d p) = 1) := fun q => hc1 ((i4_eq (b := 1) (by omega) (by omega)).mp q)
  
  rw [Q_mayStart hI hp, sbind]
  by_cases hr : AD_run d p = true
  · obtain ⟨tp', st', e, hC⟩ := D_stop hI hU hp hr
    rw [if_pos hr, if_neg (show ¬ ((if (1 : Int32) = 1 then (1 : Int32) else 0) = 0) by decide), e, sbind, if_pos (show (1 : Int32) = 1 from rfl)]
    dsimp only
    unfold f_law_B517
    rw [if_neg one_ne, show f9_mayStart lY tp' st' (i4 p) = _ from Q_mayStart hC.1 hp, sbind, if_neg (show ¬ (AD_run (AD_set_run d (setN (AD_run d) p false)) p = true) from by rw [show AD_run (AD_set_run d (setN (AD_run d) p false)) p = false from setN_self _ _ _]; decide), if_neg (show ¬ (i4 (cnd A0 (AD_set_run d (setN (AD_run d) p false)) p) = 1) from hn1)]
    exact T_1017b hC hn rp hx hv hf hcnt (by omega)
  · rw [if_neg hr, if_neg hn1, if_pos (show (0 : Int32) = 0 from rfl)]
    unfold f_law_B517
    rw [if_pos rfl]
    exact T_1017a (told := 0) hI hU hn rp (by omega)
set_option maxRecDepth 100000 in
set_option maxHeartbeats 4000000 in
theorem K_pass {len : Nat} {xs : Nat → Int32} {rec : RECL} (hI : IV A0 d lY tp st) (hU : UD tp cnt np) (hn : HN) (rp : RP) {c : Int32} {x v f n : Nat} (hx : x < 3) (hv : v < 4) (hf : f < 5) (hn1 : n ≤ 63) (hcnt : cnt ≤ 10) : NXT ((f9_pressureAfter lY tp st (i4 x) (1 + (i4 n))).bind fun u543 => (f9_tripsIn lY tp u543.2 (1 + (i4 n))).bind fun u553 => (f9_pass lY tp u553.2 (1 + (i4 n))).bind fun u563 => if u563.1 = u553.1 then (f9_chamber lY u563.2.1 u563.2.2 (i4 x) 3).bind fun u579 => if u579 = u543.1 then (f9_count lY u563.2.1 u563.2.2 4).bind fun u589 => if u589 = (((AD_tm d).toInt32 + 1) + (i4 n)) then (f9_count lY u563.2.1 u563.2.2 5).bind fun u604 => (f9_count lY u563.2.1 u563.2.2 6).bind fun u610 => if (u604 + u610) = (((AD_vTs d).toInt32 + (AD_pTs d).toInt32) + u553.1) then f_law_B1017 len xs lY rec hn rp u563.2.1 u563.2.2 (i4 cnt) (i4 k) c (i4 x) (i4 v) (i4 f) (i4 (rpl A0 d)) (AD_tm d).toInt32 (AD_vTs d).toInt32 (AD_pTs d).toInt32 (i4 (AD_lk d f)) (i4 (AD_rul d v)) u563.1 (i8 (AD_gas d x)) 1 else some (0, hn, rp, u563.2.1, u563.2.2) else some (0, hn, rp, u563.2.1, u563.2.2) else some (0, hn, rp, u563.2.1, u563.2.2) else some (0, hn, rp, u563.2.1, u563.2.2)) rec lY k := by
  have hW := WF_A0
  have hD := hI.1.2.1
  have en : (1 : Int32) + i4 n = i4 (1 + n) := i4_add 1 n
  obtain ⟨s1, e1, x1⟩ := Q_after hI (c := x) hx (n := 1 + n) (by omega) (by omega)
  have hI1 := IV_sx hI x1
  obtain ⟨s2, e2, x2⟩ := Q_trips hI1 (n := 1 + n) (by omega) (by omega)
  have hI2 := IV_sx hI1 x2
  obtain ⟨tp', st', e3, hC⟩ := D_pass hI2 hU (n := 1 + n) (by omega) (by omega)
  have ht := cnt_tks hW (1 + n) (d, 0)
  have ht' : (tksN A0 (1 + n) (d, 0)).2 ≤ 0 + 16 * (1 + n) := ht
  have htm : (AD_tm (tksN A0 (1 + n) (d, 0)).1).toInt32 = (AD_tm d).toInt32 + 1 + i4 n := by
    rw [tks_tkD, tm4, ← i4_add 1 n, ← Int32.add_assoc]
    rfl
  rw [en, e1, sbind]
  dsimp only
  rw [e2, sbind]
  dsimp only
  rw [e3, sbind]
  dsimp only
  rw [if_pos rfl, show f9_chamber lY tp' st' (i4 x) 3 = _ from Q_ch3 hC.1 hx, sbind, if_pos (show i4 (prz A0 (tksN A0 (1 + n) (d, 0)).1 x) = i4 (prz A0 (tkD A0 (1 + n) d) x) from by rw [tks_tkD]), Q_n4 hC.1, sbind, if_pos htm, Q_n5 hC.1, sbind, Q_n6 hC.1, sbind, if_pos (tot4 (1 + n) d)]
  exact T_1017b hC hn rp hx hv hf hcnt (by omega)
set_option maxRecDepth 100000 in
set_option maxHeartbeats 4000000 in
theorem K_seal {len : Nat} {xs : Nat → Int32} {rec : RECL} (hI : IV A0 d lY tp st) (hU : UD tp cnt np) (hn : HN) (rp : RP) {c : Int32} {x v f : Nat} (hx : x < 3) (hv : v < 4) (hf : f < 5) (hcnt : cnt ≤ 10) : NXT ((f9_seal lY tp st (i4 f)).bind fun u630 => if u630.1 = (i4 (AD_lk d f)) then (f9_flange lY u630.2.1 u630.2.2 (i4 f) 1).bind fun u646 => if u646 = 0 then f_law_B1017 len xs lY rec hn rp u630.2.1 u630.2.2 (i4 cnt) (i4 k) c (i4 x) (i4 v) (i4 f) (i4 (rpl A0 d)) (AD_tm d).toInt32 (AD_vTs d).toInt32 (AD_pTs d).toInt32 (i4 (AD_lk d f)) (i4 (AD_rul d v)) u630.1 (i8 (AD_gas d x)) 1 else some (0, hn, rp, u630.2.1, u630.2.2) else some (0, hn, rp, u630.2.1, u630.2.2)) rec lY k := by
  have hl := hI.1.2.1.2.2.1 f hf
  obtain ⟨tp', st', e, hC⟩ := D_seal hI hU hf
  rw [e, sbind]
  dsimp only
  rw [if_pos rfl, show f9_flange lY tp' st' (i4 f) 1 = _ from Q_fl1 hC.1 hf, sbind, if_pos (show i4 (AD_lk (AD_set_lk d (setN (AD_lk d) f 0)) f) = 0 from by rw [show AD_lk (AD_set_lk d (setN (AD_lk d) f 0)) f = 0 from setN_self _ _ _]; rfl)]
  exact T_1017b hC hn rp hx hv hf hcnt (by omega)
set_option maxRecDepth 100000 in
set_option maxHeartbeats 4000000 in
theorem K_setLeak {len : Nat} {xs : Nat → Int32} {rec : RECL} (hI : IV A0 d lY tp st) (hU : UD tp cnt np) (hn : HN) (rp : RP) {c : Int32} {x v f n : Nat} (hx : x < 3) (hv : v < 4) (hf : f < 5) (hn1 : n ≤ 63) (hcnt : cnt ≤ 10) : NXT ((f9_setLeak lY tp st (i4 f) (i4 n)).bind fun u659 => if u659.1 = (i4 (AD_lk d f)) then (f9_flange lY u659.2.1 u659.2.2 (i4 f) 1).bind fun u675 => if u675 = (i4 n) then f_law_B1017 len xs lY rec hn rp u659.2.1 u659.2.2 (i4 cnt) (i4 k) c (i4 x) (i4 v) (i4 f) (i4 (rpl A0 d)) (AD_tm d).toInt32 (AD_vTs d).toInt32 (AD_pTs d).toInt32 (i4 (AD_lk d f)) (i4 (AD_rul d v)) u659.1 (i8 (AD_gas d x)) 1 else some (0, hn, rp, u659.2.1, u659.2.2) else some (0, hn, rp, u659.2.1, u659.2.2)) rec lY k := by
  have hl := hI.1.2.1.2.2.1 f hf
  obtain ⟨tp', st', e, hC⟩ := D_setLeak hI hU hf (x := n) (by omega)
  rw [e, sbind]
  dsimp only
  rw [if_pos rfl, show f9_flange lY tp' st' (i4 f) 1 = _ from Q_fl1 hC.1 hf, sbind, if_pos (show i4 (AD_lk (AD_set_lk d (setN (AD_lk d) f n)) f) = i4 n from by rw [show AD_lk (AD_set_lk d (setN (AD_lk d) f n)) f = n from setN_self _ _ _])]
  exact T_1017b hC hn rp hx hv hf hcnt (by omega)
set_option maxRecDepth 100000 in
set_option maxHeartbeats 4000000 in
theorem K_setRule {len : Nat} {xs : Nat → Int32} {rec : RECL} (hI : IV A0 d lY tp st) (hU : UD tp cnt np) (hn : HN) (rp : RP) {c : Int32} {x v f n : Nat} (hx : x < 3) (hv : v < 4) (hf : f < 5) (hn1 : n ≤ 63) (hcnt : cnt ≤ 10) : NXT ((f9_setRule lY tp st (i4 v) (10000 * (i4 n))).bind fun u694 => if u694.1 = (i4 (AD_rul d v)) then (f9_valve lY u694.2.1 u694.2.2 (i4 v) 3).bind fun u710 => if u710 = (10000 * (i4 n)) then f_law_B1017 len xs lY rec hn rp u694.2.1 u694.2.2 (i4 cnt) (i4 k) c (i4 x) (i4 v) (i4 f) (i4 (rpl A0 d)) (AD_tm d).toInt32 (AD_vTs d).toInt32 (AD_pTs d).toInt32 (i4 (AD_lk d f)) (i4 (AD_rul d v)) u694.1 (i8 (AD_gas d x)) 1 else some (0, hn, rp, u694.2.1, u694.2.2) else some (0, hn, rp, u694.2.1, u694.2.2)) rec lY k := by
  have hl := hI.1.2.1.2.1 v hv
  have en : (10000 : Int32) * i4 n = i4 (10000 * n) := i4_mul 10000 n
  obtain ⟨tp', st', e, hC⟩ := D_setRule hI hU hv (x := 10000 * n) (by omega)
  rw [en, e, sbind]
  dsimp only
  rw [if_pos rfl, show f9_valve lY tp' st' (i4 v) 3 = _ from Q_va3 hC.1 hv, sbind, if_pos (show i4 (AD_rul (AD_set_rul d (setN (AD_rul d) v (10000 * n))) v) = i4 (10000 * n) from by rw [show AD_rul (AD_set_rul d (setN (AD_rul d) v (10000 * n))) v = 10000 * n from setN_self _ _ _])]
  exact T_1017b hC hn rp hx hv hf hcnt (by omega)
set_option maxRecDepth 100000 in
set_option maxHeartbeats 4000000 in
theorem K_until {len : Nat} {xs : Nat → Int32} {rec : RECL} (hI : IV A0 d lY tp st) (hU : UD tp cnt np) (hn : HN) (rp : RP) {c : Int32} {x v f n : Nat} (hx : x < 3) (hv : v < 4) (hf : f < 5) (hn1 : n ≤ 63) (hcnt : cnt ≤ 10) : NXT ((f9_lowest lY tp st (i4 x) (1 + (i4 n))).bind fun u731 => if (if 1000000 < u731.1 then (0 : Int32) else (1 : Int32)) = 0 then f_law_B767 len xs lY rec hn rp tp u731.2 (i4 cnt) (i4 k) c (i4 x) (i4 v) (i4 f) (i4 n) (i4 (rpl A0 d)) (AD_tm d).toInt32 (AD_vTs d).toInt32 (AD_pTs d).toInt32 (i4 (AD_lk d f)) (i4 (AD_rul d v)) (i8 (AD_gas d x)) (if 1000000 < u731.1 then (0 : Int32) else (1 : Int32)) u731.1 0 else (f9_ticksTo lY tp u731.2 (i4 x) u731.1).bind fun u760 => f_law_B767 len xs lY rec hn rp tp u760.2 (i4 cnt) (i4 k) c (i4 x) (i4 v) (i4 f) (i4 n) (i4 (rpl A0 d)) (AD_tm d).toInt32 (AD_vTs d).toInt32 (AD_pTs d).toInt32 (i4 (AD_lk d f)) (i4 (AD_rul d v)) (i8 (AD_gas d x)) (if 1000000 < u731.1 then (0 : Int32) else (1 : Int32)) u731.1 u760.1) rec lY k := by
  have hW := WF_A0
  have hD := hI.1.2.1
  have en : (1 : Int32) + i4 n = i4 (1 + n) := i4_add 1 n
  have hp := prz_le hW hD (e := x) (Or.inr (show x < AS_nC A0 from hx))
  have hlo := lws_le (a := A0) x (1 + n) d (prz A0 d x)
  obtain ⟨s1, e1, x1⟩ := Q_lowest hI (c := x) hx (n := 1 + n) (by omega) (by omega)
  have hI1 := IV_sx hI x1
  obtain ⟨j, j1, j2⟩ := low_at (a := A0) x (1 + n) d
  rw [en, e1, sbind]
  dsimp only
  generalize lws A0 x (1 + n) d (prz A0 d x) = low at *
  by_cases hq : low ≤ 1000000
  · obtain ⟨m, m1, m2, m3, m4, m5⟩ := unt_at (a := A0) x low 999 j 0 d (by omega) (by omega)
    obtain ⟨hD', -, -⟩ := WF_unt hW 999 0 d hD m.1 m.2 m1
    obtain ⟨s2, e2, x2⟩ := Q_ticksTo hI1 (v := x) hx hq m1
    have hI2 := IV_sx hI1 x2
    obtain ⟨tp', st', e3, hC⟩ := D_passUntil hI2 hU (v := x) hx hq m1
    have hp2 := prz_le hW hD' (e := x) (Or.inr (show x < AS_nC A0 from hx))
    have hlt : ¬ ((1000000 : Int32) < i4 low) := fun q => by have := (i4_lt (a := 1000000) (by omega) (by omega)).mp q; omega
    have htm : (AD_tm m.2).toInt32 = (AD_tm d).toInt32 + i4 m.1 := by
      rw [m5, tm4, Nat.sub_zero]
    rw [if_neg hlt, if_neg one_ne, e2, sbind]
    dsimp only
    unfold f_law_B767
    rw [if_neg one_ne, e3, sbind]
    dsimp only
    unfold f_law_B786
    rw [if_neg one_ne, if_pos rfl, en, if_neg (fun q => by have := (i4_lt (by omega) (by omega)).mp q; omega), show f9_chamber lY tp' st' (i4 x) 3 = _ from Q_ch3 hC.1 hx, sbind, if_neg (fun q => by have := (i4_lt (by omega) (by omega)).mp q; omega), Q_n4 hC.1, sbind, if_pos htm]
    exact T_1017b hC hn rp hx hv hf hcnt (by omega)
  · have hlt : (1000000 : Int32) < i4 low := (i4_lt (a := 1000000) (by omega) (by omega)).mpr (by omega)
    rw [if_pos hlt, if_pos rfl]
    unfold f_law_B767
    rw [if_pos rfl]
    unfold f_law_B786
    rw [if_pos rfl]
    exact T_1017a (told := 0) hI1 hU hn rp (by omega)
set_option maxRecDepth 100000 in
set_option maxHeartbeats 4000000 in
theorem K_test {len : Nat} {xs : Nat → Int32} {rec : RECL} (hI : IV A0 d lY tp st) (hU : UD tp cnt np) (hn : HN) (rp : RP) {c : Int32} {x v f n : Nat} (hx : x < 3) (hv : v < 4) (hf : f < 5) (hn1 : n ≤ 63) (hcnt : cnt ≤ 10) : NXT ((f9_isIsolated lY tp st (i4 x)).bind fun u839 => (f9_count lY tp st 7).bind fun u847 => if u839 = 0 then f_law_B873 len xs lY rec hn rp tp st (i4 cnt) (i4 k) c (i4 x) (i4 v) (i4 f) (i4 n) (i4 (rpl A0 d)) (AD_tm d).toInt32 (AD_vTs d).toInt32 (AD_pTs d).toInt32 (i4 (AD_lk d f)) (i4 (AD_rul d v)) (i8 (AD_gas d x)) u839 u847 0 else (f9_test lY tp st (i4 x) (2 + (2 * (i4 n)))).bind fun u866 => f_law_B873 len xs lY rec hn rp u866.2.1 u866.2.2 (i4 cnt) (i4 k) c (i4 x) (i4 v) (i4 f) (i4 n) (i4 (rpl A0 d)) (AD_tm d).toInt32 (AD_vTs d).toInt32 (AD_pTs d).toInt32 (i4 (AD_lk d f)) (i4 (AD_rul d v)) (i8 (AD_gas d x)) u839 u847 u866.1) rec lY k := by
  have hW := WF_A0
  have hD := hI.1.2.1
  have en : (2 : Int32) + 2 * i4 n = i4 (2 * (1 + n)) := by
    rw [show (2 : Int32) * i4 n = i4 (2 * n) from i4_mul 2 n, show (2 : Int32) + i4 (2 * n) = i4 (2 + 2 * n) from i4_add 2 (2 * n), Nat.mul_add]
  obtain ⟨r, er, ry, rn⟩ := Q_isolated hI (c := x) hx
  rw [er, sbind, Q_n7 hI, sbind, en]
  by_cases ha : aln A0 d x
  · obtain ⟨tp', st', e, hC⟩ := D_test hI hU (c := x) hx (n := 1 + n) (by omega) (by omega) ha
    rw [ry ha, if_neg one_ne, e, sbind]
    dsimp only
    unfold f_law_B873
    have hkt := hD.2.2.2.1
    have hI' := hC.1
    have hv3 := vrd_le (AD_gas d x) (AD_gas (tkD A0 (2 * (1 + n) / 2) d) x) (AD_gas (tkD A0 (2 * (1 + n) / 2) (tkD A0 (2 * (1 + n) / 2) d)) x)
    have h0 : 0 < AD_kt (tst2 A0 d x (2 * (1 + n))) := by
      show 0 < kt1 _
      unfold kt1; split <;> omega
    have k0 : f9_rise tp' st' 0 0 = _ := Q_rise hI' (q := 0) (by omega) h0
    have k1 : f9_rise tp' st' 0 1 = _ := Q_rise hI' (q := 1) (by omega) h0
    have k2 : f9_rise tp' st' 0 2 = _ := Q_rise hI' (q := 2) (by omega) h0
    have k3 : f9_rise tp' st' 0 3 = _ := Q_rise hI' (q := 3) (by omega) h0
    obtain ⟨k4, k5⟩ := Q_riseGas hI' h0
    have e0 : (AD_tF (tst2 A0 d x (2 * (1 + n))) 0 0).toInt32 = i4 x := i8_to4 x
    have e1 : (AD_tF (tst2 A0 d x (2 * (1 + n))) 0 1).toInt32 = i4 (tst1 A0 d x (2 * (1 + n))) := i8_to4 _
    have e3 : (AD_tF (tst2 A0 d x (2 * (1 + n))) 0 3).toInt32 = i4 (2 * (1 + n)) := i8_to4 _
    have hv3' : tst1 A0 d x (2 * (1 + n)) < 3 := hv3
    have ht : tst1 A0 d x (2 * (1 + n)) = 0 ↔ (AD_tF (tst2 A0 d x (2 * (1 + n))) 0 4 = 0 ∧ AD_tF (tst2 A0 d x (2 * (1 + n))) 0 5 = 0) := by
      show vrd _ _ _ = 0 ↔ (i8 _ - i8 _ = 0 ∧ i8 _ - i8 _ = 0)
      unfold vrd
      constructor
      · intro q
        split at q
        · assumption
        · split at q <;> omega
      · intro q
        rw [if_pos q]
    have hg : i8 (AD_gas (tst2 A0 d x (2 * (1 + n))) x) - i8 (AD_gas d x) = AD_tF (tst2 A0 d x (2 * (1 + n))) 0 4 + AD_tF (tst2 A0 d x (2 * (1 + n))) 0 5 := by
      show i8 _ - i8 _ = (i8 _ - i8 _) + (i8 _ - i8 _)
      exact sub3 _ _ _
    have hk : i4 (AD_kt (tst2 A0 d x (2 * (1 + n)))) = (if i4 (AD_kt d) + 1 < 10 then i4 (AD_kt d) + 1 else 10) := by
      show i4 (kt1 _) = _
      have ek : AD_kt (tkD A0 (2 * (1 + n) / 2) (tkD A0 (2 * (1 + n) / 2) d)) = AD_kt d := by rw [kt_tkD, kt_tkD]
      rw [ek, ad1]
      exact kt1_if hkt
    rw [if_neg one_ne, k1, sbind, e1, if_pos rfl, k0, sbind, if_pos e0, k2, sbind, Q_n4 hI', sbind, if_pos (show (AD_tF (tst2 A0 d x (2 * (1 + n))) 0 2).toInt32 = (AD_tm (tst2 A0 d x (2 * (1 + n)))).toInt32 from rfl), k3, sbind, en, if_pos e3, Q_gas hI' hx, sbind, k4, sbind, k5, sbind, if_pos hg, Q_n7 hI', sbind, if_pos hk, sbind]
    by_cases ha0 : AD_tF (tst2 A0 d x (2 * (1 + n))) 0 4 = 0
    · rw [if_pos ha0, sbind]
      by_cases hb0 : AD_tF (tst2 A0 d x (2 * (1 + n))) 0 5 = 0
      · have hz := ht.mpr ⟨ha0, hb0⟩
        rw [if_pos hb0, hz, if_pos (show (if i4 0 = (0 : Int32) then (1 : Int32) else 0) = 1 by decide)]
        exact T_1017b hC hn rp hx hv hf hcnt (by omega)
      · have hz : ¬ (i4 (tst1 A0 d x (2 * (1 + n))) = 0) := fun q => hb0 (ht.mp ((i4_eq (b := 0) (by omega) (by omega)).mp q)).2
        rw [if_neg hb0, if_neg hz, if_pos rfl]
        exact T_1017b hC hn rp hx hv hf hcnt (by omega)
    · have hz : ¬ (i4 (tst1 A0 d x (2 * (1 + n))) = 0) := fun q => ha0 (ht.mp ((i4_eq (b := 0) (by omega) (by omega)).mp q)).1
      rw [if_neg ha0, if_neg hz, if_pos rfl]
      exact T_1017b hC hn rp hx hv hf hcnt (by omega)
  · rw [rn ha, if_pos rfl]
    unfold f_law_B873
    rw [if_pos rfl]
    exact T_1017a (told := 0) hI hU hn rp (by omega)
set_option maxRecDepth 100000 in
set_option maxHeartbeats 4000000 in
theorem T_all {len : Nat} {xs : Nat → Int32} (hl : len ≤ 260) (hk : k < 14) (hI : IV A0 d lY tp st) (hU : UD tp cnt np) (hn : HN) (rp : RP) (fu : Nat) : NXT (f_law_B89 len xs lY (fu + 1) hn rp tp st (i4 cnt) (i4 k)) (f_law_B89 len xs lY fu) lY k := by
  obtain ⟨c, hc⟩ := cell_ok (xs := xs) hl hk
  obtain ⟨x, hx, ex⟩ := md3 (c := c)
  obtain ⟨f, hf, ef⟩ := md5 (c := c)
  obtain ⟨v, hv1, ev'⟩ := and_k (iushrF c 6) (m := 3) (by omega)
  obtain ⟨p, hp1, ep'⟩ := and_k (iushrF c 8) (m := 1) (by omega)
  obtain ⟨n, hn1, en'⟩ := and_k (iushrF c 12) (m := 63) (by omega)
  have ev : (iushrF c 6) &&& 3 = i4 v := ev'
  have ep : (iushrF c 8) &&& 1 = i4 p := ep'
  have en : (iushrF c 12) &&& 63 = i4 n := en'
  have hv : v < 4 := by omega
  have hp : p < 2 := by omega
  obtain ⟨rp1, er⟩ := Q_rep hI rp
  have hcnt := hU.1
  have hW := WF_A0
  have hD := hI.1.2.1
  have f1 : f9_flange lY tp st (i4 f) 1 = _ := Q_fl1 hI hf
  have v3 : f9_valve lY tp st (i4 v) 3 = _ := Q_va3 hI hv
  generalize hrec : f_law_B89 len xs lY fu = rec
  rw [f_law_B89, if_neg (show ¬ (14 ≤ i4 k) from fun q => by have := (i4_le (a := 14) (by omega) (by omega)).mp q; omega), hc, sbind, er, sbind, Q_n4 hI, sbind, Q_n5 hI, sbind, Q_n6 hI, sbind, ex, ef, ev, ep, en, f1, sbind, v3, sbind, Q_gas hI hx, sbind, hrec]
  dsimp only
  by_cases q0 : c &&& 15 = 0
  · rw [if_pos q0]
    exact K_open hI hU hn rp1 hx hv hf hcnt
  rw [if_neg q0]
  by_cases q1 : c &&& 15 = 1
  · rw [if_pos q1]
    exact K_open hI hU hn rp1 hx hv hf hcnt
  rw [if_neg q1]
  by_cases q2 : c &&& 15 = 2
  · rw [if_pos q2]
    exact K_open hI hU hn rp1 hx hv hf hcnt
  rw [if_neg q2]
  by_cases q3 : c &&& 15 = 3
  · rw [if_pos q3]
    exact K_close hI hU hn rp1 hx hv hf hcnt
  rw [if_neg q3]
  by_cases q4 : c &&& 15 = 4
  · rw [if_pos q4]
    exact K_start hI hU hn rp1 hx hv hf hp hcnt
  rw [if_neg q4]
  by_cases q5 : c &&& 15 = 5
  · rw [if_pos q5]
    exact K_start hI hU hn rp1 hx hv hf hp hcnt
  rw [if_neg q5]
  by_cases q6 : c &&& 15 = 6
  · rw [if_pos q6]
    exact K_stop hI hU hn rp1 hx hv hf hp hcnt
  rw [if_neg q6]
  by_cases q7 : c &&& 15 = 7
  · rw [if_pos q7]
    exact K_pass hI hU hn rp1 hx hv hf hn1 hcnt
  rw [if_neg q7]
  by_cases q8 : c &&& 15 = 8
  · rw [if_pos q8]
    exact K_pass hI hU hn rp1 hx hv hf hn1 hcnt
  rw [if_neg q8]
  by_cases q9 : c &&& 15 = 9
  · rw [if_pos q9]
    exact K_pass hI hU hn rp1 hx hv hf hn1 hcnt
  rw [if_neg q9]
  by_cases q10 : c &&& 15 = 10
  · rw [if_pos q10]
    exact K_seal hI hU hn rp1 hx hv hf hcnt
  rw [if_neg q10]
  by_cases q11 : c &&& 15 = 11
  · rw [if_pos q11]
    exact K_setLeak hI hU hn rp1 hx hv hf hn1 hcnt
  rw [if_neg q11]
  by_cases q12 : c &&& 15 = 12
  · rw [if_pos q12]
    exact K_setRule hI hU hn rp1 hx hv hf hn1 hcnt
  rw [if_neg q12]
  by_cases q13 : c &&& 15 = 13
  · rw [if_pos q13]
    exact K_until hI hU hn rp1 hx hv hf hn1 hcnt
  rw [if_neg q13]
  exact K_test hI hU hn rp1 hx hv hf hn1 hcnt
end TURNS
