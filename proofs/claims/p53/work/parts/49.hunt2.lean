/-! the leak hunt, the class -/
theorem anyF_last (p : Nat → Bool) : ∀ n v, anyF p (n + 1) v = (anyF p n v || p (v + n))
  | 0, v => by simp [anyF]
  | n + 1, v => by
    show (p v || anyF p (n + 1) (v + 1)) = ((p v || anyF p n (v + 1)) || p (v + (n + 1)))
    rw [anyF_last p n (v + 1), Bool.or_assoc, show v + 1 + n = v + (n + 1) by omega]
def GR (hn : HN) (k G : Nat) (fr sz : Nat → Nat) : Prop := HN_groups hn = i4 G ∧ ∀ i, i < G → HN_froms hn i = i4 (fr i) ∧ HN_sizes hn i = i4 (sz i) ∧ 1 ≤ sz i ∧ fr i + sz i ≤ k
theorem C_addG {hn : HN} {k G : Nat} {fr sz : Nat → Nat} (hk : k ≤ 24) (h : GR hn k G fr sz) (hG : G < 47) {f s : Nat} (h1 : 1 ≤ s) (h2 : f + s ≤ k) :
    ∃ hn', f0_addGroup hn (i4 f) (i4 s) = some hn' ∧ GR hn' k (G + 1) (setN fr G f) (setN sz G s) ∧ HN_numbers hn' = HN_numbers hn ∧ HN_sprayed hn' = HN_sprayed hn ∧ HN_foundSet hn' = HN_foundSet hn := by
  refine ⟨HN_set_groups (HN_set_sizes (HN_set_froms hn (upd (HN_froms hn) G (i4 f))) (upd (HN_sizes hn) G (i4 s))) (i4 (G + 1)), ?_, ⟨rfl, fun i hi => ?_⟩, rfl, rfl, rfl⟩
  · unfold f0_addGroup
    rw [if_neg (show ¬ (i4 s ≤ (0 : Int32)) from fun q => by have := (i4_le (b := 0) (by omega) (by omega)).mp q; omega), h.1, if_neg (show ¬ ((47 : Int32) ≤ i4 G) from fun q => by have := (i4_le (a := 47) (by omega) (by omega)).mp q; omega), gdi _ (by omega) (by omega), ix4 (by omega), ad1]
  · show upd (HN_froms hn) G (i4 f) i = i4 (setN fr G f i) ∧ upd (HN_sizes hn) G (i4 s) i = i4 (setN sz G s i) ∧ 1 ≤ setN sz G s i ∧ setN fr G f i + setN sz G s i ≤ k
    by_cases he : i = G
    · rw [he, upd_self, upd_self, setN_self, setN_self]
      exact ⟨rfl, rfl, h1, h2⟩
    · rw [upd_ne _ _ he, upd_ne _ _ he, setN_ne _ _ he, setN_ne _ _ he]
      exact h.2 i (by omega)
section HV
variable {a : AS} {d : AD} {lY : LL} {S : SS} {tp : TP} {st : Fin 12 → SS}
theorem C_collect (hW : WFs a) (hL : RCs a lY) {c : Nat} (hc : c < AS_nC a) : ∀ (n f fu : Nat) (hn : HN), f + n = AS_nF a → n < fu → (∀ i, i < rnk (toF a c) f → HN_numbers hn i = i4 (nmN (toF a c) f i)) →
    ∃ hn', f0_collect_B5 lY fu hn (i4 c) (i4 (rnk (toF a c) f)) (i4 f) = some (i4 (rnk (toF a c) (AS_nF a)), hn') ∧ (∀ i, i < rnk (toF a c) (AS_nF a) → HN_numbers hn' i = i4 (nmN (toF a c) (AS_nF a) i)) ∧ HN_groups hn' = HN_groups hn ∧ HN_sprayed hn' = HN_sprayed hn ∧ HN_foundSet hn' = HN_foundSet hn := by
  intro n
  have hN := hW.1
  induction n with
  | zero =>
    intro f fu hn hf hu hi
    obtain ⟨q, rfl, -⟩ := fuS hu
    obtain rfl : f = AS_nF a := by omega
    rw [f0_collect_B5, hL.1.2.2.2, if_pos ((i4_le (by omega) (by omega)).mpr (Nat.le_refl _))]
    exact ⟨hn, rfl, hi, rfl, rfl, rfl⟩
  | succ n ih =>
    intro f fu hn hf hu hi
    obtain ⟨q, rfl, -⟩ := fuS hu
    have hfl : f < AS_nF a := by omega
    have hH := hW.2.2.2.2 f hfl
    have hr := rnk_le (toF a c) f
    rw [f0_collect_B5, hL.1.2.2.2, if_neg (fun h => by have := (i4_le (by omega) (by omega)).mp h; omega), gdi _ (by omega) (by omega), ix4 (by omega), hL.2.2.2.2 f hfl, ad1, ad1]
    by_cases hT : AS_fH a f = c
    · have hT' : toF a c f = true := decide_eq_true hT
      rw [if_pos ((i4_eq (by omega) (by omega)).mpr hT), gdi _ (by omega) (by omega), ix4 (by omega), ← rnk_y hT']
      obtain ⟨hn', e, g1, g2, g3, g4⟩ := ih (f + 1) q (HN_set_numbers hn (upd (HN_numbers hn) (rnk (toF a c) f) (i4 f))) (by omega) (by omega) (fun i hi' => by
        rw [rnk_y hT'] at hi'
        show upd (HN_numbers hn) (rnk (toF a c) f) (i4 f) i = i4 ((if toF a c f = true then setN (nmN (toF a c) f) (rnk (toF a c) f) f else nmN (toF a c) f) i)
        rw [if_pos hT']
        by_cases he : i = rnk (toF a c) f
        · rw [he, upd_self, setN_self]
        · rw [upd_ne _ _ he, setN_ne _ _ he]
          exact hi i (by omega))
      exact ⟨hn', e, g1, g2, g3, g4⟩
    · have hT' : ¬ toF a c f = true := fun h => hT (of_decide_eq_true h)
      rw [if_neg (fun h => hT ((i4_eq (by omega) (by omega)).mp h)), ← rnk_n hT']
      exact ih (f + 1) q hn (by omega) (by omega) (fun i hi' => by
        rw [rnk_n hT'] at hi'
        show _ = i4 ((if toF a c f = true then setN (nmN (toF a c) f) (rnk (toF a c) f) f else nmN (toF a c) f) i)
        rw [if_neg hT']
        exact hi i hi')
theorem C_sumOf (hW : WFs a) (hD : WFd a d) (hS : RCd a d S) (T : Nat → Bool) {hn : HN} {G x : Nat} {fr sz : Nat → Nat} (h : GR hn (rnk T (AS_nF a)) G fr sz) (hx : x < G) (hG : G ≤ 47) (hnm : ∀ i, i < rnk T (AS_nF a) → HN_numbers hn i = i4 (nmN T (AS_nF a) i)) :
    f0_sumOf hn S (i4 x) = some (i4 (sgS T (AD_lk d) (AS_nF a) (fr x) (sz x))) := by
  have hN := hW.1
  have := FU_eq
  have hr := rnk_le T (AS_nF a)
  obtain ⟨g1, g2, g3, g4⟩ := h.2 x hx
  have key : ∀ (n i fu acc : Nat), i + n = fr x + sz x → n < fu → f0_sumOf_B10 hn S fu (i4 x) (i4 acc) (i4 i) = some (i4 (acc + sumR (fun i => AD_lk d (nmN T (AS_nF a) i)) n i)) := by
    intro n
    induction n with
    | zero =>
      intro i fu acc hi hf
      obtain ⟨q, rfl, -⟩ := fuS hf
      rw [f0_sumOf_B10, gdi _ (by omega) (by omega), ix4 (by omega), g1, g2, i4_add, if_pos ((i4_le (by omega) (by omega)).mpr (by omega))]
      rfl
    | succ n ih =>
      intro i fu acc hi hf
      obtain ⟨q, rfl, -⟩ := fuS hf
      have hin := (nm_spec T (F := AS_nF a) (i := i) (by omega)).1
      rw [f0_sumOf_B10, gdi _ (by omega) (by omega), ix4 (by omega), g1, g2, i4_add, if_neg (fun h => by have := (i4_le (by omega) (by omega)).mp h; omega), gdi _ (by omega) (by omega), ix4 (by omega), hnm i (by omega), gdi _ (by omega) (by omega), ix4 (by omega), hS.2.2.2.1.2 _ hin, i4_add, ad1, ih (i + 1) q _ (by omega) (by omega)]
      congr 2
      show _ = acc + (AD_lk d (nmN T (AS_nF a) i) + sumR (fun i => AD_lk d (nmN T (AS_nF a) i)) n (i + 1))
      omega
  unfold f0_sumOf
  rw [gdi _ (by omega) (by omega), ix4 (by omega), g1, show f0_sumOf_B10 hn S FU (i4 x) 0 (i4 (fr x)) = _ from key (sz x) (fr x) FU 0 (by omega) (by omega), Nat.zero_add]
  rfl
theorem C_run0 (hW : WFs a) (hD : WFd a d) (hS : RCd a d S) (T : Nat → Bool) {thr : Nat} (ht : thr < 100000) : ∀ (n x r fu sp : Nat) (hn : HN) (fr sz : Nat → Nat), x + n = 47 → n < fu → GR hn (rnk T (AS_nF a)) (x + r) fr sz → x + r + sumR (fun i => 2 * sz i - 2) r x ≤ 47 → (∀ i, i < rnk T (AS_nF a) → HN_numbers hn i = i4 (nmN T (AS_nF a) i)) → HN_sprayed hn = i4 sp →
    ∃ hn', f0_run_B32 lY S fu hn (i4 thr) (i4 x) = some hn' ∧ HN_sprayed hn' = i4 (sp + sumR (fun i => hct thr (sgS T (AD_lk d) (AS_nF a)) 24 (fr i) (sz i)) r x) ∧ ∀ j, j < 32 → bit (HN_foundSet hn') j = (bit (HN_foundSet hn) j || anyF (fun i => hst thr (sgS T (AD_lk d) (AS_nF a)) (nmN T (AS_nF a)) 24 (fr i) (sz i) j) r x) := by
  intro n
  have hN := hW.1
  have hr := rnk_le T (AS_nF a)
  induction n with
  | zero =>
    intro x r fu sp hn fr sz hx hf hG hp hnm hsp
    obtain ⟨q, rfl, -⟩ := fuS hf
    obtain rfl : r = 0 := by omega
    rw [f0_run_B32, hG.1, if_pos ((i4_le (by omega) (by omega)).mpr (by omega))]
    exact ⟨hn, rfl, hsp, fun j _ => (Bool.or_false _).symm⟩
  | succ n ih =>
    intro x r fu sp hn fr sz hx hf hG hp hnm hsp
    obtain ⟨q, rfl, -⟩ := fuS hf
    cases r with
    | zero =>
      rw [f0_run_B32, hG.1, if_pos ((i4_le (by omega) (by omega)).mpr (by omega))]
      exact ⟨hn, rfl, hsp, fun j _ => (Bool.or_false _).symm⟩
    | succ r =>
      have hxG : x < x + (r + 1) := by omega
      obtain ⟨g1, g2, g3, g4⟩ := hG.2 x hxG
      have hsum := C_sumOf (hn := HN_set_sprayed hn (i4 (sp + 1))) hW hD hS T (h := hG) hxG (by omega) hnm
      have hle := sgS_le hW hD T g4
      rw [f0_run_B32, hG.1, if_neg (fun h => by have := (i4_le (by omega) (by omega)).mp h; omega), if_neg (show ¬ ((47 : Int32) ≤ i4 x) from fun h => by have := (i4_le (a := 47) (by omega) (by omega)).mp h; omega), hsp, ad1, hsum, sbind, ad1]
      rw [show sumR (fun i => 2 * sz i - 2) (r + 1) x = (2 * sz x - 2) + sumR (fun i => 2 * sz i - 2) r (x + 1) from rfl] at hp
      have hG1 : GR (HN_set_sprayed hn (i4 (sp + 1))) (rnk T (AS_nF a)) (x + 1 + r) fr sz := by
        rw [show x + 1 + r = x + (r + 1) by omega]
        exact hG
      by_cases hc : thr ≤ sgS T (AD_lk d) (AS_nF a) (fr x) (sz x)
      · rw [if_pos ((i4_le (by omega) (by omega)).mpr hc), gdi _ (by omega) (by omega), ix4 (by omega), g2, g1]
        by_cases h1 : sz x = 1
        · have hin := nm_spec T (F := AS_nF a) (i := fr x) (by omega)
          rw [h1, if_pos (show i4 1 = (1 : Int32) from rfl), gdi _ (by omega) (by omega), ix4 (by omega), hnm (fr x) (by omega)]
          obtain ⟨hn', e, f1, f2⟩ := ih (x + 1) r q (sp + 1) (HN_set_foundSet (HN_set_sprayed hn (i4 (sp + 1))) (HN_foundSet hn ||| (1 <<< (i4 (nmN T (AS_nF a) (fr x)) &&& 31)))) fr sz (by omega) (by omega) hG1 (by omega) hnm rfl
          refine ⟨hn', e, ?_, fun j hj => ?_⟩
          · rw [f1]
            show _ = i4 (sp + (hct thr (sgS T (AD_lk d) (AS_nF a)) 24 (fr x) (sz x) + sumR (fun i => hct thr (sgS T (AD_lk d) (AS_nF a)) 24 (fr i) (sz i)) r (x + 1)))
            rw [hct_1 (by omega) (fun h => h.2 h1)]
            congr 1
            omega
          · rw [f2 j hj]
            show (bit (HN_foundSet hn ||| (1 <<< (i4 (nmN T (AS_nF a) (fr x)) &&& 31))) j || _) = (bit (HN_foundSet hn) j || (hst thr (sgS T (AD_lk d) (AS_nF a)) (nmN T (AS_nF a)) 24 (fr x) (sz x) j || _))
            rw [bit_or, bit_one_shl (by omega), h1, hst_1 (by rw [h1] at hc; exact hc), Bool.or_assoc]
        · have hG2 : x + (r + 1) < 47 ∧ x + (r + 1) + 1 < 47 := by omega
          rw [if_neg (show ¬ (i4 (sz x) = (1 : Int32)) from fun h => h1 ((i4_eq (b := 1) (by omega) (by omega)).mp h)), show i4 (sz x) / 2 = i4 (sz x / 2) from i4_div (b := 2) (by omega) (by omega), i4_sub (by omega)]
          obtain ⟨u1, e1, G1, n1, s1, t1⟩ := C_addG (by omega) hG1 (by omega) (f := fr x) (s := sz x - sz x / 2) (by omega) (by omega)
          rw [e1, sbind]
          have g5 := (G1.2 x (by omega)).1
          rw [setN_ne _ _ (by omega)] at g5
          rw [g5, i4_add]
          obtain ⟨u2, e2, G2, n2, s2, t2⟩ := C_addG (by omega) G1 (by omega) (f := fr x + (sz x - sz x / 2)) (s := sz x / 2) (by omega) (by omega)
          rw [e2, sbind]
          have ho : ∀ i, x + 1 ≤ i → i < x + 1 + r → setN (setN fr (x + 1 + r) (fr x)) (x + 1 + r + 1) (fr x + (sz x - sz x / 2)) i = fr i ∧ setN (setN sz (x + 1 + r) (sz x - sz x / 2)) (x + 1 + r + 1) (sz x / 2) i = sz i := by
            intro i h1 h2
            rw [setN_ne _ _ (by omega), setN_ne _ _ (by omega), setN_ne _ _ (by omega), setN_ne _ _ (by omega)]
            exact ⟨rfl, rfl⟩
          have ea : setN (setN fr (x + 1 + r) (fr x)) (x + 1 + r + 1) (fr x + (sz x - sz x / 2)) (x + 1 + r) = fr x ∧ setN (setN sz (x + 1 + r) (sz x - sz x / 2)) (x + 1 + r + 1) (sz x / 2) (x + 1 + r) = sz x - sz x / 2 := by
            rw [setN_ne _ _ (by omega), setN_self, setN_ne _ _ (by omega), setN_self]
            exact ⟨rfl, rfl⟩
          have eb : setN (setN fr (x + 1 + r) (fr x)) (x + 1 + r + 1) (fr x + (sz x - sz x / 2)) (x + 1 + (r + 1)) = fr x + (sz x - sz x / 2) ∧ setN (setN sz (x + 1 + r) (sz x - sz x / 2)) (x + 1 + r + 1) (sz x / 2) (x + 1 + (r + 1)) = sz x / 2 := by
            rw [show x + 1 + (r + 1) = x + 1 + r + 1 by omega, setN_self, setN_self]
            exact ⟨rfl, rfl⟩
          have sums : ∀ g : Nat → Nat → Nat, sumR (fun i => g (setN (setN fr (x + 1 + r) (fr x)) (x + 1 + r + 1) (fr x + (sz x - sz x / 2)) i) (setN (setN sz (x + 1 + r) (sz x - sz x / 2)) (x + 1 + r + 1) (sz x / 2) i)) (r + 1 + 1) (x + 1) = sumR (fun i => g (fr i) (sz i)) r (x + 1) + g (fr x) (sz x - sz x / 2) + g (fr x + (sz x - sz x / 2)) (sz x / 2) := by
            intro g
            rw [sumR_last, sumR_last, ea.1, ea.2, eb.1, eb.2]
            rw [sumR_congr (g := fun i => g (fr i) (sz i)) (fun i h1 h2 => by rw [(ho i h1 h2).1, (ho i h1 h2).2])]
          obtain ⟨hn', e, f1, f2⟩ := ih (x + 1) (r + 1 + 1) q (sp + 1) u2 _ _ (by omega) (by omega) (by rw [show x + 1 + (r + 1 + 1) = x + 1 + r + 1 + 1 by omega]; exact G2) (by
            rw [sums (fun _ s => 2 * s - 2)]
            omega) (fun i hi => by rw [n2, n1]; exact hnm i hi) (by rw [s2, s1]; rfl)
          refine ⟨hn', e, ?_, fun j hj => ?_⟩
          · rw [f1, sums (fun f s => hct thr (sgS T (AD_lk d) (AS_nF a)) 24 f s)]
            show _ = i4 (sp + (hct thr (sgS T (AD_lk d) (AS_nF a)) 24 (fr x) (sz x) + sumR (fun i => hct thr (sgS T (AD_lk d) (AS_nF a)) 24 (fr i) (sz i)) r (x + 1)))
            rw [hct_2 (by omega) (by omega) hc]
            congr 1
            omega
          · rw [f2 j hj, t2, t1, anyF_last, anyF_last, ea.1, ea.2, eb.1, eb.2, anyF_congr (q := fun i => hst thr (sgS T (AD_lk d) (AS_nF a)) (nmN T (AS_nF a)) 24 (fr i) (sz i) j) (fun i h1 h2 => by rw [(ho i h1 h2).1, (ho i h1 h2).2])]
            show (bit (HN_foundSet hn) j || _) = (bit (HN_foundSet hn) j || (hst thr (sgS T (AD_lk d) (AS_nF a)) (nmN T (AS_nF a)) 24 (fr x) (sz x) j || _))
            rw [hst_2 (by omega) (by omega) hc]
            congr 1
            rw [Bool.or_assoc, Bool.or_comm]
      · rw [if_neg (fun h => hc ((i4_le (by omega) (by omega)).mp h))]
        obtain ⟨hn', e, f1, f2⟩ := ih (x + 1) r q (sp + 1) (HN_set_sprayed hn (i4 (sp + 1))) fr sz (by omega) (by omega) hG1 (by omega) hnm rfl
        refine ⟨hn', e, ?_, fun j hj => ?_⟩
        · rw [f1]
          show _ = i4 (sp + (hct thr (sgS T (AD_lk d) (AS_nF a)) 24 (fr x) (sz x) + sumR (fun i => hct thr (sgS T (AD_lk d) (AS_nF a)) 24 (fr i) (sz i)) r (x + 1)))
          rw [hct_1 (by omega) (fun h => hc h.1)]
          congr 1
          omega
        · rw [f2 j hj]
          show _ = (bit (HN_foundSet hn) j || (hst thr (sgS T (AD_lk d) (AS_nF a)) (nmN T (AS_nF a)) 24 (fr x) (sz x) j || _))
          rw [hst_0 hc, Bool.false_or]
          rfl
/-- the class's whole hunt -/
theorem C_run (hW : WFs a) (hD : WFd a d) (hL : RCs a lY) (hS : RCd a d S) (hn : HN) {c thr : Nat} (hc : c < AS_nC a) (ht : thr < 100000) :
    ∃ hn', f0_run lY S hn (i4 c) (i4 thr) = some hn' ∧ HN_sprayed hn' = i4 (hct thr (sgS (toF a c) (AD_lk d) (AS_nF a)) 24 0 (rnk (toF a c) (AS_nF a))) ∧ ∀ j, j < 32 → bit (HN_foundSet hn') j = hst thr (sgS (toF a c) (AD_lk d) (AS_nF a)) (nmN (toF a c) (AS_nF a)) 24 0 (rnk (toF a c) (AS_nF a)) j := by
  have hN := hW.1
  have := FU_eq
  have hr := rnk_le (toF a c) (AS_nF a)
  obtain ⟨u, e, g1, g2, g3, g4⟩ := C_collect hW hL hc (AS_nF a) 0 FU (HN_set_foundSet (HN_set_sprayed (HN_set_groups hn 0) 0) 0) (by omega) (by omega) (fun i hi => absurd hi (Nat.not_lt_zero i))
  unfold f0_run f0_collect
  rw [show f0_collect_B5 lY FU (HN_set_foundSet (HN_set_sprayed (HN_set_groups hn 0) 0) 0) (i4 c) 0 0 = _ from e, sbind]
  dsimp only
  have hG0 : GR u (rnk (toF a c) (AS_nF a)) 0 (fun _ => 0) (fun _ => 0) := ⟨g2.trans rfl, fun i hi => absurd hi (Nat.not_lt_zero i)⟩
  by_cases h0 : rnk (toF a c) (AS_nF a) = 0
  · obtain ⟨hn', e', f1, f2⟩ := C_run0 (lY := lY) hW hD hS (toF a c) ht 47 0 0 FU 0 u _ _ (by omega) (by omega) hG0 (by show 0 + 0 + 0 ≤ 47; omega) g1 (g3.trans rfl)
    refine ⟨hn', ?_, ?_, fun j hj => ?_⟩
    · unfold f0_addGroup
      rw [if_pos (show i4 (rnk (toF a c) (AS_nF a)) ≤ (0 : Int32) from (i4_le (b := 0) (by omega) (by omega)).mpr (by omega)), sbind]
      exact e'
    · rw [f1, h0]; rfl
    · rw [f2 j hj, h0, g4]
      show (bit 0 j || false) = _
      rw [bit_zero]; rfl
  · obtain ⟨u1, e1, G1, n1, s1, t1⟩ := C_addG (by omega) hG0 (by omega) (f := 0) (s := rnk (toF a c) (AS_nF a)) (by omega) (by omega)
    obtain ⟨hn', e', f1, f2⟩ := C_run0 (lY := lY) hW hD hS (toF a c) ht 47 0 1 FU 0 u1 _ _ (by omega) (by omega) G1 (by
      show 0 + 1 + ((2 * setN (fun _ => 0) 0 (rnk (toF a c) (AS_nF a)) 0 - 2) + 0) ≤ 47
      rw [setN_self]
      omega) (fun i hi => by rw [n1]; exact g1 i hi) (s1.trans (g3.trans rfl))
    refine ⟨hn', ?_, ?_, fun j hj => ?_⟩
    · rw [show f0_addGroup u 0 (i4 (rnk (toF a c) (AS_nF a))) = _ from e1, sbind]
      exact e'
    · rw [f1]
      show i4 (0 + (hct thr _ 24 (setN (fun _ => 0) 0 0 0) (setN (fun _ => 0) 0 (rnk (toF a c) (AS_nF a)) 0) + 0)) = _
      rw [setN_self, setN_self, Nat.add_zero, Nat.zero_add]
    · rw [f2 j hj, t1, g4]
      show (bit 0 j || (hst thr _ _ 24 (setN (fun _ => 0) 0 0 0) (setN (fun _ => 0) 0 (rnk (toF a c) (AS_nF a)) 0) j || false)) = _
      rw [setN_self, setN_self, bit_zero, Bool.false_or, Bool.or_false]
theorem mskN_congr {p q : Nat → Bool} : ∀ {n : Nat}, (∀ i, i < n → p i = q i) → mskN p n = mskN q n
  | 0, _ => rfl
  | n + 1, h => by
    unfold mskN
    rw [h n (by omega), mskN_congr (n := n) (fun i hi => h i (by omega))]
theorem rng_cases (y : Int32) : (∃ n, 1 ≤ n ∧ n ≤ 9999 ∧ y = i4 n) ∨ ¬ (1 ≤ y.toInt ∧ y.toInt ≤ 9999) := by
  by_cases h : 1 ≤ y.toInt ∧ y.toInt ≤ 9999
  · refine Or.inl ⟨n4 y, ?_, ?_, (i4_n4 (by omega)).symm⟩ <;> unfold n4 <;> omega
  · exact Or.inr h
/-! one spray, the worst flange -/
theorem allf_bit : ∀ n, n < 25 → ∀ j, j < 32 → bit ((1 <<< (i4 n &&& 31)) - 1) j = decide (j < n) := by decide +kernel
theorem allf_8 : ∀ n, n < 25 → ((1 : Int64) <<< ((i4 n).toInt64 &&& 63)) - 1 = i8 (2 ^ n - 1) := by decide +kernel
theorem sub_iff {x : Int32} {n : Nat} (hn : n < 25) : (x &&& (((1 <<< (i4 n &&& 31)) - 1) ^^^ (-1))) = 0 ↔ (0 ≤ x.toInt ∧ x.toInt ≤ ((2 ^ n - 1 : Nat) : Int)) := by
  have hp : 2 ^ n ≤ 2 ^ 24 := Nat.pow_le_pow_right (by omega) (by omega)
  have hp1 : 0 < 2 ^ n := Nat.pos_of_ne_zero (by simp)
  have e1 : (x &&& (((1 <<< (i4 n &&& 31)) - 1) ^^^ (-1))) = 0 ↔ ∀ j, n ≤ j → j < 32 → bit x j = false := by
    rw [int0_bits]
    refine ⟨fun h j h1 h2 => ?_, fun h j hj => ?_⟩
    · have := h j h2
      rw [bit_and, bit_not _ h2, allf_bit n hn j h2, decide_eq_false (by omega)] at this
      simpa using this
    · rw [bit_and, bit_not _ hj, allf_bit n hn j hj]
      by_cases h2 : j < n
      · rw [decide_eq_true h2]; simp
      · rw [h j (by omega) hj, Bool.false_and]
  have e2 : (∀ j, n ≤ j → j < 32 → bit x j = false) ↔ x.toBitVec.toNat < 2 ^ n := by
    refine ⟨fun h => Nat.lt_pow_two_of_testBit _ (fun j hj => ?_), fun h j h1 h2 => ?_⟩
    · by_cases h2 : j < 32
      · exact h j hj h2
      · exact bit_ge x (by omega)
    · show x.toBitVec.toNat.testBit j = false
      exact Nat.testBit_lt_two_pow (Nat.lt_of_lt_of_le h (Nat.pow_le_pow_right (by omega) h1))
  have e3 : x.toInt = if 2 * x.toBitVec.toNat < 2 ^ 32 then (x.toBitVec.toNat : Int) else (x.toBitVec.toNat : Int) - ((2 ^ 32 : Nat) : Int) := BitVec.toInt_eq_toNat_cond x.toBitVec
  have e4 := x.toBitVec.isLt
  rw [e1, e2, e3]
  split <;> omega
def wrs (d : AD) (f : Nat) (b : Nat) : Nat := if AD_lk d f ≤ AD_lk d b then b else f
end HV

