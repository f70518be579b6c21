/-! the leak hunt, the class -/
theorem anyF_last (p : Nat → Bool) : ∀ n v, anyF p (n + 1) v = (anyF p n v || p (v + n))
  | 0, v => by simp [anyF]
  | n + 1, v => by
    show (p v || anyF p (n + 1) (v + 1)) = ((p v || anyF p n (v + 1)) || p (v + (n + 1)))
    rw [anyF_last p n (v + 1), Bool.or_assoc, show v + 1 + n = v + (n + 1) by omega]
def GR (hn : HN) (k G : Nat) (fr sz : Nat → Nat) : Prop := HN_groups hn = i4 G ∧ ∀ i, i < G → HN_froms hn i = i4 (fr i) ∧ HN_sizes hn i = i4 (sz i) ∧ 1 ≤ sz i ∧ fr i + sz i ≤ k
theorem C_addG {hn : HN} {k G : Nat} {fr sz : Nat → Nat} (hk : k ≤ 24) (h : GR hn k G fr sz) (hG : G < 47) {f s : Nat} (h1 : 1 ≤ s) (h2 : f + s ≤ k) :
    ∃ hn', f0_addGroup hn (i4 f) (i4 s) = some hn' ∧ GR hn' k (G + 1) (setN fr G f) (setN sz G s) ∧ HN_numbers hn' = HN_numbers hn ∧ HN_sprayed hn' = HN_sprayed hn ∧ HN_foundSet hn' = HN_foundSet hn := by
  refine ⟨HN_set_groups (HN_set_sizes (HN_set_froms hn (upd (HN_froms hn) G (i4 f))) (upd (HN_sizes hn) G (i4 s))) (i4 (G + 1)), ?_, ⟨rfl, fun i hi => ?_⟩, rfl, rfl, rfl⟩
  · unfold f0_addGroup
    rw [if_neg (show ¬ (i4 s ≤ (0 : Int32)) from fun q => by have := (i4_le (b := 0) (by omega) (by omega)).mp q; omega), h.1, if_neg (show ¬ ((47 : Int32) ≤ i4 G) from fun q => by have := (i4_le (a := 47) (by omega) (by omega)).mp q; omega), gdi _ (by omega) (by omega), ix4 (by omega), ad1]
  · show upd (HN_froms hn) G (i4 f) i = i4 (setN fr G f i) ∧ upd (HN_sizes hn) G (i4 s) i = i4 (setN sz G s i) ∧ 1 ≤ setN sz G s i ∧ setN fr G f i + setN sz G s i ≤ k
    by_cases he : i = G
    · rw [he, upd_self, upd_self, setN_self, setN_self]
      exact ⟨rfl, rfl, h1, h2⟩
    · rw [upd_ne _ _ he, upd_ne _ _ he, setN_ne _ _ he, setN_ne _ _ he]
      exact h.2 i (by omega)
section HV
variable {a : AS} {d : AD} {lY : LL} {S : SS} {tp : TP} {st : Fin 12 → SS} {w : Nat → Int64} {mu : MU} {th : Int32} {ou : Nat → Int64}
theorem C_collect (hW : WFs a) (hL : RCs a lY) {c : Nat} (hc : c < AS_nC a) : ∀ (n f fu : Nat) (hn : HN), f + n = AS_nF a → n < fu → (∀ i, i < rnk (toF a c) f → HN_numbers hn i = i4 (nmN (toF a c) f i)) →
    ∃ hn', f0_collect_B5 lY fu hn (i4 c) (i4 (rnk (toF a c) f)) (i4 f) = some (i4 (rnk (toF a c) (AS_nF a)), hn') ∧ (∀ i, i < rnk (toF a c) (AS_nF a) → HN_numbers hn' i = i4 (nmN (toF a c) (AS_nF a) i)) ∧ HN_groups hn' = HN_groups hn ∧ HN_sprayed hn' = HN_sprayed hn ∧ HN_foundSet hn' = HN_foundSet hn := by
  intro n
  have hN := hW.1
  induction n with
  | zero =>
    intro f fu hn hf hu hi
    obtain ⟨q, rfl, -⟩ := fuS hu
    obtain rfl : f = AS_nF a := by omega
    rw [f0_collect_B5, hL.1.2.2.2, if_pos ((i4_le (by omega) (by omega)).mpr (Nat.le_refl _))]
    exact ⟨hn, rfl, hi, rfl, rfl, rfl⟩
  | succ n ih =>
    intro f fu hn hf hu hi
    obtain ⟨q, rfl, -⟩ := fuS hu
    have hfl : f < AS_nF a := by omega
    have hH := hW.2.2.2.2 f hfl
    have hr := rnk_le (toF a c) f
    rw [f0_collect_B5, hL.1.2.2.2, if_neg (fun h => by have := (i4_le (by omega) (by omega)).mp h; omega), gdi _ (by omega) (by omega), ix4 (by omega), hL.2.2.2.2 f hfl, ad1, ad1]
    by_cases hT : AS_fH a f = c
    · have hT' : toF a c f = true := decide_eq_true hT
      rw [if_pos ((i4_eq (by omega) (by omega)).mpr hT), gdi _ (by omega) (by omega), ix4 (by omega), ← rnk_y hT']
      obtain ⟨hn', e, g1, g2, g3, g4⟩ := ih (f + 1) q (HN_set_numbers hn (upd (HN_numbers hn) (rnk (toF a c) f) (i4 f))) (by omega) (by omega) (fun i hi' => by
        rw [rnk_y hT'] at hi'
        show upd (HN_numbers hn) (rnk (toF a c) f) (i4 f) i = i4 ((if toF a c f = true then setN (nmN (toF a c) f) (rnk (toF a c) f) f else nmN (toF a c) f) i)
        rw [if_pos hT']
        by_cases he : i = rnk (toF a c) f
        · rw [he, upd_self, setN_self]
        · rw [upd_ne _ _ he, setN_ne _ _ he]
          exact hi i (by omega))
      exact ⟨hn', e, g1, g2, g3, g4⟩
    · have hT' : ¬ toF a c f = true := fun h => hT (of_decide_eq_true h)
      rw [if_neg (fun h => hT ((i4_eq (by omega) (by omega)).mp h)), ← rnk_n hT']
      exact ih (f + 1) q hn (by omega) (by omega) (fun i hi' => by
        rw [rnk_n hT'] at hi'
        show _ = i4 ((if toF a c f = true then setN (nmN (toF a c) f) (rnk (toF a c) f) f else nmN (toF a c) f) i)
        rw [if_neg hT']
        exact hi i hi')
theorem C_sumOf (hW : WFs a) (hD : WFd a d) (hS : RCd a d S) (T : Nat → Bool) {hn : HN} {G x : Nat} {fr sz : Nat → Nat} (h : GR hn (rnk T (AS_nF a)) G fr sz) (hx : x < G) (hG : G ≤ 47) (hnm : ∀ i, i < rnk T (AS_nF a) → HN_numbers hn i = i4 (nmN T (AS_nF a) i)) :
    f0_sumOf hn S (i4 x) = some (i4 (sgS T (AD_lk d) (AS_nF a) (fr x) (sz x))) := by
  have hN := hW.1
  have := FU_eq
  have hr := rnk_le T (AS_nF a)
  obtain ⟨g1, g2, g3, g4⟩ := h.2 x hx
  have key : ∀ (n i fu acc : Nat), i + n = fr x + sz x → n < fu → f0_sumOf_B10 hn S fu (i4 x) (i4 acc) (i4 i) = some (i4 (acc + sumR (fun i => AD_lk d (nmN T (AS_nF a) i)) n i)) := by
    intro n
    induction n with
    | zero =>
      intro i fu acc hi hf
      obtain ⟨q, rfl, -⟩ := fuS hf
      rw [f0_sumOf_B10, gdi _ (by omega) (by omega), ix4 (by omega), g1, g2, i4_add, if_pos ((i4_le (by omega) (by omega)).mpr (by omega))]
      rfl
    | succ n ih =>
      intro i fu acc hi hf
      obtain ⟨q, rfl, -⟩ := fuS hf
      have hin := (nm_spec T (F := AS_nF a) (i := i) (by omega)).1
      rw [f0_sumOf_B10, gdi _ (by omega) (by omega), ix4 (by omega), g1, g2, i4_add, if_neg (fun h => by have := (i4_le (by omega) (by omega)).mp h; omega), gdi _ (by omega) (by omega), ix4 (by omega), hnm i (by omega), gdi _ (by omega) (by omega), ix4 (by omega), hS.2.2.2.1.2 _ hin, i4_add, ad1, ih (i + 1) q _ (by omega) (by omega)]
      congr 2
      show _ = acc + (AD_lk d (nmN T (AS_nF a) i) + sumR (fun i => AD_lk d (nmN T (AS_nF a) i)) n (i + 1))
      omega
  unfold f0_sumOf
  rw [gdi _ (by omega) (by omega), ix4 (by omega), g1, show f0_sumOf_B10 hn S FU (i4 x) 0 (i4 (fr x)) = _ from key (sz x) (fr x) FU 0 (by omega) (by omega), Nat.zero_add]
  rfl
theorem C_run0 (hW : WFs a) (hD : WFd a d) (hS : RCd a d S) (T : Nat → Bool) {thr : Nat} (ht : thr < 100000) : ∀ (n x r fu sp : Nat) (hn : HN) (fr sz : Nat → Nat), x + n = 47 → n < fu → GR hn (rnk T (AS_nF a)) (x + r) fr sz → x + r + sumR (fun i => 2 * sz i - 2) r x ≤ 47 → (∀ i, i < rnk T (AS_nF a) → HN_numbers hn i = i4 (nmN T (AS_nF a) i)) → HN_sprayed hn = i4 sp →
    ∃ hn', f0_run_B32 lY S fu hn (i4 thr) (i4 x) = some hn' ∧ HN_sprayed hn' = i4 (sp + sumR (fun i => hct thr (sgS T (AD_lk d) (AS_nF a)) 24 (fr i) (sz i)) r x) ∧ ∀ j, j < 32 → bit (HN_foundSet hn') j = (bit (HN_foundSet hn) j || anyF (fun i => hst thr (sgS T (AD_lk d) (AS_nF a)) (nmN T (AS_nF a)) 24 (fr i) (sz i) j) r x) := by
  intro n
  have hN := hW.1
  have hr := rnk_le T (AS_nF a)
  induction n with
  | zero =>
    intro x r fu sp hn fr sz hx hf hG hp hnm hsp
    obtain ⟨q, rfl, -⟩ := fuS hf
    obtain rfl : r = 0 := by omega
    rw [f0_run_B32, hG.1, if_pos ((i4_le (by omega) (by omega)).mpr (by omega))]
    exact ⟨hn, rfl, hsp, fun j _ => (Bool.or_false _).symm⟩
  | succ n ih =>
    intro x r fu sp hn fr sz hx hf hG hp hnm hsp
    obtain ⟨q, rfl, -⟩ := fuS hf
    cases r with
    | zero =>
      rw [f0_run_B32, hG.1, if_pos ((i4_le (by omega) (by omega)).mpr (by omega))]
      exact ⟨hn, rfl, hsp, fun j _ => (Bool.or_false _).symm⟩
    | succ r =>
      have hxG : x < x + (r + 1) := by omega
      obtain ⟨g1, g2, g3, g4⟩ := hG.2 x hxG
      have hsum := C_sumOf (hn := HN_set_sprayed hn (i4 (sp + 1))) hW hD hS T (h := hG) hxG (by omega) hnm
      have hle := sgS_le hW hD T g4
      rw [f0_run_B32, hG.1, if_neg (fun h => by have := (i4_le (by omega) (by omega)).mp h; omega), if_neg (show ¬ ((47 : Int32) ≤ i4 x) from fun h => by have := (i4_le (a := 47) (by omega) (by omega)).mp h; omega), hsp, ad1, hsum, sbind, ad1]
      rw [show sumR (fun i => 2 * sz i - 2) (r + 1) x = (2 * sz x - 2) + sumR (fun i => 2 * sz i - 2) r (x + 1) from rfl] at hp
      have hG1 : GR (HN_set_sprayed hn (i4 (sp + 1))) (rnk T (AS_nF a)) (x + 1 + r) fr sz := by
        rw [show x + 1 + r = x + (r + 1) by omega]
        exact hG
      by_cases hc : thr ≤ sgS T (AD_lk d) (AS_nF a) (fr x) (sz x)
      · rw [if_pos ((i4_le (by omega) (by omega)).mpr hc), gdi _ (by omega) (by omega), ix4 (by omega), g2, g1]
        by_cases h1 : sz x = 1
        · have hin := nm_spec T (F := AS_nF a) (i := fr x) (by omega)
          rw [h1, if_pos (show i4 1 = (1 : Int32) from rfl), gdi _ (by omega) (by omega), ix4 (by omega), hnm (fr x) (by omega)]
          obtain ⟨hn', e, f1, f2⟩ := ih (x + 1) r q (sp + 1) (HN_set_foundSet (HN_set_sprayed hn (i4 (sp + 1))) (HN_foundSet hn ||| (1 <<< (i4 (nmN T (AS_nF a) (fr x)) &&& 31)))) fr sz (by omega) (by omega) hG1 (by omega) hnm rfl
          refine ⟨hn', e, ?_, fun j hj => ?_⟩
          · rw [f1]
            show _ = i4 (sp + (hct thr (sgS T (AD_lk d) (AS_nF a)) 24 (fr x) (sz x) + sumR (fun i => hct thr (sgS T (AD_lk d) (AS_nF a)) 24 (fr i) (sz i)) r (x + 1)))
            rw [hct_1 (by omega) (fun h => h.2 h1)]
            congr 1
            omega
          · rw [f2 j hj]
            show (bit (HN_foundSet hn ||| (1 <<< (i4 (nmN T (AS_nF a) (fr x)) &&& 31))) j || _) = (bit (HN_foundSet hn) j || (hst thr (sgS T (AD_lk d) (AS_nF a)) (nmN T (AS_nF a)) 24 (fr x) (sz x) j || _))
            rw [bit_or, bit_one_shl (by omega), h1, hst_1 (by rw [h1] at hc; exact hc), Bool.or_assoc]
        · have hG2 : x + (r + 1) < 47 ∧ x + (r + 1) + 1 < 47 := by omega
          rw [if_neg (show ¬ (i4 (sz x) = (1 : Int32)) from fun h => h1 ((i4_eq (b := 1) (by omega) (by omega)).mp h)), show i4 (sz x) / 2 = i4 (sz x / 2) from i4_div (b := 2) (by omega) (by omega), i4_sub (by omega)]
          obtain ⟨u1, e1, G1, n1, s1, t1⟩ := C_addG (by omega) hG1 (by omega) (f := fr x) (s := sz x - sz x / 2) (by omega) (by omega)
          rw [e1, sbind]
          have g5 := (G1.2 x (by omega)).1
          rw [setN_ne _ _ (by omega)] at g5
          rw [g5, i4_add]
          obtain ⟨u2, e2, G2, n2, s2, t2⟩ := C_addG (by omega) G1 (by omega) (f := fr x + (sz x - sz x / 2)) (s := sz x / 2) (by omega) (by omega)
          rw [e2, sbind]
          have ho : ∀ i, x + 1 ≤ i → i < x + 1 + r → setN (setN fr (x + 1 + r) (fr x)) (x + 1 + r + 1) (fr x + (sz x - sz x / 2)) i = fr i ∧ setN (setN sz (x + 1 + r) (sz x - sz x / 2)) (x + 1 + r + 1) (sz x / 2) i = sz i := by
            intro i h1 h2
            rw [setN_ne _ _ (by omega), setN_ne _ _ (by omega), setN_ne _ _ (by omega), setN_ne _ _ (by omega)]
            exact ⟨rfl, rfl⟩
          have ea : setN (setN fr (x + 1 + r) (fr x)) (x + 1 + r + 1) (fr x + (sz x - sz x / 2)) (x + 1 + r) = fr x ∧ setN (setN sz (x + 1 + r) (sz x - sz x / 2)) (x + 1 + r + 1) (sz x / 2) (x + 1 + r) = sz x - sz x / 2 := by
            rw [setN_ne _ _ (by omega), setN_self, setN_ne _ _ (by omega), setN_self]
            exact ⟨rfl, rfl⟩
          have eb : setN (setN fr (x + 1 + r) (fr x)) (x + 1 + r + 1) (fr x + (sz x - sz x / 2)) (x + 1 + (r + 1)) = fr x + (sz x - sz x / 2) ∧ setN (setN sz (x + 1 + r) (sz x - sz x / 2)) (x + 1 + r + 1) (sz x / 2) (x + 1 + (r + 1)) = sz x / 2 := by
            rw [show x + 1 + (r + 1) = x + 1 + r + 1 by omega, setN_self, setN_self]
            exact ⟨rfl, rfl⟩
          have sums : ∀ g : Nat → Nat → Nat, sumR (fun i => g (setN (setN fr (x + 1 + r) (fr x)) (x + 1 + r + 1) (fr x + (sz x - sz x / 2)) i) (setN (setN sz (x + 1 + r) (sz x - sz x / 2)) (x + 1 + r + 1) (sz x / 2) i)) (r + 1 + 1) (x + 1) = sumR (fun i => g (fr i) (sz i)) r (x + 1) + g (fr x) (sz x - sz x / 2) + g (fr x + (sz x - sz x / 2)) (sz x / 2) := by
            intro g
            rw [sumR_last, sumR_last, ea.1, ea.2, eb.1, eb.2]
            rw [sumR_congr (g := fun i => g (fr i) (sz i)) (fun i h1 h2 => by rw [(ho i h1 h2).1, (ho i h1 h2).2])]
          obtain ⟨hn', e, f1, f2⟩ := ih (x + 1) (r + 1 + 1) q (sp + 1) u2 _ _ (by omega) (by omega) (by rw [show x + 1 + (r + 1 + 1) = x + 1 + r + 1 + 1 by omega]; exact G2) (by
            rw [sums (fun _ s => 2 * s - 2)]
            omega) (fun i hi => by rw [n2, n1]; exact hnm i hi) (by rw [s2, s1]; rfl)
          refine ⟨hn', e, ?_, fun j hj => ?_⟩
          · rw [f1, sums (fun f s => hct thr (sgS T (AD_lk d) (AS_nF a)) 24 f s)]
            show _ = i4 (sp + (hct thr (sgS T (AD_lk d) (AS_nF a)) 24 (fr x) (sz x) + sumR (fun i => hct thr (sgS T (AD_lk d) (AS_nF a)) 24 (fr i) (sz i)) r (x + 1)))
            rw [hct_2 (by omega) (by omega) hc]
            congr 1
            omega
          · rw [f2 j hj, t2, t1, anyF_last, anyF_last, ea.1, ea.2, eb.1, eb.2, anyF_congr (q := fun i => hst thr (sgS T (AD_lk d) (AS_nF a)) (nmN T (AS_nF a)) 24 (fr i) (sz i) j) (fun i h1 h2 => by rw [(ho i h1 h2).1, (ho i h1 h2).2])]
            show (bit (HN_foundSet hn) j || _) = (bit (HN_foundSet hn) j || (hst thr (sgS T (AD_lk d) (AS_nF a)) (nmN T (AS_nF a)) 24 (fr x) (sz x) j || _))
            rw [hst_2 (by omega) (by omega) hc]
            congr 1
            rw [Bool.or_assoc, Bool.or_comm]
      · rw [if_neg (fun h => hc ((i4_le (by omega) (by omega)).mp h))]
        obtain ⟨hn', e, f1, f2⟩ := ih (x + 1) r q (sp + 1) (HN_set_sprayed hn (i4 (sp + 1))) fr sz (by omega) (by omega) hG1 (by omega) hnm rfl
        refine ⟨hn', e, ?_, fun j hj => ?_⟩
        · rw [f1]
          show _ = i4 (sp + (hct thr (sgS T (AD_lk d) (AS_nF a)) 24 (fr x) (sz x) + sumR (fun i => hct thr (sgS T (AD_lk d) (AS_nF a)) 24 (fr i) (sz i)) r (x + 1)))
          rw [hct_1 (by omega) (fun h => hc h.1)]
          congr 1
          omega
        · rw [f2 j hj]
          show _ = (bit (HN_foundSet hn) j || (hst thr (sgS T (AD_lk d) (AS_nF a)) (nmN T (AS_nF a)) 24 (fr x) (sz x) j || _))
          rw [hst_0 hc, Bool.false_or]
          rfl
/-- the class's whole hunt -/
theorem C_run (hW : WFs a) (hD : WFd a d) (hL : RCs a lY) (hS : RCd a d S) (hn : HN) {c thr : Nat} (hc : c < AS_nC a) (ht : thr < 100000) :
    ∃ hn', f0_run lY S hn (i4 c) (i4 thr) = some hn' ∧ HN_sprayed hn' = i4 (hct thr (sgS (toF a c) (AD_lk d) (AS_nF a)) 24 0 (rnk (toF a c) (AS_nF a))) ∧ ∀ j, j < 32 → bit (HN_foundSet hn') j = hst thr (sgS (toF a c) (AD_lk d) (AS_nF a)) (nmN (toF a c) (AS_nF a)) 24 0 (rnk (toF a c) (AS_nF a)) j := by
  have hN := hW.1
  have := FU_eq
  have hr := rnk_le (toF a c) (AS_nF a)
  obtain ⟨u, e, g1, g2, g3, g4⟩ := C_collect hW hL hc (AS_nF a) 0 FU (HN_set_foundSet (HN_set_sprayed (HN_set_groups hn 0) 0) 0) (by omega) (by omega) (fun i hi => absurd hi (Nat.not_lt_zero i))
  unfold f0_run f0_collect
  rw [show f0_collect_B5 lY FU (HN_set_foundSet (HN_set_sprayed (HN_set_groups hn 0) 0) 0) (i4 c) 0 0 = _ from e, sbind]
  dsimp only
  have hG0 : GR u (rnk (toF a c) (AS_nF a)) 0 (fun _ => 0) (fun _ => 0) := ⟨g2.trans rfl, fun i hi => absurd hi (Nat.not_lt_zero i)⟩
  by_cases h0 : rnk (toF a c) (AS_nF a) = 0
  · obtain ⟨hn', e', f1, f2⟩ := C_run0 (lY := lY) hW hD hS (toF a c) ht 47 0 0 FU 0 u _ _ (by omega) (by omega) hG0 (by show 0 + 0 + 0 ≤ 47; omega) g1 (g3.trans rfl)
    refine ⟨hn', ?_, ?_, fun j hj => ?_⟩
    · unfold f0_addGroup
      rw [if_pos (show i4 (rnk (toF a c) (AS_nF a)) ≤ (0 : Int32) from (i4_le (b := 0) (by omega) (by omega)).mpr (by omega)), sbind]
      exact e'
    · rw [f1, h0]; rfl
    · rw [f2 j hj, h0, g4]
      show (bit 0 j || false) = _
      rw [bit_zero]; rfl
  · obtain ⟨u1, e1, G1, n1, s1, t1⟩ := C_addG (by omega) hG0 (by omega) (f := 0) (s := rnk (toF a c) (AS_nF a)) (by omega) (by omega)
    obtain ⟨hn', e', f1, f2⟩ := C_run0 (lY := lY) hW hD hS (toF a c) ht 47 0 1 FU 0 u1 _ _ (by omega) (by omega) G1 (by
      show 0 + 1 + ((2 * setN (fun _ => 0) 0 (rnk (toF a c) (AS_nF a)) 0 - 2) + 0) ≤ 47
      rw [setN_self]
      omega) (fun i hi => by rw [n1]; exact g1 i hi) (s1.trans (g3.trans rfl))
    refine ⟨hn', ?_, ?_, fun j hj => ?_⟩
    · rw [show f0_addGroup u 0 (i4 (rnk (toF a c) (AS_nF a))) = _ from e1, sbind]
      exact e'
    · rw [f1]
      show i4 (0 + (hct thr _ 24 (setN (fun _ => 0) 0 0 0) (setN (fun _ => 0) 0 (rnk (toF a c) (AS_nF a)) 0) + 0)) = _
      rw [setN_self, setN_self, Nat.add_zero, Nat.zero_add]
    · rw [f2 j hj, t1, g4]
      show (bit 0 j || (hst thr _ _ 24 (setN (fun _ => 0) 0 0 0) (setN (fun _ => 0) 0 (rnk (toF a c) (AS_nF a)) 0) j || false)) = _
      rw [setN_self, setN_self, bit_zero, Bool.false_or, Bool.or_false]
theorem mskN_congr {p q : Nat → Bool} : ∀ {n : Nat}, (∀ i, i < n → p i = q i) → mskN p n = mskN q n
  | 0, _ => rfl
  | n + 1, h => by
    unfold mskN
    rw [h n (by omega), mskN_congr (n := n) (fun i hi => h i (by omega))]
theorem M_run' (hW : WFs a) (hD : WFd a d) (hA : RMs a w) (hB : RMd a d w) (mh : MH) {c thr : Nat} (hc : c < AS_nC a) (ht : thr < 100000) :
    ∃ mh', f10_isNoHunt_B53 w FU th mh (i4 c) (i4 thr) 0 0 = some (0, th, mh') ∧ MH_sprayed mh' = i4 (hct thr (sgS (toF a c) (AD_lk d) (AS_nF a)) 24 0 (rnk (toF a c) (AS_nF a))) ∧ ∀ j, j < 32 → bit (MH_foundSet mh') j = hst thr (sgS (toF a c) (AD_lk d) (AS_nF a)) (nmN (toF a c) (AS_nF a)) 24 0 (rnk (toF a c) (AS_nF a)) j := by
  have hN := hW.1
  have := FU_eq
  have hr := rnk_le (toF a c) (AS_nF a)
  obtain ⟨m1, e1, f1, f2⟩ := M_hunt hW hD hA hB (toF a c) ht 11 0 (rnk (toF a c) (AS_nF a)) 0 (MH_set_foundSet (MH_set_sprayed mh 0) 0) (by omega) (by omega) rfl
  have em : sgm (toF a c) (AS_nF a) 0 (rnk (toF a c) (AS_nF a)) = mskN (toF a c) (AS_nF a) := by
    unfold sgm
    refine mskN_congr (fun i hi => ?_)
    unfold sgP
    cases hT : toF a c i with
    | false => rfl
    | true =>
      have h1 := rnk_mono (toF a c) (F := i + 1) (G := AS_nF a) (by omega)
      rw [rnk_y hT] at h1
      rw [decide_eq_true (Nat.zero_le _), decide_eq_true (show rnk (toF a c) i < 0 + rnk (toF a c) (AS_nF a) by omega)]
      rfl
  rw [em] at e1
  have key : ∀ (n v fu : Nat), v + n = AS_nF a → n < fu → f10_isNoHunt_B53 w fu th mh (i4 c) (i4 thr) (mskN (toF a c) v) (i4 v) = some (0, th, m1) := by
    intro n
    induction n with
    | zero =>
      intro v fu hv hf
      obtain ⟨q, rfl, -⟩ := fuS hf
      rw [f10_isNoHunt_B53, M_nF hA, sbind, if_pos ((i4_le (by omega) (by omega)).mpr (by omega)), show v = AS_nF a by omega, show f10_hunt w 12 _ _ _ = _ from e1, sbind]
    | succ n ih =>
      intro v fu hv hf
      obtain ⟨q, rfl, -⟩ := fuS hf
      have hvl : v < AS_nF a := by omega
      have hH := hW.2.2.2.2 v hvl
      rw [f10_isNoHunt_B53, M_nF hA, sbind, if_neg (fun h => by have := (i4_le (by omega) (by omega)).mp h; omega), at_f, sbind, ad0, gdi _ (by omega) (by omega), ix4 (by omega), hA.2.2.2.2 v hvl, i4_to8 (by omega), ad1]
      by_cases hT : AS_fH a v = c
      · rw [if_pos ((i8_eq (by omega) (by omega)).mpr hT), mskN_y (show toF a c v = true from decide_eq_true hT)]
        exact ih (v + 1) q (by omega) (by omega)
      · rw [if_neg (fun h => hT ((i8_eq (by omega) (by omega)).mp h)), Int32.or_zero, mskN_n (show ¬ toF a c v = true from fun h => hT (of_decide_eq_true h))]
        exact ih (v + 1) q (by omega) (by omega)
  refine ⟨m1, key (AS_nF a) 0 FU (by omega) (by omega), ?_, fun j hj => ?_⟩
  · rw [f1, Nat.zero_add]
  · rw [f2 j hj]
    show (bit 0 j || _) = _
    rw [bit_zero, Bool.false_or]
def GOODh (r1 : Int32 × (HN) × (Nat → Int64)) (r2 : Int32 × (Int32) × (MH)) : Prop := r2.2.1 = r1.1 ∧ (r1.1 = 0 → r1.2.2 (ix 0) = r2.1.toInt64)
theorem rng_cases (y : Int32) : (∃ n, 1 ≤ n ∧ n ≤ 9999 ∧ y = i4 n) ∨ ¬ (1 ≤ y.toInt ∧ y.toInt ≤ 9999) := by
  by_cases h : 1 ≤ y.toInt ∧ y.toInt ≤ 9999
  · refine Or.inl ⟨n4 y, ?_, ?_, (i4_n4 (by omega)).symm⟩ <;> unfold n4 <;> omega
  · exact Or.inr h
theorem S_hunts (hI : INVd a d lY tp st w mu) (hn : HN) (mh : MH) (x y : Int32) :
    (∃ r1 r2, fL_sprays lY tp st hn ou x y = some r1 ∧ f10_sprays w th mh x y = some r2 ∧ GOODh r1 r2) ∧ (∃ r1 r2, fL_found lY tp st hn ou x y = some r1 ∧ f10_found w th mh x y = some r2 ∧ GOODh r1 r2) := by
  obtain ⟨⟨hW, hD, hL, hS⟩, hA, hB, -⟩ := hI
  rcases in_cases x (AS_nC a) with ⟨v, hv, hv2, rfl⟩ | hx
  · rcases rng_cases y with ⟨n, h1, h2, rfl⟩ | hy
    · obtain ⟨hn', e1, f1, g1⟩ := C_run hW hD hL hS hn hv (thr := n) (by omega)
      obtain ⟨mh', e2, f2, g2⟩ := M_run' (th := 0) hW hD hA hB mh hv (thr := n) (by omega)
      have cl : ¬ (i4 n < (1 : Int32)) := fun q => by have := (i4_lt (b := 1) (by omega) (by omega)).mp q; omega
      have cu : i4 n ≤ (9999 : Int32) := (i4_le (b := 9999) (by omega) (by omega)).mpr h2
      have em : f10_isNoHunt w th mh (i4 v) (i4 n) = some (0, 0, mh') := by
        unfold f10_isNoHunt
        rw [M_isC_y hW hA hv, sbind, fails_y, sbind]
        dsimp only
        rw [if_pos rfl, M_in_y (by rw [show (1 : Int64).toInt = 1 by decide, i4_toInt (by omega)]; omega) (by rw [show (9999 : Int64).toInt = 9999 by decide, i4_toInt (by omega)]; omega), sbind, fails_y, sbind]
        dsimp only
        rw [if_pos rfl]
        exact e2
      refine ⟨⟨(0, hn', vp_updL ou (ix 0) (HN_sprayed hn').toInt64), (MH_sprayed mh', 0, mh'), ?_, ?_, rfl, fun _ => ?_⟩, ⟨(0, hn', vp_updL ou (ix 0) (HN_foundSet hn').toInt64), (MH_foundSet mh', 0, mh'), ?_, ?_, rfl, fun _ => ?_⟩⟩
      · unfold fL_sprays f9_sprays
        rw [C_hasC_y hW hL hv, sbind, if_neg one_ne, if_neg cl, if_pos cu, e1]
        rfl
      · unfold f10_sprays
        rw [em, sbind]
        rfl
      · show vp_updL ou (ix 0) (HN_sprayed hn').toInt64 (ix 0) = (MH_sprayed mh').toInt64
        rw [updL_self, f1, f2]
      · unfold fL_found f9_found
        rw [C_hasC_y hW hL hv, sbind, if_neg one_ne, if_neg cl, if_pos cu, e1]
        rfl
      · unfold f10_found
        rw [em, sbind]
        rfl
      · show vp_updL ou (ix 0) (HN_foundSet hn').toInt64 (ix 0) = (MH_foundSet mh').toInt64
        rw [updL_self, show HN_foundSet hn' = MH_foundSet mh' from bit_ext (fun j hj => by rw [g1 j hj, g2 j hj])]
    · have em : f10_isNoHunt w th mh (i4 v) y = some (1, 2, mh) := by
        unfold f10_isNoHunt
        rw [M_isC_y hW hA hv, sbind, fails_y, sbind]
        dsimp only
        rw [if_pos rfl, M_in_n (by rw [show (1 : Int64).toInt = 1 by decide, show (9999 : Int64).toInt = 9999 by decide]; exact hy), sbind, fails_n, sbind]
        dsimp only
        rw [if_neg one_ne]
      have cls : ∀ {X Y : Option ((Int32 ⊕ Nat) × (HN))}, (if y < 1 then some ((Sum.inr 1 : Int32 ⊕ Nat), hn) else if y ≤ 9999 then X else some (Sum.inr 1, hn)) = some (Sum.inr 1, hn) := by
        intro X Y
        by_cases q1 : y < 1
        · rw [if_pos q1]
        · rw [if_neg q1]
          rw [Int32.lt_iff_toInt_lt, show (1 : Int32).toInt = 1 by decide] at q1
          rw [if_neg (show ¬ (y ≤ (9999 : Int32)) from fun q => by rw [Int32.le_iff_toInt_le, show (9999 : Int32).toInt = 9999 by decide] at q; omega)]
      refine ⟨⟨(2, hn, ou), (0, 2, mh), ?_, ?_, rfl, fun h => absurd (show (2 : Int32) = 0 from h) (by decide)⟩, ⟨(2, hn, ou), (0, 2, mh), ?_, ?_, rfl, fun h => absurd (show (2 : Int32) = 0 from h) (by decide)⟩⟩
      · unfold fL_sprays f9_sprays
        rw [C_hasC_y hW hL hv, sbind, if_neg one_ne, cls (Y := none)]
        rfl
      · unfold f10_sprays
        rw [em, sbind]
        rfl
      · unfold fL_found f9_found
        rw [C_hasC_y hW hL hv, sbind, if_neg one_ne, cls (Y := none)]
        rfl
      · unfold f10_found
        rw [em, sbind]
        rfl
  · have em : f10_isNoHunt w th mh x y = some (1, 1, mh) := by
      unfold f10_isNoHunt
      rw [M_isC_n hW hA hx, sbind, fails_n, sbind]
      dsimp only
      rw [if_neg one_ne]
    refine ⟨⟨(1, hn, ou), (0, 1, mh), ?_, ?_, rfl, fun h => absurd h one_ne⟩, ⟨(1, hn, ou), (0, 1, mh), ?_, ?_, rfl, fun h => absurd h one_ne⟩⟩
    · unfold fL_sprays f9_sprays
      rw [C_hasC_n hW hL hx, sbind, if_pos rfl]
      rfl
    · unfold f10_sprays
      rw [em, sbind]
      rfl
    · unfold fL_found f9_found
      rw [C_hasC_n hW hL hx, sbind, if_pos rfl]
      rfl
    · unfold f10_found
      rw [em, sbind]
      rfl
/-! one spray, the worst flange -/
theorem allf_bit : ∀ n, n < 25 → ∀ j, j < 32 → bit ((1 <<< (i4 n &&& 31)) - 1) j = decide (j < n) := by decide +kernel
theorem allf_8 : ∀ n, n < 25 → ((1 : Int64) <<< ((i4 n).toInt64 &&& 63)) - 1 = i8 (2 ^ n - 1) := by decide +kernel
theorem sub_iff {x : Int32} {n : Nat} (hn : n < 25) : (x &&& (((1 <<< (i4 n &&& 31)) - 1) ^^^ (-1))) = 0 ↔ (0 ≤ x.toInt ∧ x.toInt ≤ ((2 ^ n - 1 : Nat) : Int)) := by
  have hp : 2 ^ n ≤ 2 ^ 24 := Nat.pow_le_pow_right (by omega) (by omega)
  have hp1 : 0 < 2 ^ n := Nat.pos_of_ne_zero (by simp)
  have e1 : (x &&& (((1 <<< (i4 n &&& 31)) - 1) ^^^ (-1))) = 0 ↔ ∀ j, n ≤ j → j < 32 → bit x j = false := by
    rw [int0_bits]
    refine ⟨fun h j h1 h2 => ?_, fun h j hj => ?_⟩
    · have := h j h2
      rw [bit_and, bit_not _ h2, allf_bit n hn j h2, decide_eq_false (by omega)] at this
      simpa using this
    · rw [bit_and, bit_not _ hj, allf_bit n hn j hj]
      by_cases h2 : j < n
      · rw [decide_eq_true h2]; simp
      · rw [h j (by omega) hj, Bool.false_and]
  have e2 : (∀ j, n ≤ j → j < 32 → bit x j = false) ↔ x.toBitVec.toNat < 2 ^ n := by
    refine ⟨fun h => Nat.lt_pow_two_of_testBit _ (fun j hj => ?_), fun h j h1 h2 => ?_⟩
    · by_cases h2 : j < 32
      · exact h j hj h2
      · exact bit_ge x (by omega)
    · show x.toBitVec.toNat.testBit j = false
      exact Nat.testBit_lt_two_pow (Nat.lt_of_lt_of_le h (Nat.pow_le_pow_right (by omega) h1))
  have e3 : x.toInt = if 2 * x.toBitVec.toNat < 2 ^ 32 then (x.toBitVec.toNat : Int) else (x.toBitVec.toNat : Int) - ((2 ^ 32 : Nat) : Int) := BitVec.toInt_eq_toNat_cond x.toBitVec
  have e4 := x.toBitVec.isLt
  rw [e1, e2, e3]
  split <;> omega
theorem S_spray (hI : INVd a d lY tp st w mu) (x : Int32) : ∃ r1 r2, fL_spray lY tp st ou x = some r1 ∧ f10_spray w th x = some r2 ∧ GOODv r1 r2 := by
  obtain ⟨⟨hW, hD, hL, hS⟩, hA, hB, -⟩ := hI
  have hN := hW.1
  have := FU_eq
  have hp : 2 ^ AS_nF a ≤ 2 ^ 24 := Nat.pow_le_pow_right (by omega) (by omega)
  have hhi : ((1 : Int64) <<< (((w (ix 3)).toInt32).toInt64 &&& 63)) - 1 = i8 (2 ^ AS_nF a - 1) := by
    rw [show w (ix 3) = i8 (AS_nF a) from hA.1.2.2.2, i8_to4]
    exact allf_8 _ (by omega)
  by_cases hx : 0 ≤ x.toInt ∧ x.toInt ≤ ((2 ^ AS_nF a - 1 : Nat) : Int)
  · have key : ∀ (n v fu : Nat), v + n = AS_nF a → n < fu → f9_spray_B26 lY tp st fu x (i4 (sumN (fun f => if bit x f = true then AD_lk d f else 0) v)) (i4 v) = some (.inl (i4 (sumN (fun f => if bit x f = true then AD_lk d f else 0) (AS_nF a)))) := by
      intro n
      induction n with
      | zero =>
        intro v fu hv hf
        obtain ⟨q, rfl, -⟩ := fuS hf
        rw [f9_spray_B26, hL.1.2.2.2, if_pos ((i4_le (by omega) (by omega)).mpr (by omega)), show v = AS_nF a by omega]
      | succ n ih =>
        intro v fu hv hf
        obtain ⟨q, rfl, -⟩ := fuS hf
        have hvl : v < AS_nF a := by omega
        have ih' := ih (v + 1) q (by omega) (by omega)
        rw [f9_spray_B26, hL.1.2.2.2, if_neg (fun h => by have := (i4_le (by omega) (by omega)).mp h; omega), C_has _ (by omega), sbind, ad1]
        rw [show sumN (fun f => if bit x f = true then AD_lk d f else 0) (v + 1) = sumN (fun f => if bit x f = true then AD_lk d f else 0) v + (if bit x v = true then AD_lk d v else 0) from rfl] at ih'
        by_cases h : bit x v = true
        · rw [if_pos h] at ih'
          rw [if_pos h, if_neg one_ne, gdi _ (by omega) (by omega), ix4 (by omega), hS.2.2.2.1.2 v hvl, i4_add]
          exact ih'
        · rw [if_neg h] at ih'
          rw [if_neg h, if_pos rfl]
          exact ih'
    refine YES_v (ou := ou) (i4 (sumN (fun f => if bit x f = true then AD_lk d f else 0) (AS_nF a))) ?_ ?_
    · unfold fL_spray f9_spray f1_allFlanges
      rw [sbind, hL.1.2.2.2, if_pos ((sub_iff (by omega)).mpr hx), show f9_spray_B26 lY tp st FU x 0 0 = _ from key (AS_nF a) 0 FU (by omega) (by omega)]
      rfl
    · unfold f10_spray
      rw [hhi, M_in_y (by rw [z8]; exact hx.1) (by rw [i8_toInt (by omega)]; exact hx.2), sbind, fails_y, sbind]
      dsimp only
      rw [if_pos rfl, M_leaksOf hW hA hB, sbind, i8_to4]
  · refine NO_v (ou := ou) 1 (by decide) ?_ ?_
    · unfold fL_spray f9_spray f1_allFlanges
      rw [sbind, hL.1.2.2.2, if_neg (fun h => hx ((sub_iff (by omega)).mp h))]
      rfl
    · unfold f10_spray
      rw [hhi, M_in_n (by rw [z8, i8_toInt (by omega)]; exact hx), sbind, fails_n, sbind]
      dsimp only
      rw [if_neg one_ne]
def wrs (d : AD) (f : Nat) (b : Nat) : Nat := if AD_lk d f ≤ AD_lk d b then b else f
theorem S_worstFlange (hI : INVd a d lY tp st w mu) : ∃ r1 r2, fL_worstFlange lY tp st ou = some r1 ∧ f10_worstFlange w th = some r2 ∧ GOODv r1 r2 := by
  obtain ⟨⟨hW, hD, hL, hS⟩, hA, hB, -⟩ := hI
  have hN := hW.1
  have := FU_eq
  have hw3 : w (ix 3) = i8 (AS_nF a) := hA.1.2.2.2
  by_cases h0 : AS_nF a = 0
  · refine NO_v (ou := ou) 1 (by decide) ?_ ?_
    · unfold fL_worstFlange f9_worstFlange
      rw [hL.1.2.2.2, h0, if_pos (show i4 0 = (0 : Int32) from rfl)]
      rfl
    · unfold f10_worstFlange
      rw [hw3, h0, if_pos (show i8 0 = (0 : Int64) from rfl)]
      rfl
  · have kC : ∀ (n v fu b : Nat), v + n = AS_nF a → n < fu → b < AS_nF a → f9_worstFlange_B22 lY tp st fu (i4 b) (i4 v) = some (.inl (i4 (goN (wrs d) n v b))) := by
      intro n
      induction n with
      | zero =>
        intro v fu b hv hf hb
        obtain ⟨q, rfl, -⟩ := fuS hf
        rw [f9_worstFlange_B22, hL.1.2.2.2, if_pos ((i4_le (by omega) (by omega)).mpr (by omega))]
        rfl
      | succ n ih =>
        intro v fu b hv hf hb
        obtain ⟨q, rfl, -⟩ := fuS hf
        have hvl : v < AS_nF a := by omega
        have q1 := hD.2.2.1 v hvl
        have q2 := hD.2.2.1 b hb
        rw [f9_worstFlange_B22, hL.1.2.2.2, if_neg (fun h => by have := (i4_le (by omega) (by omega)).mp h; omega), gdi _ (by omega) (by omega), gdi _ (by omega) (by omega), ix4 (by omega), ix4 (by omega), hS.2.2.2.1.2 v hvl, hS.2.2.2.1.2 b hb, ad1, goN_succ]
        unfold wrs
        by_cases h : AD_lk d v ≤ AD_lk d b
        · rw [if_pos ((i4_le (by omega) (by omega)).mpr h), if_pos h]
          exact ih (v + 1) q b (by omega) (by omega) hb
        · rw [if_neg (fun z => h ((i4_le (by omega) (by omega)).mp z)), if_neg h]
          exact ih (v + 1) q v (by omega) (by omega) hvl
    have kM : ∀ (n v fu b : Nat), v + n = AS_nF a → n < fu → b < AS_nF a → f10_worstFlange_B30 w fu 0 (i4 b) (i4 v) = some (i4 (goN (wrs d) n v b), 0) := by
      intro n
      induction n with
      | zero =>
        intro v fu b hv hf hb
        obtain ⟨q, rfl, -⟩ := fuS hf
        rw [f10_worstFlange_B30, M_nF hA, sbind, if_pos ((i4_le (by omega) (by omega)).mpr (by omega))]
        rfl
      | succ n ih =>
        intro v fu b hv hf hb
        obtain ⟨q, rfl, -⟩ := fuS hf
        have hvl : v < AS_nF a := by omega
        have q1 := hD.2.2.1 v hvl
        have q2 := hD.2.2.1 b hb
        rw [f10_worstFlange_B30, M_nF hA, sbind, if_neg (fun h => by have := (i4_le (by omega) (by omega)).mp h; omega), at_f, sbind, ad1, gdi _ (by omega) (by omega), at_f, sbind, ad1, gdi _ (by omega) (by omega), ix4 (by omega), ix4 (by omega), hB.2.2.2.2.1 v hvl, hB.2.2.2.2.1 b hb, ad1, goN_succ]
        unfold wrs
        by_cases h : AD_lk d v ≤ AD_lk d b
        · rw [if_pos ((i8_le (by omega) (by omega)).mpr h), if_pos h]
          exact ih (v + 1) q b (by omega) (by omega) hb
        · rw [if_neg (fun z => h ((i8_le (by omega) (by omega)).mp z)), if_neg h]
          exact ih (v + 1) q v (by omega) (by omega) hvl
    refine YES_v (ou := ou) (i4 (goN (wrs d) (AS_nF a - 1) 1 0)) ?_ ?_
    · unfold fL_worstFlange f9_worstFlange
      rw [hL.1.2.2.2, if_neg (show ¬ (i4 (AS_nF a) = (0 : Int32)) from fun h => h0 ((i4_eq (b := 0) (by omega) (by omega)).mp h)), show f9_worstFlange_B22 lY tp st FU 0 1 = _ from kC (AS_nF a - 1) 1 FU 0 (by omega) (by omega) (by omega)]
      rfl
    · unfold f10_worstFlange
      rw [hw3, if_neg (show ¬ (i8 (AS_nF a) = (0 : Int64)) from fun h => h0 ((i8_eq (b := 0) (by omega) (by omega)).mp h)), show f10_fails th 0 1 = some (0, 0) from rfl, sbind]
      dsimp only
      rw [if_pos rfl]
      exact kM (AS_nF a - 1) 1 FU 0 (by omega) (by omega) (by omega)
end HV
