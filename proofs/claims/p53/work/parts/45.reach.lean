/-! which chambers are joined -/
def or1 (b : Bool) (acc : Int32) (k : Nat) : Int32 := if b = true then acc ||| (1 <<< (i4 k &&& 31)) else acc
theorem bit_or1 (b : Bool) (acc : Int32) {k : Nat} (hk : k < 32) (j : Nat) : bit (or1 b acc k) j = (bit acc j || (b && decide (j = k))) := by
  unfold or1
  cases b
  · simp
  · rw [if_pos rfl, bit_or, bit_one_shl hk, Bool.true_and]
def grw1 (a : AS) (m : Nat → Bool) (x : Int32) (v : Nat) (acc : Int32) : Int32 := if m v = true then or1 (decide (AS_vB a v ≠ 8) && bit x (AS_vB a v)) (or1 (bit x (AS_vA a v)) acc (AS_vB a v)) (AS_vA a v) else acc
def bes1 (a : AS) (m : Nat → Bool) (x : Int32) (v : Nat) (acc : Int32) : Int32 := if m v = true ∧ AS_vB a v ≠ 8 then or1 (bit x (AS_vB a v)) (or1 (bit x (AS_vA a v)) acc (AS_vB a v)) (AS_vA a v) else acc
def grwF (a : AS) (m : Nat → Bool) (x : Int32) : Int32 := goN (grw1 a m x) (AS_nV a) 0 x
def besF (a : AS) (m : Nat → Bool) (x : Int32) : Int32 := goN (bes1 a m x) (AS_nV a) 0 x
def itN (f : Int32 → Int32) : Nat → Int32 → Int32
  | 0, x => x
  | n + 1, x => itN f n (f x)
theorem itN_succ (f : Int32 → Int32) : ∀ (n : Nat) (x : Int32), itN f (n + 1) x = f (itN f n x)
  | 0, _ => rfl
  | n + 1, x => itN_succ f n (f x)
theorem itN_fix {f : Int32 → Int32} {x : Int32} (h : f x = x) : ∀ n, itN f n x = x
  | 0 => rfl
  | n + 1 => by
    show itN f n (f x) = x
    rw [h]
    exact itN_fix h n
theorem itN_add (f : Int32 → Int32) : ∀ (m n : Nat) (x : Int32), itN f (m + n) x = itN f n (itN f m x)
  | 0, n, x => by rw [Nat.zero_add]; rfl
  | m + 1, n, x => by rw [show m + 1 + n = (m + n) + 1 by omega]; exact itN_add f m n (f x)
theorem goN_rel {σ τ : Type} {f : Nat → σ → σ} {g : Nat → τ → τ} {P : σ → τ → Prop} : ∀ {n v : Nat} {s : σ} {t : τ}, P s t → (∀ i s t, v ≤ i → i < v + n → P s t → P (f i s) (g i t)) → P (goN f n v s) (goN g n v t)
  | 0, _, _, _, h, _ => h
  | n + 1, v, _, _, h, st => goN_rel (n := n) (v := v + 1) (st v _ _ (Nat.le_refl v) (by omega) h) (fun i s t h1 h2 ht => st i s t (by omega) (by omega) ht)
/-- y is what x holds of the chambers -/
def R8 (x y : Int32) : Prop := ∀ j, j < 32 → bit y j = (decide (j < 8) && bit x j)
theorem R8_lo {x y : Int32} (h : R8 x y) {j : Nat} (hj : j < 8) : bit y j = bit x j := by
  rw [h j (by omega), decide_eq_true hj, Bool.true_and]
theorem R8_hi {x y : Int32} (h : R8 x y) {j : Nat} (hj : 8 ≤ j) : bit y j = false := by
  by_cases h2 : j < 32
  · rw [h j h2, decide_eq_false (by omega), Bool.false_and]
  · exact bit_ge _ (by omega)
theorem R8_or {x y : Int32} (h : R8 x y) {b : Bool} {k : Nat} (hk : k < 8) : R8 (or1 b x k) (or1 b y k) := by
  intro j hj
  rw [bit_or1 _ _ (by omega), bit_or1 _ _ (by omega), h j hj]
  by_cases h8 : j < 8
  · rw [decide_eq_true h8, Bool.true_and, Bool.true_and]
  · rw [decide_eq_false h8, Bool.false_and, Bool.false_and, show decide (j = k) = false from decide_eq_false (by omega), Bool.and_false]
    rfl
theorem R8_or8 {x y : Int32} (h : R8 x y) (b : Bool) : R8 (or1 b x 8) y := by
  intro j hj
  rw [bit_or1 _ _ (by omega), h j hj]
  by_cases h8 : j < 8
  · rw [show decide (j = 8) = false from decide_eq_false (by omega), Bool.and_false, Bool.or_false]
  · rw [decide_eq_false h8, Bool.false_and, Bool.false_and]
section RE
variable {a : AS} {d : AD} {ly : LL} {S : SS}
theorem R8_step (hW : WFs a) {m m' : Nat → Bool} {x y : Int32} (hx : R8 x y) {v : Nat} (hv : v < AS_nV a) (hm : m v = m' v) {p q : Int32} (hp : R8 p q) : R8 (grw1 a m x v p) (bes1 a m' y v q) := by
  have hN := hW.1
  obtain ⟨h1, h2, -⟩ := hW.2.2.2.1 v hv
  unfold grw1 bes1
  rw [← hm]
  by_cases hq : m v = true
  · rw [if_pos hq]
    by_cases h8 : AS_vB a v = 8
    · rw [if_neg (fun h => h.2 h8), show decide (AS_vB a v ≠ 8) = false from decide_eq_false (fun h => h h8), Bool.false_and, h8]
      exact R8_or8 hp _
    · rw [if_pos ⟨hq, h8⟩, show decide (AS_vB a v ≠ 8) = true from decide_eq_true h8, Bool.true_and, R8_lo hx (by omega), R8_lo hx (by omega)]
      exact R8_or (R8_or hp (by omega)) (by omega)
  · rw [if_neg hq, if_neg (fun h => hq h.1)]
    exact hp
theorem R8_grw (hW : WFs a) {m m' : Nat → Bool} (hm : ∀ v, v < AS_nV a → m v = m' v) {x y : Int32} (hx : R8 x y) : R8 (grwF a m x) (besF a m' y) :=
  goN_rel (P := R8) hx (fun i _ _ _ h2 hp => R8_step hW hx (by omega) (hm i (by omega)) hp)
theorem R8_it (hW : WFs a) {m m' : Nat → Bool} (hm : ∀ v, v < AS_nV a → m v = m' v) : ∀ (n : Nat) {x y : Int32}, R8 x y → R8 (itN (grwF a m) n x) (itN (besF a m') n y)
  | 0, _, _, h => h
  | n + 1, _, _, h => R8_it hW hm n (R8_grw hW hm h)
theorem or1_up {b : Bool} {x : Int32} {k j : Nat} (hk : k < 32) (h : bit x j = true) : bit (or1 b x k) j = true := by
  rw [bit_or1 _ _ hk, h, Bool.true_or]
theorem bes_up (hW : WFs a) (m : Nat → Bool) {x : Int32} {j : Nat} (h : bit x j = true) : bit (besF a m x) j = true := by
  refine goN_ind (P := fun t => bit t j = true) h (fun i t _ h2 ht => ?_)
  obtain ⟨g1, g2, -⟩ := hW.2.2.2.1 i (by omega)
  have hN := hW.1
  unfold bes1
  split
  · exact or1_up (by omega) (or1_up (by omega) ht)
  · exact ht
theorem bes_in (hW : WFs a) (m : Nat → Bool) {x : Int32} (h : ∀ j, 8 ≤ j → bit x j = false) : ∀ j, 8 ≤ j → bit (besF a m x) j = false := by
  refine goN_ind (P := fun t => ∀ j, 8 ≤ j → bit t j = false) h (fun i t _ h2 ht j hj => ?_)
  obtain ⟨g1, g2, -⟩ := hW.2.2.2.1 i (by omega)
  have hN := hW.1
  unfold bes1
  split
  · rename_i hc
    rw [bit_or1 _ _ (by omega), bit_or1 _ _ (by omega), ht j hj, show decide (j = AS_vB a i) = false from decide_eq_false (by omega), show decide (j = AS_vA a i) = false from decide_eq_false (by omega), Bool.and_false, Bool.and_false]
    rfl
  · exact ht j hj
def cnt0 (x : Int32) : Nat := sumN (fun c => if bit x c = true then 0 else 1) 8
theorem sumN_mono {f g : Nat → Nat} : ∀ {n : Nat}, (∀ i, i < n → f i ≤ g i) → sumN f n ≤ sumN g n
  | 0, _ => Nat.le_refl _
  | n + 1, h => by
    have h1 := sumN_mono (n := n) (fun i hi => h i (by omega))
    have h2 := h n (by omega)
    unfold sumN
    omega
theorem sumN_lt {f g : Nat → Nat} : ∀ {n k : Nat}, k < n → f k < g k → (∀ i, i < n → f i ≤ g i) → sumN f n < sumN g n
  | 0, k, hk, _, _ => by omega
  | n + 1, k, hk, hl, h => by
    unfold sumN
    by_cases he : k = n
    · subst he
      have := sumN_mono (n := k) (fun i hi => h i (by omega))
      omega
    · have h1 := sumN_lt (n := n) (k := k) (by omega) hl (fun i hi => h i (by omega))
      have h2 := h n (by omega)
      omega
theorem cnt0_lt (hW : WFs a) (m : Nat → Bool) {x : Int32} (h : ∀ j, 8 ≤ j → bit x j = false) (hne : ¬ besF a m x = x) : cnt0 (besF a m x) < cnt0 x := by
  have hle : ∀ i, (if bit (besF a m x) i = true then 0 else 1) ≤ (if bit x i = true then 0 else 1) := by
    intro i
    by_cases hb : bit x i = true
    · rw [if_pos hb, if_pos (bes_up hW m hb)]
      exact Nat.le_refl _
    · rw [if_neg hb]
      split <;> omega
  by_cases hall : ∀ c, c < 8 → bit (besF a m x) c = bit x c
  · exact absurd (bit_ext (fun j _ => by
      by_cases hj : j < 8
      · exact hall j hj
      · rw [h j (by omega), bes_in hW m h j (by omega)])) hne
  · obtain ⟨c, hc⟩ := Classical.not_forall.mp hall
    obtain ⟨hc8, hcb⟩ := Classical.not_imp.mp hc
    refine sumN_lt hc8 ?_ (fun i _ => hle i)
    by_cases hb : bit x c = true
    · exact absurd (by rw [hb, bes_up hW m hb]) hcb
    · have : bit (besF a m x) c = true := by
        cases q : bit (besF a m x) c with
        | true => rfl
        | false => exact absurd (by rw [q, (by simpa using hb : bit x c = false)]) hcb
      rw [if_pos this, if_neg hb]
      omega
/-- growing stops -/
theorem it_fix (hW : WFs a) (m : Nat → Bool) : ∀ (n : Nat) {x : Int32}, (∀ j, 8 ≤ j → bit x j = false) → cnt0 x ≤ n → besF a m (itN (besF a m) n x) = itN (besF a m) n x
  | 0, x, h, hc => by
    by_cases he : besF a m x = x
    · exact he
    · have := cnt0_lt hW m h he
      omega
  | n + 1, x, h, hc => by
    by_cases he : besF a m x = x
    · rw [itN_fix he, he]
    · have := cnt0_lt hW m h he
      exact it_fix hW m n (bes_in hW m h) (by omega)
theorem sing_in {c : Nat} (hc : c < 8) : ∀ j, 8 ≤ j → bit (1 <<< (i4 c &&& 31)) j = false := fun j hj => by
  rw [bit_one_shl (by omega)]
  exact decide_eq_false (by omega)
theorem sing_cnt : ∀ c, c < 8 → cnt0 (1 <<< (i4 c &&& 31)) ≤ 7 := by decide +kernel
theorem sing_R8 {c : Nat} (hc : c < 8) : R8 (1 <<< (i4 c &&& 31)) (1 <<< (i4 c &&& 31)) := by
  intro j hj
  by_cases h : j < 8
  · rw [decide_eq_true h, Bool.true_and]
  · rw [sing_in hc j (by omega), Bool.and_false]
theorem C_has {k : Nat} (x : Int32) (hk : k < 32) : f9_has x (i4 k) = some (if bit x k = true then 1 else 0) := by
  unfold f9_has
  rw [bit_ask _ hk, bit01]
theorem C_grown (hW : WFs a) (hL : RCs a ly) (x mk : Int32) : f1_grown ly x mk = some (grwF a (bit mk) x) := by
  have hN := hW.1
  have := FU_eq
  have key : ∀ (n v fu : Nat) (acc : Int32), v + n = AS_nV a → n < fu → f1_grown_B5 ly fu x mk acc (i4 v) = some (goN (grw1 a (bit mk) x) n v acc) := by
    intro n
    induction n with
    | zero =>
      intro v fu acc hv hf
      obtain ⟨q, rfl, -⟩ := fuS hf
      rw [f1_grown_B5, hL.1.2.2.1, if_pos ((i4_le (by omega) (by omega)).mpr (by omega))]
      rfl
    | succ n ih =>
      intro v fu acc hv hf
      obtain ⟨q, rfl, -⟩ := fuS hf
      have hvl : v < AS_nV a := by omega
      obtain ⟨h1, h2, -⟩ := hW.2.2.2.1 v hvl
      obtain ⟨e1, e2, e3⟩ := hL.2.2.2.1 v hvl
      rw [f1_grown_B5, hL.1.2.2.1, if_neg (fun h => by have := (i4_le (by omega) (by omega)).mp h; omega), C_has _ (by omega), sbind, goN_succ]
      unfold grw1
      by_cases hO : bit mk v = true
      · have B52 : ∀ acc, f1_grown_B52 ly (f1_grown_B5 ly q) x mk acc (i4 v) = some (goN (grw1 a (bit mk) x) n (v + 1) (or1 (decide (AS_vB a v ≠ 8) && bit x (AS_vB a v)) acc (AS_vA a v))) := by
          intro acc
          unfold f1_grown_B52 or1
          rw [gdi _ (by omega) (by omega), ix4 (by omega), e2, ad1]
          by_cases h8 : AS_vB a v = 8
          · rw [h8, if_pos (show i4 8 = (8 : Int32) from rfl), if_neg (show ¬ ((decide (8 ≠ 8) && bit x 8) = true) from fun h => by simp at h)]
            exact ih (v + 1) q _ (by omega) (by omega)
          · rw [if_neg (show ¬ (i4 (AS_vB a v) = (8 : Int32)) from fun h => h8 ((i4_eq (b := 8) (by omega) (by omega)).mp h)), C_has _ (by omega), sbind, show decide (AS_vB a v ≠ 8) = true from decide_eq_true h8, Bool.true_and, e1]
            by_cases hb : bit x (AS_vB a v) = true
            · rw [if_pos hb, if_neg one_ne, if_pos hb]
              exact ih (v + 1) q _ (by omega) (by omega)
            · rw [if_neg hb, if_pos rfl, if_neg hb]
              exact ih (v + 1) q _ (by omega) (by omega)
        rw [if_pos hO, if_neg one_ne, gdi _ (by omega) (by omega), ix4 (by omega), e1, C_has _ (by omega), sbind, B52, B52, e2, if_pos hO]
        by_cases hb : bit x (AS_vA a v) = true
        · rw [if_pos hb, if_neg one_ne, show or1 (bit x (AS_vA a v)) acc (AS_vB a v) = acc ||| (1 <<< (i4 (AS_vB a v) &&& 31)) from if_pos hb]
          rfl
        · rw [if_neg hb, if_pos rfl, show or1 (bit x (AS_vA a v)) acc (AS_vB a v) = acc from if_neg hb]
          rfl
      · rw [if_neg hO, if_pos rfl, if_neg hO, ad1]
        exact ih (v + 1) q acc (by omega) (by omega)
  exact key (AS_nV a) 0 FU x (by omega) (by omega)
/-- what is joined with c: the class's set, with the outside as 8 -/
def rch (a : AS) (m : Nat → Bool) (c n : Nat) : Int32 := itN (grwF a m) n (1 <<< (i4 c &&& 31))
def rchM (a : AS) (m : Nat → Bool) (c n : Nat) : Int32 := itN (besF a m) n (1 <<< (i4 c &&& 31))
theorem C_reach (hW : WFs a) (hL : RCs a ly) (c : Nat) : f5_reach ly S (i4 c) = some (rch a (bit (SS_openValves S)) c 8) := by
  have := FU_eq
  have key : ∀ (n v fu : Nat) (x : Int32), v + n = 8 → n < fu → f5_reach_B6 ly S fu x (i4 v) = some (itN (grwF a (bit (SS_openValves S))) n x) := by
    intro n
    induction n with
    | zero =>
      intro v fu x hv hf
      obtain ⟨q, rfl, -⟩ := fuS hf
      rw [f5_reach_B6, if_pos (show (8 : Int32) ≤ i4 v from (i4_le (a := 8) (by omega) (by omega)).mpr (by omega))]
      rfl
    | succ n ih =>
      intro v fu x hv hf
      obtain ⟨q, rfl, -⟩ := fuS hf
      rw [f5_reach_B6, if_neg (show ¬ ((8 : Int32) ≤ i4 v) from fun h => by have := (i4_le (a := 8) (by omega) (by omega)).mp h; omega), C_grown hW hL, sbind, ad1]
      exact ih (v + 1) q _ (by omega) (by omega)
  exact key 8 0 FU _ (by omega) (by omega)
theorem rchM_8 (hW : WFs a) (m : Nat → Bool) {c : Nat} (hc : c < 8) : rchM a m c 8 = rchM a m c 7 := by
  unfold rchM
  rw [itN_succ]
  exact it_fix hW m 7 (sing_in hc) (sing_cnt c hc)
theorem rch_R8 (hW : WFs a) {m m' : Nat → Bool} (hm : ∀ v, v < AS_nV a → m v = m' v) {c : Nat} (hc : c < 8) (n : Nat) : R8 (rch a m c n) (rchM a m' c n) := R8_it hW hm n (sing_R8 hc)
theorem b255 : ∀ j, j < 32 → bit 255 j = decide (j < 8) := by decide +kernel
theorem R8_and {x y : Int32} (h : R8 x y) : x &&& 255 = y := bit_ext (fun j hj => by rw [bit_and, b255 j hj, h j hj, Bool.and_comm])
/-! the outside -/
def lead (a : AS) (m : Nat → Bool) (x : Int32) (v : Nat) : Bool := m v && (decide (AS_vB a v = 8) && bit x (AS_vA a v))
theorem grw_8 (hW : WFs a) (m : Nat → Bool) (x : Int32) : bit (grwF a m x) 8 = (bit x 8 || anyF (lead a m x) (AS_nV a) 0) := by
  have hN := hW.1
  have key : ∀ (n v : Nat) (acc : Int32), v + n = AS_nV a → bit (goN (grw1 a m x) n v acc) 8 = (bit acc 8 || anyF (lead a m x) n v) := by
    intro n
    induction n with
    | zero => intro v acc _; rw [goN_zero]; simp [anyF]
    | succ n ih =>
      intro v acc hv
      have hvl : v < AS_nV a := by omega
      obtain ⟨h1, h2, -⟩ := hW.2.2.2.1 v hvl
      rw [goN_succ, ih (v + 1) _ (by omega)]
      show _ = (bit acc 8 || (lead a m x v || anyF (lead a m x) n (v + 1)))
      rw [← Bool.or_assoc]
      congr 1
      unfold grw1 lead
      by_cases hq : m v = true
      · rw [if_pos hq, bit_or1 _ _ (by omega), bit_or1 _ _ (by omega), hq, Bool.true_and, show decide (8 = AS_vA a v) = false from decide_eq_false (by omega), Bool.and_false, Bool.or_false, Bool.and_comm (bit x (AS_vA a v)), show decide (8 = AS_vB a v) = decide (AS_vB a v = 8) from decide_eq_decide.mpr ⟨Eq.symm, Eq.symm⟩]
      · rw [if_neg hq, (by simpa using hq : m v = false), Bool.false_and, Bool.or_false]
  exact key (AS_nV a) 0 x (by omega)
theorem anyF_congr {p q : Nat → Bool} : ∀ {n v : Nat}, (∀ i, v ≤ i → i < v + n → p i = q i) → anyF p n v = anyF q n v
  | 0, _, _ => rfl
  | n + 1, v, h => by
    unfold anyF
    rw [h v (Nat.le_refl v) (by omega), anyF_congr (n := n) (v := v + 1) (fun i h1 h2 => h i (by omega) (by omega))]
theorem anyF_true {p : Nat → Bool} {n v : Nat} : anyF p n v = true ↔ ∃ i, v ≤ i ∧ i < v + n ∧ p i = true := by
  refine ⟨fun h => ?_, fun ⟨i, h1, h2, h3⟩ => ?_⟩
  · refine Classical.byContradiction (fun hn => ?_)
    have : anyF p n v = false := anyF_false.mpr (fun i h1 h2 => by
      cases q : p i with
      | false => rfl
      | true => exact absurd ⟨i, h1, h2, q⟩ hn)
    rw [this] at h
    exact absurd h (by decide)
  · cases q : anyF p n v with
    | true => rfl
    | false =>
      have := anyF_false.mp q i h1 h2
      rw [h3] at this
      exact absurd this (by decide)
theorem rch_8 (hW : WFs a) {m m' : Nat → Bool} (hm : ∀ v, v < AS_nV a → m v = m' v) {c : Nat} (hc : c < 8) : ∀ n, bit (rch a m c (n + 1)) 8 = anyF (lead a m' (rchM a m' c n)) (AS_nV a) 0 := by
  have hN := hW.1
  have hl : ∀ n, anyF (lead a m (rch a m c n)) (AS_nV a) 0 = anyF (lead a m' (rchM a m' c n)) (AS_nV a) 0 := by
    intro n
    refine anyF_congr (fun i _ h2 => ?_)
    have h1 := (hW.2.2.2.1 i (by omega)).1
    unfold lead
    rw [hm i (by omega), R8_lo (rch_R8 hW hm hc n) (by omega)]
  intro n
  induction n with
  | zero =>
    unfold rch
    rw [itN_succ, grw_8 hW]
    show (bit (1 <<< (i4 c &&& 31)) 8 || anyF (lead a m (rch a m c 0)) (AS_nV a) 0) = _
    rw [sing_in hc 8 (by omega), Bool.false_or, hl]
  | succ n ih =>
    have e : rch a m c (n + 1 + 1) = grwF a m (rch a m c (n + 1)) := itN_succ _ _ _
    rw [e, grw_8 hW, ih, hl]
    cases q : anyF (lead a m' (rchM a m' c n)) (AS_nV a) 0 with
    | false => rw [Bool.false_or]
    | true =>
      rw [Bool.true_or]
      obtain ⟨i, g1, g2, g3⟩ := anyF_true.mp q
      refine (anyF_true.mpr ⟨i, g1, g2, ?_⟩).symm
      unfold lead at g3 ⊢
      have e2 : rchM a m' c (n + 1) = besF a m' (rchM a m' c n) := itN_succ _ _ _
      rw [Bool.and_eq_true, Bool.and_eq_true] at g3 ⊢
      exact ⟨g3.1, g3.2.1, by rw [e2]; exact bes_up hW m' g3.2.2⟩
end RE

