/-! the text -/
def INVt (T : TT) (mp : MP) : Prop := ∃ n, n ≤ 900 ∧ TT_length T = i4 n ∧ MP_length mp = i4 n ∧ ∀ i, i < n → TT_bytes T i = MP_text mp i
def INVe (ee : EE) (mp : MP) : Prop := EE_code ee = MP_fault mp ∧ EE_pos ee = MP_faultAt mp
theorem byte_bits {x y : Int32} (h : ∀ j, j < 8 → bit x j = bit y j) : x.toInt8 = y.toInt8 := by
  apply Int8.toBitVec.inj
  apply BitVec.eq_of_getLsbD_eq
  intro i hi
  have e : ∀ z : Int32, z.toInt8.toBitVec.getLsbD i = bit z i := by
    intro z
    show (z.toBitVec.signExtend 8).getLsbD i = _
    rw [BitVec.getLsbD_signExtend]
    unfold bit
    simp [hi]
    omega
  rw [e, e, h i hi]
theorem iushr_bit (x : Int32) {k : Nat} (hk : k = 24 ∨ k = 16 ∨ k = 8 ∨ k = 0) (j : Nat) : bit (iushrF x (i4 k)) j = bit x (k + j) := by
  have e : (((i4 k).toUInt32 &&& Int32.toUInt32 31).toBitVec % 32).toNat = k := by
    rcases hk with rfl | rfl | rfl | rfl <;> decide
  unfold iushrF bit
  show ((x.toUInt32 >>> ((i4 k).toUInt32 &&& Int32.toUInt32 31)).toBitVec).getLsbD j = _
  rw [UInt32.toBitVec_shiftRight, BitVec.ushiftRight_eq', e, BitVec.getLsbD_ushiftRight]
  rfl
theorem shr_byte (x : Int32) {k : Nat} (hk : k = 24 ∨ k = 16 ∨ k = 8 ∨ k = 0) : (iushrF x (i4 k)).toInt8 = (x >>> (i4 k &&& 31)).toInt8 := by
  refine byte_bits (fun j hj => ?_)
  rw [iushr_bit x hk]
  show _ = (x >>> (i4 k &&& 31)).toBitVec.getLsbD j
  rw [shr_bv x (by omega), BitVec.getLsbD_sshiftRight]
  unfold bit
  have h1 : k + j < 32 := by omega
  simp [h1]
  omega
section TX
variable {ou : Nat → Int64} {th : Int32}
def tw (s : PG) (b : Int32) : PG := (setN s.1 s.2 b, s.2 + 1)
def TTr (T : TT) (s : PG) : Prop := TT_length T = i4 s.2 ∧ ∀ i, i < s.2 → TT_bytes T i = s.1 i
def MPr (mp : MP) (s : PG) : Prop := MP_length mp = i4 s.2 ∧ ∀ i, i < s.2 → MP_text mp i = s.1 i
def bt (x : Int32) (k : Nat) : Int32 := vp_nar .byte ((x >>> (i4 k &&& 31)).toInt8.toInt32)
theorem TTr_w {T : TT} {s : PG} (h : TTr T s) (b : Int32) : TTr (TT_set_length (TT_set_bytes T (upd (TT_bytes T) s.2 b)) (i4 (s.2 + 1))) (tw s b) := by
  refine ⟨rfl, fun i hi => ?_⟩
  show upd (TT_bytes T) s.2 b i = setN s.1 s.2 b i
  have hi' : i < s.2 + 1 := hi
  by_cases he : i = s.2
  · rw [he, upd_self, setN_self]
  · rw [upd_ne _ _ he, setN_ne _ _ he]
    exact h.2 i (by omega)
theorem MPr_w {mp : MP} {s : PG} (h : MPr mp s) (b : Int32) : MPr (MP_set_text (MP_set_length mp (i4 (s.2 + 1))) (upd (MP_text mp) s.2 b)) (tw s b) := by
  refine ⟨rfl, fun i hi => ?_⟩
  show upd (MP_text mp) s.2 b i = setN s.1 s.2 b i
  have hi' : i < s.2 + 1 := hi
  by_cases he : i = s.2
  · rw [he, upd_self, setN_self]
  · rw [upd_ne _ _ he, setN_ne _ _ he]
    exact h.2 i (by omega)
def wd (s : PG) (x : Int32) : PG := tw (tw (tw (tw s (bt x 24)) (bt x 16)) (bt x 8)) (bt x 0)
theorem C_word {T : TT} {s : PG} (h : TTr T s) (hl : s.2 + 4 ≤ 900) (x : Int32) : ∃ T', f8_addWord T x = some T' ∧ TTr T' (wd s x) := by
  have st : ∀ (q : Nat) (T : TT) (s : PG) (k : Nat), (k = 24 ∨ k = 16 ∨ k = 8 ∨ k = 0) → TTr T s → s.2 < 900 → f8_addWord_B3 (q + 1) T x (i4 k) = f8_addWord_B3 q (TT_set_length (TT_set_bytes T (upd (TT_bytes T) s.2 (bt x k))) (i4 (s.2 + 1))) x (i4 k + (-8)) := by
    intro q T s k hk h hl
    rw [f8_addWord_B3, if_neg (lt0_i4 (by omega)), h.1, if_neg (show ¬ ((900 : Int32) ≤ i4 s.2) from fun q => by have := (i4_le (a := 900) (by omega) (by omega)).mp q; omega), gdi _ (by omega) (by omega), ix4 (by omega), shr_byte x hk, ad1]
    rfl
  have hF : FU = 4091 + 1 + 1 + 1 + 1 + 1 := rfl
  refine ⟨_, ?_, TTr_w (TTr_w (TTr_w (TTr_w h (bt x 24)) (bt x 16)) (bt x 8)) (bt x 0)⟩
  unfold f8_addWord
  rw [hF, show (24 : Int32) = i4 24 from rfl, st _ T s 24 (by omega) h (by omega), show i4 24 + (-8) = i4 16 by decide, st _ _ (tw s (bt x 24)) 16 (by omega) (TTr_w h _) (by show s.2 + 1 < 900; omega), show i4 16 + (-8) = i4 8 by decide, st _ _ (tw (tw s (bt x 24)) (bt x 16)) 8 (by omega) (TTr_w (TTr_w h _) _) (by show s.2 + 1 + 1 < 900; omega), show i4 8 + (-8) = i4 0 by decide, st _ _ (tw (tw (tw s (bt x 24)) (bt x 16)) (bt x 8)) 0 (by omega) (TTr_w (TTr_w (TTr_w h _) _) _) (by show s.2 + 1 + 1 + 1 < 900; omega), f8_addWord_B3, if_pos (by decide)]
theorem M_word {mp : MP} {s : PG} (h : MPr mp s) (hl : s.2 + 4 ≤ 900) (x : Int32) : ∃ mp', f10_bring mp x = some mp' ∧ MPr mp' (wd s x) ∧ MP_fault mp' = MP_fault mp ∧ MP_faultAt mp' = MP_faultAt mp := by
  have st : ∀ (q : Nat) (mp : MP) (s : PG) (k : Nat), k < 4 → MPr mp s → s.2 < 900 → f10_bring_B2 (q + 1) mp x (i4 k) = f10_bring_B2 q (MP_set_text (MP_set_length mp (i4 (s.2 + 1))) (upd (MP_text mp) s.2 (bt x (8 * k)))) x (i4 k + (-1)) := by
    intro q mp s k hk h hl
    rw [f10_bring_B2, if_neg (lt0_i4 (by omega)), h.1, gdi _ (by omega) (by omega), ix4 (by omega), show (8 : Int32) * i4 k = i4 (8 * k) from i4_mul 8 k, ad1]
    rfl
  have hF : FU = 4091 + 1 + 1 + 1 + 1 + 1 := rfl
  refine ⟨_, ?_, MPr_w (MPr_w (MPr_w (MPr_w h (bt x 24)) (bt x 16)) (bt x 8)) (bt x 0), rfl, rfl⟩
  unfold f10_bring
  rw [hF, show (3 : Int32) = i4 3 from rfl, st _ mp s 3 (by omega) h (by omega), show i4 3 + (-1) = i4 2 by decide, st _ _ (tw s (bt x 24)) 2 (by omega) (MPr_w h _) (by show s.2 + 1 < 900; omega), show i4 2 + (-1) = i4 1 by decide, st _ _ (tw (tw s (bt x 24)) (bt x 16)) 1 (by omega) (MPr_w (MPr_w h _) _) (by show s.2 + 1 + 1 < 900; omega), show i4 1 + (-1) = i4 0 by decide, st _ _ (tw (tw (tw s (bt x 24)) (bt x 16)) (bt x 8)) 0 (by omega) (MPr_w (MPr_w (MPr_w h _) _) _) (by show s.2 + 1 + 1 + 1 < 900; omega), f10_bring_B2, if_pos (by decide)]
theorem INVt_s {T : TT} {mp : MP} (h : INVt T mp) : ∃ s : PG, s.2 ≤ 900 ∧ TTr T s ∧ MPr mp s := by
  obtain ⟨n, h1, h2, h3, h4⟩ := h
  exact ⟨(TT_bytes T, n), h1, ⟨h2, fun i _ => rfl⟩, ⟨h3, fun i hi => (h4 i hi).symm⟩⟩
theorem INVt_of {T : TT} {mp : MP} {s : PG} (hs : s.2 ≤ 900) (h1 : TTr T s) (h2 : MPr mp s) : INVt T mp :=
  ⟨s.2, hs, h1.1, h2.1, fun i hi => (h1.2 i hi).trans (h2.2 i hi).symm⟩
theorem S_appendText {T : TT} {mp : MP} {ee : EE} (hT : INVt T mp) (hE : INVe ee mp) (x1 x2 x3 x4 x5 : Int32) : ∃ r1 r2, fL_appendText T ou x1 x2 x3 x4 x5 = some r1 ∧ f10_appendText th mp x1 x2 x3 x4 x5 = some r2 ∧ r2.2.1 = r1.1 ∧ (r1.1 = 0 → r1.2.2 (ix 0) = r2.1.toInt64) ∧ INVt r1.2.1 r2.2.2 ∧ INVe ee r2.2.2 := by
  obtain ⟨s, hs, h1, h2⟩ := INVt_s hT
  by_cases hl : s.2 + 20 ≤ 900
  · obtain ⟨T1, a1, b1⟩ := C_word h1 (by omega) x1
    obtain ⟨T2, a2, b2⟩ := C_word b1 (by show s.2 + 1 + 1 + 1 + 1 + 4 ≤ 900; omega) x2
    obtain ⟨T3, a3, b3⟩ := C_word b2 (by show s.2 + 1 + 1 + 1 + 1 + 1 + 1 + 1 + 1 + 4 ≤ 900; omega) x3
    obtain ⟨T4, a4, b4⟩ := C_word b3 (by show s.2 + 1 + 1 + 1 + 1 + 1 + 1 + 1 + 1 + 1 + 1 + 1 + 1 + 4 ≤ 900; omega) x4
    obtain ⟨T5, a5, b5⟩ := C_word b4 (by show s.2 + 1 + 1 + 1 + 1 + 1 + 1 + 1 + 1 + 1 + 1 + 1 + 1 + 1 + 1 + 1 + 1 + 4 ≤ 900; omega) x5
    obtain ⟨m1, c1, d1, e1, f1⟩ := M_word h2 (by omega) x1
    obtain ⟨m2, c2, d2, e2, f2⟩ := M_word d1 (by show s.2 + 1 + 1 + 1 + 1 + 4 ≤ 900; omega) x2
    obtain ⟨m3, c3, d3, e3, f3⟩ := M_word d2 (by show s.2 + 1 + 1 + 1 + 1 + 1 + 1 + 1 + 1 + 4 ≤ 900; omega) x3
    obtain ⟨m4, c4, d4, e4, f4⟩ := M_word d3 (by show s.2 + 1 + 1 + 1 + 1 + 1 + 1 + 1 + 1 + 1 + 1 + 1 + 1 + 4 ≤ 900; omega) x4
    obtain ⟨m5, c5, d5, e5, f5⟩ := M_word d4 (by show s.2 + 1 + 1 + 1 + 1 + 1 + 1 + 1 + 1 + 1 + 1 + 1 + 1 + 1 + 1 + 1 + 1 + 4 ≤ 900; omega) x5
    refine ⟨(0, T5, vp_updL ou (ix 0) (TT_length T5).toInt64), (MP_length m5, 0, m5), ?_, ?_, rfl, fun _ => ?_, INVt_of (by show s.2 + 20 ≤ 900; omega) b5 d5, ?_, ?_⟩
    · unfold fL_appendText f9_appendText
      rw [h1.1, show i4 s.2 + 20 = i4 (s.2 + 20) from i4_add _ 20, if_pos (show i4 (s.2 + 20) ≤ (900 : Int32) from (i4_le (b := 900) (by omega) (by omega)).mpr hl), a1, sbind, a2, sbind, a3, sbind, a4, sbind, a5, sbind]
      rfl
    · unfold f10_appendText
      rw [h2.1, show i4 s.2 + 20 = i4 (s.2 + 20) from i4_add _ 20, if_pos (show i4 (s.2 + 20) ≤ (900 : Int32) from (i4_le (b := 900) (by omega) (by omega)).mpr hl), c1, sbind, c2, sbind, c3, sbind, c4, sbind, c5, sbind]
    · show vp_updL ou (ix 0) (TT_length T5).toInt64 (ix 0) = (MP_length m5).toInt64
      rw [updL_self, b5.1, d5.1]
    · rw [e5, e4, e3, e2, e1]; exact hE.1
    · rw [f5, f4, f3, f2, f1]; exact hE.2
  · refine ⟨(1, T, ou), (0, 1, mp), ?_, ?_, rfl, fun h => absurd h one_ne, hT, hE⟩
    · unfold fL_appendText f9_appendText
      rw [h1.1, show i4 s.2 + 20 = i4 (s.2 + 20) from i4_add _ 20, if_neg (show ¬ (i4 (s.2 + 20) ≤ (900 : Int32)) from fun q => hl ((i4_le (b := 900) (by omega) (by omega)).mp q))]
      rfl
    · unfold f10_appendText
      rw [h2.1, show i4 s.2 + 20 = i4 (s.2 + 20) from i4_add _ 20, if_neg (show ¬ (i4 (s.2 + 20) ≤ (900 : Int32)) from fun q => hl ((i4_le (b := 900) (by omega) (by omega)).mp q))]
      rfl
theorem S_truncateText {T : TT} {mp : MP} {ee : EE} (hT : INVt T mp) (hE : INVe ee mp) (x : Int32) : ∃ r1 r2, fL_truncateText T ou x = some r1 ∧ f10_truncateText th mp x = some r2 ∧ r2.2.1 = r1.1 ∧ (r1.1 = 0 → r1.2.2 (ix 0) = r2.1.toInt64) ∧ INVt r1.2.1 r2.2.2 ∧ INVe ee r2.2.2 := by
  have hT' := hT
  obtain ⟨n, h1, h2, h3, h4⟩ := hT'
  have hhi : (MP_length mp).toInt64.toInt = (n : Int) := by rw [h3, Int32.toInt_toInt64, i4_toInt (by omega)]
  rcases upto_cases x n with ⟨k, hk, hk2, rfl⟩ | hx
  · refine ⟨(0, TT_set_length T (i4 k), vp_updL ou (ix 0) (i4 k).toInt64), (i4 k, 0, MP_set_length mp (i4 k)), ?_, ?_, rfl, fun _ => show vp_updL ou (ix 0) (i4 k).toInt64 (ix 0) = _ from updL_self _ _ _, ⟨k, by omega, rfl, rfl, fun i hi => h4 i (by omega)⟩, hE⟩
    · unfold fL_truncateText f9_truncateText
      rw [if_neg (lt0_i4 (by omega)), h2, if_pos ((i4_le (by omega) (by omega)).mpr hk)]
      rfl
    · unfold f10_truncateText
      rw [M_in_y (by rw [z8, i4_toInt (by omega)]; omega) (by rw [hhi, i4_toInt (by omega)]; omega), sbind, if_neg one_ne]
  · refine ⟨(1, T, ou), (0, 1, mp), ?_, ?_, rfl, fun h => absurd h one_ne, hT, hE⟩
    · unfold fL_truncateText f9_truncateText
      by_cases q1 : x < 0
      · rw [if_pos q1]
        rfl
      · rw [if_neg q1]
        rw [Int32.lt_iff_toInt_lt, z4] at q1
        rw [if_neg (show ¬ (x ≤ TT_length T) from fun q => by rw [h2, Int32.le_iff_toInt_le, i4_toInt (by omega)] at q; omega)]
        rfl
    · unfold f10_truncateText
      rw [M_in_n (by rw [z8, hhi]; exact hx), sbind, if_pos rfl]
      rfl
theorem S_errorCode {mp : MP} {ee : EE} (hE : INVe ee mp) : ∃ r1 r2, f9_errorCode ee = some r1 ∧ f10_errorCode mp th = some r2 ∧ r1 = r2.1 := ⟨_, _, rfl, rfl, hE.1⟩
theorem S_errorPosition {mp : MP} {ee : EE} (hE : INVe ee mp) : ∃ r1 r2, f9_errorPosition ee = some r1 ∧ f10_errorPosition mp th = some r2 ∧ r1 = r2.1 := ⟨_, _, rfl, rfl, hE.2⟩
end TX
