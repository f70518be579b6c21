/-! the law's loop -/
theorem LAWLOOP {len : Nat} {xs : Nat → Int32} (hl : len ≤ 260) {lY : LL} : ∀ (j k fu cnt np : Nat) (d : AD) (tp : TP) (st : Fin 12 → SS) (hn : HN) (rp : RP), k + j = 14 → j < fu → IV A0 d lY tp st → UD tp cnt np → ∃ r, f_law_B89 len xs lY fu hn rp tp st (i4 cnt) (i4 k) = some r ∧ r.1 = 1 := by
  intro j
  induction j with
  | zero =>
    intro k fu cnt np d tp st hn rp hk hf hI hU
    obtain ⟨q, rfl, -⟩ := fuS hf
    refine ⟨(1, hn, rp, tp, st), ?_, rfl⟩
    rw [f_law_B89, if_pos (show (14 : Int32) ≤ i4 k from (i4_le (a := 14) (by omega) (by omega)).mpr (by omega))]
  | succ j ih =>
    intro k fu cnt np d tp st hn rp hk hf hI hU
    obtain ⟨q, rfl, -⟩ := fuS hf
    obtain ⟨hn', rp', tp', st', cnt', np', d', e, hI', hU'⟩ := T_all (xs := xs) hl (show k < 14 by omega) hI hU hn rp q
    rw [e]
    exact ih (k + 1) q cnt' np' d' tp' st' hn' rp' (by omega) (by omega) hI' hU'
