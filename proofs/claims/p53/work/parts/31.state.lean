/-! the state as numbers, and how class and reference hold it -/
abbrev AS : Type := (Nat) × (Nat) × (Nat) × (Nat) × (Nat → Nat) × (Nat → Nat) × (Nat → Nat) × (Nat → Nat) × (Nat → Nat) × (Nat → Nat) × (Nat → Nat) × (Nat → Nat) × (Nat → Nat) × (Nat → Nat) × (Nat → Nat) × (Nat → Nat)
def AS_nC (q : AS) : Nat := q.1
def AS_nP (q : AS) : Nat := q.2.1
def AS_nV (q : AS) : Nat := q.2.2.1
def AS_nF (q : AS) : Nat := q.2.2.2.1
def AS_vol (q : AS) : Nat → Nat := q.2.2.2.2.1
def AS_dec (q : AS) : Nat → Nat := q.2.2.2.2.2.1
def AS_pC (q : AS) : Nat → Nat := q.2.2.2.2.2.2.1
def AS_pE (q : AS) : Nat → Nat := q.2.2.2.2.2.2.2.1
def AS_pS (q : AS) : Nat → Nat := q.2.2.2.2.2.2.2.2.1
def AS_pL (q : AS) : Nat → Nat := q.2.2.2.2.2.2.2.2.2.1
def AS_pH (q : AS) : Nat → Nat := q.2.2.2.2.2.2.2.2.2.2.1
def AS_pB (q : AS) : Nat → Nat := q.2.2.2.2.2.2.2.2.2.2.2.1
def AS_vA (q : AS) : Nat → Nat := q.2.2.2.2.2.2.2.2.2.2.2.2.1
def AS_vB (q : AS) : Nat → Nat := q.2.2.2.2.2.2.2.2.2.2.2.2.2.1
def AS_vG (q : AS) : Nat → Nat := q.2.2.2.2.2.2.2.2.2.2.2.2.2.2.1
def AS_fH (q : AS) : Nat → Nat := q.2.2.2.2.2.2.2.2.2.2.2.2.2.2.2
def AS_set_nC (q : AS) (v : Nat) : AS := (v, q.2.1, q.2.2.1, q.2.2.2.1, q.2.2.2.2.1, q.2.2.2.2.2.1, q.2.2.2.2.2.2.1, q.2.2.2.2.2.2.2.1, q.2.2.2.2.2.2.2.2.1, q.2.2.2.2.2.2.2.2.2.1, q.2.2.2.2.2.2.2.2.2.2.1, q.2.2.2.2.2.2.2.2.2.2.2.1, q.2.2.2.2.2.2.2.2.2.2.2.2.1, q.2.2.2.2.2.2.2.2.2.2.2.2.2.1, q.2.2.2.2.2.2.2.2.2.2.2.2.2.2.1, q.2.2.2.2.2.2.2.2.2.2.2.2.2.2.2)
def AS_set_nP (q : AS) (v : Nat) : AS := (q.1, v, q.2.2.1, q.2.2.2.1, q.2.2.2.2.1, q.2.2.2.2.2.1, q.2.2.2.2.2.2.1, q.2.2.2.2.2.2.2.1, q.2.2.2.2.2.2.2.2.1, q.2.2.2.2.2.2.2.2.2.1, q.2.2.2.2.2.2.2.2.2.2.1, q.2.2.2.2.2.2.2.2.2.2.2.1, q.2.2.2.2.2.2.2.2.2.2.2.2.1, q.2.2.2.2.2.2.2.2.2.2.2.2.2.1, q.2.2.2.2.2.2.2.2.2.2.2.2.2.2.1, q.2.2.2.2.2.2.2.2.2.2.2.2.2.2.2)
def AS_set_nV (q : AS) (v : Nat) : AS := (q.1, q.2.1, v, q.2.2.2.1, q.2.2.2.2.1, q.2.2.2.2.2.1, q.2.2.2.2.2.2.1, q.2.2.2.2.2.2.2.1, q.2.2.2.2.2.2.2.2.1, q.2.2.2.2.2.2.2.2.2.1, q.2.2.2.2.2.2.2.2.2.2.1, q.2.2.2.2.2.2.2.2.2.2.2.1, q.2.2.2.2.2.2.2.2.2.2.2.2.1, q.2.2.2.2.2.2.2.2.2.2.2.2.2.1, q.2.2.2.2.2.2.2.2.2.2.2.2.2.2.1, q.2.2.2.2.2.2.2.2.2.2.2.2.2.2.2)
def AS_set_nF (q : AS) (v : Nat) : AS := (q.1, q.2.1, q.2.2.1, v, q.2.2.2.2.1, q.2.2.2.2.2.1, q.2.2.2.2.2.2.1, q.2.2.2.2.2.2.2.1, q.2.2.2.2.2.2.2.2.1, q.2.2.2.2.2.2.2.2.2.1, q.2.2.2.2.2.2.2.2.2.2.1, q.2.2.2.2.2.2.2.2.2.2.2.1, q.2.2.2.2.2.2.2.2.2.2.2.2.1, q.2.2.2.2.2.2.2.2.2.2.2.2.2.1, q.2.2.2.2.2.2.2.2.2.2.2.2.2.2.1, q.2.2.2.2.2.2.2.2.2.2.2.2.2.2.2)
def AS_set_vol (q : AS) (v : Nat → Nat) : AS := (q.1, q.2.1, q.2.2.1, q.2.2.2.1, v, q.2.2.2.2.2.1, q.2.2.2.2.2.2.1, q.2.2.2.2.2.2.2.1, q.2.2.2.2.2.2.2.2.1, q.2.2.2.2.2.2.2.2.2.1, q.2.2.2.2.2.2.2.2.2.2.1, q.2.2.2.2.2.2.2.2.2.2.2.1, q.2.2.2.2.2.2.2.2.2.2.2.2.1, q.2.2.2.2.2.2.2.2.2.2.2.2.2.1, q.2.2.2.2.2.2.2.2.2.2.2.2.2.2.1, q.2.2.2.2.2.2.2.2.2.2.2.2.2.2.2)
def AS_set_dec (q : AS) (v : Nat → Nat) : AS := (q.1, q.2.1, q.2.2.1, q.2.2.2.1, q.2.2.2.2.1, v, q.2.2.2.2.2.2.1, q.2.2.2.2.2.2.2.1, q.2.2.2.2.2.2.2.2.1, q.2.2.2.2.2.2.2.2.2.1, q.2.2.2.2.2.2.2.2.2.2.1, q.2.2.2.2.2.2.2.2.2.2.2.1, q.2.2.2.2.2.2.2.2.2.2.2.2.1, q.2.2.2.2.2.2.2.2.2.2.2.2.2.1, q.2.2.2.2.2.2.2.2.2.2.2.2.2.2.1, q.2.2.2.2.2.2.2.2.2.2.2.2.2.2.2)
def AS_set_pC (q : AS) (v : Nat → Nat) : AS := (q.1, q.2.1, q.2.2.1, q.2.2.2.1, q.2.2.2.2.1, q.2.2.2.2.2.1, v, q.2.2.2.2.2.2.2.1, q.2.2.2.2.2.2.2.2.1, q.2.2.2.2.2.2.2.2.2.1, q.2.2.2.2.2.2.2.2.2.2.1, q.2.2.2.2.2.2.2.2.2.2.2.1, q.2.2.2.2.2.2.2.2.2.2.2.2.1, q.2.2.2.2.2.2.2.2.2.2.2.2.2.1, q.2.2.2.2.2.2.2.2.2.2.2.2.2.2.1, q.2.2.2.2.2.2.2.2.2.2.2.2.2.2.2)
def AS_set_pE (q : AS) (v : Nat → Nat) : AS := (q.1, q.2.1, q.2.2.1, q.2.2.2.1, q.2.2.2.2.1, q.2.2.2.2.2.1, q.2.2.2.2.2.2.1, v, q.2.2.2.2.2.2.2.2.1, q.2.2.2.2.2.2.2.2.2.1, q.2.2.2.2.2.2.2.2.2.2.1, q.2.2.2.2.2.2.2.2.2.2.2.1, q.2.2.2.2.2.2.2.2.2.2.2.2.1, q.2.2.2.2.2.2.2.2.2.2.2.2.2.1, q.2.2.2.2.2.2.2.2.2.2.2.2.2.2.1, q.2.2.2.2.2.2.2.2.2.2.2.2.2.2.2)
def AS_set_pS (q : AS) (v : Nat → Nat) : AS := (q.1, q.2.1, q.2.2.1, q.2.2.2.1, q.2.2.2.2.1, q.2.2.2.2.2.1, q.2.2.2.2.2.2.1, q.2.2.2.2.2.2.2.1, v, q.2.2.2.2.2.2.2.2.2.1, q.2.2.2.2.2.2.2.2.2.2.1, q.2.2.2.2.2.2.2.2.2.2.2.1, q.2.2.2.2.2.2.2.2.2.2.2.2.1, q.2.2.2.2.2.2.2.2.2.2.2.2.2.1, q.2.2.2.2.2.2.2.2.2.2.2.2.2.2.1, q.2.2.2.2.2.2.2.2.2.2.2.2.2.2.2)
def AS_set_pL (q : AS) (v : Nat → Nat) : AS := (q.1, q.2.1, q.2.2.1, q.2.2.2.1, q.2.2.2.2.1, q.2.2.2.2.2.1, q.2.2.2.2.2.2.1, q.2.2.2.2.2.2.2.1, q.2.2.2.2.2.2.2.2.1, v, q.2.2.2.2.2.2.2.2.2.2.1, q.2.2.2.2.2.2.2.2.2.2.2.1, q.2.2.2.2.2.2.2.2.2.2.2.2.1, q.2.2.2.2.2.2.2.2.2.2.2.2.2.1, q.2.2.2.2.2.2.2.2.2.2.2.2.2.2.1, q.2.2.2.2.2.2.2.2.2.2.2.2.2.2.2)
def AS_set_pH (q : AS) (v : Nat → Nat) : AS := (q.1, q.2.1, q.2.2.1, q.2.2.2.1, q.2.2.2.2.1, q.2.2.2.2.2.1, q.2.2.2.2.2.2.1, q.2.2.2.2.2.2.2.1, q.2.2.2.2.2.2.2.2.1, q.2.2.2.2.2.2.2.2.2.1, v, q.2.2.2.2.2.2.2.2.2.2.2.1, q.2.2.2.2.2.2.2.2.2.2.2.2.1, q.2.2.2.2.2.2.2.2.2.2.2.2.2.1, q.2.2.2.2.2.2.2.2.2.2.2.2.2.2.1, q.2.2.2.2.2.2.2.2.2.2.2.2.2.2.2)
def AS_set_pB (q : AS) (v : Nat → Nat) : AS := (q.1, q.2.1, q.2.2.1, q.2.2.2.1, q.2.2.2.2.1, q.2.2.2.2.2.1, q.2.2.2.2.2.2.1, q.2.2.2.2.2.2.2.1, q.2.2.2.2.2.2.2.2.1, q.2.2.2.2.2.2.2.2.2.1, q.2.2.2.2.2.2.2.2.2.2.1, v, q.2.2.2.2.2.2.2.2.2.2.2.2.1, q.2.2.2.2.2.2.2.2.2.2.2.2.2.1, q.2.2.2.2.2.2.2.2.2.2.2.2.2.2.1, q.2.2.2.2.2.2.2.2.2.2.2.2.2.2.2)
def AS_set_vA (q : AS) (v : Nat → Nat) : AS := (q.1, q.2.1, q.2.2.1, q.2.2.2.1, q.2.2.2.2.1, q.2.2.2.2.2.1, q.2.2.2.2.2.2.1, q.2.2.2.2.2.2.2.1, q.2.2.2.2.2.2.2.2.1, q.2.2.2.2.2.2.2.2.2.1, q.2.2.2.2.2.2.2.2.2.2.1, q.2.2.2.2.2.2.2.2.2.2.2.1, v, q.2.2.2.2.2.2.2.2.2.2.2.2.2.1, q.2.2.2.2.2.2.2.2.2.2.2.2.2.2.1, q.2.2.2.2.2.2.2.2.2.2.2.2.2.2.2)
def AS_set_vB (q : AS) (v : Nat → Nat) : AS := (q.1, q.2.1, q.2.2.1, q.2.2.2.1, q.2.2.2.2.1, q.2.2.2.2.2.1, q.2.2.2.2.2.2.1, q.2.2.2.2.2.2.2.1, q.2.2.2.2.2.2.2.2.1, q.2.2.2.2.2.2.2.2.2.1, q.2.2.2.2.2.2.2.2.2.2.1, q.2.2.2.2.2.2.2.2.2.2.2.1, q.2.2.2.2.2.2.2.2.2.2.2.2.1, v, q.2.2.2.2.2.2.2.2.2.2.2.2.2.2.1, q.2.2.2.2.2.2.2.2.2.2.2.2.2.2.2)
def AS_set_vG (q : AS) (v : Nat → Nat) : AS := (q.1, q.2.1, q.2.2.1, q.2.2.2.1, q.2.2.2.2.1, q.2.2.2.2.2.1, q.2.2.2.2.2.2.1, q.2.2.2.2.2.2.2.1, q.2.2.2.2.2.2.2.2.1, q.2.2.2.2.2.2.2.2.2.1, q.2.2.2.2.2.2.2.2.2.2.1, q.2.2.2.2.2.2.2.2.2.2.2.1, q.2.2.2.2.2.2.2.2.2.2.2.2.1, q.2.2.2.2.2.2.2.2.2.2.2.2.2.1, v, q.2.2.2.2.2.2.2.2.2.2.2.2.2.2.2)
def AS_set_fH (q : AS) (v : Nat → Nat) : AS := (q.1, q.2.1, q.2.2.1, q.2.2.2.1, q.2.2.2.2.1, q.2.2.2.2.2.1, q.2.2.2.2.2.2.1, q.2.2.2.2.2.2.2.1, q.2.2.2.2.2.2.2.2.1, q.2.2.2.2.2.2.2.2.2.1, q.2.2.2.2.2.2.2.2.2.2.1, q.2.2.2.2.2.2.2.2.2.2.2.1, q.2.2.2.2.2.2.2.2.2.2.2.2.1, q.2.2.2.2.2.2.2.2.2.2.2.2.2.1, q.2.2.2.2.2.2.2.2.2.2.2.2.2.2.1, v)
theorem AS_nC_set_nC (q : AS) (v : Nat) : AS_nC (AS_set_nC q v) = v := rfl
theorem AS_nP_set_nC (q : AS) (v : Nat) : AS_nP (AS_set_nC q v) = AS_nP q := rfl
theorem AS_nV_set_nC (q : AS) (v : Nat) : AS_nV (AS_set_nC q v) = AS_nV q := rfl
theorem AS_nF_set_nC (q : AS) (v : Nat) : AS_nF (AS_set_nC q v) = AS_nF q := rfl
theorem AS_vol_set_nC (q : AS) (v : Nat) : AS_vol (AS_set_nC q v) = AS_vol q := rfl
theorem AS_dec_set_nC (q : AS) (v : Nat) : AS_dec (AS_set_nC q v) = AS_dec q := rfl
theorem AS_pC_set_nC (q : AS) (v : Nat) : AS_pC (AS_set_nC q v) = AS_pC q := rfl
theorem AS_pE_set_nC (q : AS) (v : Nat) : AS_pE (AS_set_nC q v) = AS_pE q := rfl
theorem AS_pS_set_nC (q : AS) (v : Nat) : AS_pS (AS_set_nC q v) = AS_pS q := rfl
theorem AS_pL_set_nC (q : AS) (v : Nat) : AS_pL (AS_set_nC q v) = AS_pL q := rfl
theorem AS_pH_set_nC (q : AS) (v : Nat) : AS_pH (AS_set_nC q v) = AS_pH q := rfl
theorem AS_pB_set_nC (q : AS) (v : Nat) : AS_pB (AS_set_nC q v) = AS_pB q := rfl
theorem AS_vA_set_nC (q : AS) (v : Nat) : AS_vA (AS_set_nC q v) = AS_vA q := rfl
theorem AS_vB_set_nC (q : AS) (v : Nat) : AS_vB (AS_set_nC q v) = AS_vB q := rfl
theorem AS_vG_set_nC (q : AS) (v : Nat) : AS_vG (AS_set_nC q v) = AS_vG q := rfl
theorem AS_fH_set_nC (q : AS) (v : Nat) : AS_fH (AS_set_nC q v) = AS_fH q := rfl
theorem AS_nC_set_nP (q : AS) (v : Nat) : AS_nC (AS_set_nP q v) = AS_nC q := rfl
theorem AS_nP_set_nP (q : AS) (v : Nat) : AS_nP (AS_set_nP q v) = v := rfl
theorem AS_nV_set_nP (q : AS) (v : Nat) : AS_nV (AS_set_nP q v) = AS_nV q := rfl
theorem AS_nF_set_nP (q : AS) (v : Nat) : AS_nF (AS_set_nP q v) = AS_nF q := rfl
theorem AS_vol_set_nP (q : AS) (v : Nat) : AS_vol (AS_set_nP q v) = AS_vol q := rfl
theorem AS_dec_set_nP (q : AS) (v : Nat) : AS_dec (AS_set_nP q v) = AS_dec q := rfl
theorem AS_pC_set_nP (q : AS) (v : Nat) : AS_pC (AS_set_nP q v) = AS_pC q := rfl
theorem AS_pE_set_nP (q : AS) (v : Nat) : AS_pE (AS_set_nP q v) = AS_pE q := rfl
theorem AS_pS_set_nP (q : AS) (v : Nat) : AS_pS (AS_set_nP q v) = AS_pS q := rfl
theorem AS_pL_set_nP (q : AS) (v : Nat) : AS_pL (AS_set_nP q v) = AS_pL q := rfl
theorem AS_pH_set_nP (q : AS) (v : Nat) : AS_pH (AS_set_nP q v) = AS_pH q := rfl
theorem AS_pB_set_nP (q : AS) (v : Nat) : AS_pB (AS_set_nP q v) = AS_pB q := rfl
theorem AS_vA_set_nP (q : AS) (v : Nat) : AS_vA (AS_set_nP q v) = AS_vA q := rfl
theorem AS_vB_set_nP (q : AS) (v : Nat) : AS_vB (AS_set_nP q v) = AS_vB q := rfl
theorem AS_vG_set_nP (q : AS) (v : Nat) : AS_vG (AS_set_nP q v) = AS_vG q := rfl
theorem AS_fH_set_nP (q : AS) (v : Nat) : AS_fH (AS_set_nP q v) = AS_fH q := rfl
theorem AS_nC_set_nV (q : AS) (v : Nat) : AS_nC (AS_set_nV q v) = AS_nC q := rfl
theorem AS_nP_set_nV (q : AS) (v : Nat) : AS_nP (AS_set_nV q v) = AS_nP q := rfl
theorem AS_nV_set_nV (q : AS) (v : Nat) : AS_nV (AS_set_nV q v) = v := rfl
theorem AS_nF_set_nV (q : AS) (v : Nat) : AS_nF (AS_set_nV q v) = AS_nF q := rfl
theorem AS_vol_set_nV (q : AS) (v : Nat) : AS_vol (AS_set_nV q v) = AS_vol q := rfl
theorem AS_dec_set_nV (q : AS) (v : Nat) : AS_dec (AS_set_nV q v) = AS_dec q := rfl
theorem AS_pC_set_nV (q : AS) (v : Nat) : AS_pC (AS_set_nV q v) = AS_pC q := rfl
theorem AS_pE_set_nV (q : AS) (v : Nat) : AS_pE (AS_set_nV q v) = AS_pE q := rfl
theorem AS_pS_set_nV (q : AS) (v : Nat) : AS_pS (AS_set_nV q v) = AS_pS q := rfl
theorem AS_pL_set_nV (q : AS) (v : Nat) : AS_pL (AS_set_nV q v) = AS_pL q := rfl
theorem AS_pH_set_nV (q : AS) (v : Nat) : AS_pH (AS_set_nV q v) = AS_pH q := rfl
theorem AS_pB_set_nV (q : AS) (v : Nat) : AS_pB (AS_set_nV q v) = AS_pB q := rfl
theorem AS_vA_set_nV (q : AS) (v : Nat) : AS_vA (AS_set_nV q v) = AS_vA q := rfl
theorem AS_vB_set_nV (q : AS) (v : Nat) : AS_vB (AS_set_nV q v) = AS_vB q := rfl
theorem AS_vG_set_nV (q : AS) (v : Nat) : AS_vG (AS_set_nV q v) = AS_vG q := rfl
theorem AS_fH_set_nV (q : AS) (v : Nat) : AS_fH (AS_set_nV q v) = AS_fH q := rfl
theorem AS_nC_set_nF (q : AS) (v : Nat) : AS_nC (AS_set_nF q v) = AS_nC q := rfl
theorem AS_nP_set_nF (q : AS) (v : Nat) : AS_nP (AS_set_nF q v) = AS_nP q := rfl
theorem AS_nV_set_nF (q : AS) (v : Nat) : AS_nV (AS_set_nF q v) = AS_nV q := rfl
theorem AS_nF_set_nF (q : AS) (v : Nat) : AS_nF (AS_set_nF q v) = v := rfl
theorem AS_vol_set_nF (q : AS) (v : Nat) : AS_vol (AS_set_nF q v) = AS_vol q := rfl
theorem AS_dec_set_nF (q : AS) (v : Nat) : AS_dec (AS_set_nF q v) = AS_dec q := rfl
theorem AS_pC_set_nF (q : AS) (v : Nat) : AS_pC (AS_set_nF q v) = AS_pC q := rfl
theorem AS_pE_set_nF (q : AS) (v : Nat) : AS_pE (AS_set_nF q v) = AS_pE q := rfl
theorem AS_pS_set_nF (q : AS) (v : Nat) : AS_pS (AS_set_nF q v) = AS_pS q := rfl
theorem AS_pL_set_nF (q : AS) (v : Nat) : AS_pL (AS_set_nF q v) = AS_pL q := rfl
theorem AS_pH_set_nF (q : AS) (v : Nat) : AS_pH (AS_set_nF q v) = AS_pH q := rfl
theorem AS_pB_set_nF (q : AS) (v : Nat) : AS_pB (AS_set_nF q v) = AS_pB q := rfl
theorem AS_vA_set_nF (q : AS) (v : Nat) : AS_vA (AS_set_nF q v) = AS_vA q := rfl
theorem AS_vB_set_nF (q : AS) (v : Nat) : AS_vB (AS_set_nF q v) = AS_vB q := rfl
theorem AS_vG_set_nF (q : AS) (v : Nat) : AS_vG (AS_set_nF q v) = AS_vG q := rfl
theorem AS_fH_set_nF (q : AS) (v : Nat) : AS_fH (AS_set_nF q v) = AS_fH q := rfl
theorem AS_nC_set_vol (q : AS) (v : Nat → Nat) : AS_nC (AS_set_vol q v) = AS_nC q := rfl
theorem AS_nP_set_vol (q : AS) (v : Nat → Nat) : AS_nP (AS_set_vol q v) = AS_nP q := rfl
theorem AS_nV_set_vol (q : AS) (v : Nat → Nat) : AS_nV (AS_set_vol q v) = AS_nV q := rfl
theorem AS_nF_set_vol (q : AS) (v : Nat → Nat) : AS_nF (AS_set_vol q v) = AS_nF q := rfl
theorem AS_vol_set_vol (q : AS) (v : Nat → Nat) : AS_vol (AS_set_vol q v) = v := rfl
theorem AS_dec_set_vol (q : AS) (v : Nat → Nat) : AS_dec (AS_set_vol q v) = AS_dec q := rfl
theorem AS_pC_set_vol (q : AS) (v : Nat → Nat) : AS_pC (AS_set_vol q v) = AS_pC q := rfl
theorem AS_pE_set_vol (q : AS) (v : Nat → Nat) : AS_pE (AS_set_vol q v) = AS_pE q := rfl
theorem AS_pS_set_vol (q : AS) (v : Nat → Nat) : AS_pS (AS_set_vol q v) = AS_pS q := rfl
theorem AS_pL_set_vol (q : AS) (v : Nat → Nat) : AS_pL (AS_set_vol q v) = AS_pL q := rfl
theorem AS_pH_set_vol (q : AS) (v : Nat → Nat) : AS_pH (AS_set_vol q v) = AS_pH q := rfl
theorem AS_pB_set_vol (q : AS) (v : Nat → Nat) : AS_pB (AS_set_vol q v) = AS_pB q := rfl
theorem AS_vA_set_vol (q : AS) (v : Nat → Nat) : AS_vA (AS_set_vol q v) = AS_vA q := rfl
theorem AS_vB_set_vol (q : AS) (v : Nat → Nat) : AS_vB (AS_set_vol q v) = AS_vB q := rfl
theorem AS_vG_set_vol (q : AS) (v : Nat → Nat) : AS_vG (AS_set_vol q v) = AS_vG q := rfl
theorem AS_fH_set_vol (q : AS) (v : Nat → Nat) : AS_fH (AS_set_vol q v) = AS_fH q := rfl
theorem AS_nC_set_dec (q : AS) (v : Nat → Nat) : AS_nC (AS_set_dec q v) = AS_nC q := rfl
theorem AS_nP_set_dec (q : AS) (v : Nat → Nat) : AS_nP (AS_set_dec q v) = AS_nP q := rfl
theorem AS_nV_set_dec (q : AS) (v : Nat → Nat) : AS_nV (AS_set_dec q v) = AS_nV q := rfl
theorem AS_nF_set_dec (q : AS) (v : Nat → Nat) : AS_nF (AS_set_dec q v) = AS_nF q := rfl
theorem AS_vol_set_dec (q : AS) (v : Nat → Nat) : AS_vol (AS_set_dec q v) = AS_vol q := rfl
theorem AS_dec_set_dec (q : AS) (v : Nat → Nat) : AS_dec (AS_set_dec q v) = v := rfl
theorem AS_pC_set_dec (q : AS) (v : Nat → Nat) : AS_pC (AS_set_dec q v) = AS_pC q := rfl
theorem AS_pE_set_dec (q : AS) (v : Nat → Nat) : AS_pE (AS_set_dec q v) = AS_pE q := rfl
theorem AS_pS_set_dec (q : AS) (v : Nat → Nat) : AS_pS (AS_set_dec q v) = AS_pS q := rfl
theorem AS_pL_set_dec (q : AS) (v : Nat → Nat) : AS_pL (AS_set_dec q v) = AS_pL q := rfl
theorem AS_pH_set_dec (q : AS) (v : Nat → Nat) : AS_pH (AS_set_dec q v) = AS_pH q := rfl
theorem AS_pB_set_dec (q : AS) (v : Nat → Nat) : AS_pB (AS_set_dec q v) = AS_pB q := rfl
theorem AS_vA_set_dec (q : AS) (v : Nat → Nat) : AS_vA (AS_set_dec q v) = AS_vA q := rfl
theorem AS_vB_set_dec (q : AS) (v : Nat → Nat) : AS_vB (AS_set_dec q v) = AS_vB q := rfl
theorem AS_vG_set_dec (q : AS) (v : Nat → Nat) : AS_vG (AS_set_dec q v) = AS_vG q := rfl
theorem AS_fH_set_dec (q : AS) (v : Nat → Nat) : AS_fH (AS_set_dec q v) = AS_fH q := rfl
theorem AS_nC_set_pC (q : AS) (v : Nat → Nat) : AS_nC (AS_set_pC q v) = AS_nC q := rfl
theorem AS_nP_set_pC (q : AS) (v : Nat → Nat) : AS_nP (AS_set_pC q v) = AS_nP q := rfl
theorem AS_nV_set_pC (q : AS) (v : Nat → Nat) : AS_nV (AS_set_pC q v) = AS_nV q := rfl
theorem AS_nF_set_pC (q : AS) (v : Nat → Nat) : AS_nF (AS_set_pC q v) = AS_nF q := rfl
theorem AS_vol_set_pC (q : AS) (v : Nat → Nat) : AS_vol (AS_set_pC q v) = AS_vol q := rfl
theorem AS_dec_set_pC (q : AS) (v : Nat → Nat) : AS_dec (AS_set_pC q v) = AS_dec q := rfl
theorem AS_pC_set_pC (q : AS) (v : Nat → Nat) : AS_pC (AS_set_pC q v) = v := rfl
theorem AS_pE_set_pC (q : AS) (v : Nat → Nat) : AS_pE (AS_set_pC q v) = AS_pE q := rfl
theorem AS_pS_set_pC (q : AS) (v : Nat → Nat) : AS_pS (AS_set_pC q v) = AS_pS q := rfl
theorem AS_pL_set_pC (q : AS) (v : Nat → Nat) : AS_pL (AS_set_pC q v) = AS_pL q := rfl
theorem AS_pH_set_pC (q : AS) (v : Nat → Nat) : AS_pH (AS_set_pC q v) = AS_pH q := rfl
theorem AS_pB_set_pC (q : AS) (v : Nat → Nat) : AS_pB (AS_set_pC q v) = AS_pB q := rfl
theorem AS_vA_set_pC (q : AS) (v : Nat → Nat) : AS_vA (AS_set_pC q v) = AS_vA q := rfl
theorem AS_vB_set_pC (q : AS) (v : Nat → Nat) : AS_vB (AS_set_pC q v) = AS_vB q := rfl
theorem AS_vG_set_pC (q : AS) (v : Nat → Nat) : AS_vG (AS_set_pC q v) = AS_vG q := rfl
theorem AS_fH_set_pC (q : AS) (v : Nat → Nat) : AS_fH (AS_set_pC q v) = AS_fH q := rfl
theorem AS_nC_set_pE (q : AS) (v : Nat → Nat) : AS_nC (AS_set_pE q v) = AS_nC q := rfl
theorem AS_nP_set_pE (q : AS) (v : Nat → Nat) : AS_nP (AS_set_pE q v) = AS_nP q := rfl
theorem AS_nV_set_pE (q : AS) (v : Nat → Nat) : AS_nV (AS_set_pE q v) = AS_nV q := rfl
theorem AS_nF_set_pE (q : AS) (v : Nat → Nat) : AS_nF (AS_set_pE q v) = AS_nF q := rfl
theorem AS_vol_set_pE (q : AS) (v : Nat → Nat) : AS_vol (AS_set_pE q v) = AS_vol q := rfl
theorem AS_dec_set_pE (q : AS) (v : Nat → Nat) : AS_dec (AS_set_pE q v) = AS_dec q := rfl
theorem AS_pC_set_pE (q : AS) (v : Nat → Nat) : AS_pC (AS_set_pE q v) = AS_pC q := rfl
theorem AS_pE_set_pE (q : AS) (v : Nat → Nat) : AS_pE (AS_set_pE q v) = v := rfl
theorem AS_pS_set_pE (q : AS) (v : Nat → Nat) : AS_pS (AS_set_pE q v) = AS_pS q := rfl
theorem AS_pL_set_pE (q : AS) (v : Nat → Nat) : AS_pL (AS_set_pE q v) = AS_pL q := rfl
theorem AS_pH_set_pE (q : AS) (v : Nat → Nat) : AS_pH (AS_set_pE q v) = AS_pH q := rfl
theorem AS_pB_set_pE (q : AS) (v : Nat → Nat) : AS_pB (AS_set_pE q v) = AS_pB q := rfl
theorem AS_vA_set_pE (q : AS) (v : Nat → Nat) : AS_vA (AS_set_pE q v) = AS_vA q := rfl
theorem AS_vB_set_pE (q : AS) (v : Nat → Nat) : AS_vB (AS_set_pE q v) = AS_vB q := rfl
theorem AS_vG_set_pE (q : AS) (v : Nat → Nat) : AS_vG (AS_set_pE q v) = AS_vG q := rfl
theorem AS_fH_set_pE (q : AS) (v : Nat → Nat) : AS_fH (AS_set_pE q v) = AS_fH q := rfl
theorem AS_nC_set_pS (q : AS) (v : Nat → Nat) : AS_nC (AS_set_pS q v) = AS_nC q := rfl
theorem AS_nP_set_pS (q : AS) (v : Nat → Nat) : AS_nP (AS_set_pS q v) = AS_nP q := rfl
theorem AS_nV_set_pS (q : AS) (v : Nat → Nat) : AS_nV (AS_set_pS q v) = AS_nV q := rfl
theorem AS_nF_set_pS (q : AS) (v : Nat → Nat) : AS_nF (AS_set_pS q v) = AS_nF q := rfl
theorem AS_vol_set_pS (q : AS) (v : Nat → Nat) : AS_vol (AS_set_pS q v) = AS_vol q := rfl
theorem AS_dec_set_pS (q : AS) (v : Nat → Nat) : AS_dec (AS_set_pS q v) = AS_dec q := rfl
theorem AS_pC_set_pS (q : AS) (v : Nat → Nat) : AS_pC (AS_set_pS q v) = AS_pC q := rfl
theorem AS_pE_set_pS (q : AS) (v : Nat → Nat) : AS_pE (AS_set_pS q v) = AS_pE q := rfl
theorem AS_pS_set_pS (q : AS) (v : Nat → Nat) : AS_pS (AS_set_pS q v) = v := rfl
theorem AS_pL_set_pS (q : AS) (v : Nat → Nat) : AS_pL (AS_set_pS q v) = AS_pL q := rfl
theorem AS_pH_set_pS (q : AS) (v : Nat → Nat) : AS_pH (AS_set_pS q v) = AS_pH q := rfl
theorem AS_pB_set_pS (q : AS) (v : Nat → Nat) : AS_pB (AS_set_pS q v) = AS_pB q := rfl
theorem AS_vA_set_pS (q : AS) (v : Nat → Nat) : AS_vA (AS_set_pS q v) = AS_vA q := rfl
theorem AS_vB_set_pS (q : AS) (v : Nat → Nat) : AS_vB (AS_set_pS q v) = AS_vB q := rfl
theorem AS_vG_set_pS (q : AS) (v : Nat → Nat) : AS_vG (AS_set_pS q v) = AS_vG q := rfl
theorem AS_fH_set_pS (q : AS) (v : Nat → Nat) : AS_fH (AS_set_pS q v) = AS_fH q := rfl
theorem AS_nC_set_pL (q : AS) (v : Nat → Nat) : AS_nC (AS_set_pL q v) = AS_nC q := rfl
theorem AS_nP_set_pL (q : AS) (v : Nat → Nat) : AS_nP (AS_set_pL q v) = AS_nP q := rfl
theorem AS_nV_set_pL (q : AS) (v : Nat → Nat) : AS_nV (AS_set_pL q v) = AS_nV q := rfl
theorem AS_nF_set_pL (q : AS) (v : Nat → Nat) : AS_nF (AS_set_pL q v) = AS_nF q := rfl
theorem AS_vol_set_pL (q : AS) (v : Nat → Nat) : AS_vol (AS_set_pL q v) = AS_vol q := rfl
theorem AS_dec_set_pL (q : AS) (v : Nat → Nat) : AS_dec (AS_set_pL q v) = AS_dec q := rfl
theorem AS_pC_set_pL (q : AS) (v : Nat → Nat) : AS_pC (AS_set_pL q v) = AS_pC q := rfl
theorem AS_pE_set_pL (q : AS) (v : Nat → Nat) : AS_pE (AS_set_pL q v) = AS_pE q := rfl
theorem AS_pS_set_pL (q : AS) (v : Nat → Nat) : AS_pS (AS_set_pL q v) = AS_pS q := rfl
theorem AS_pL_set_pL (q : AS) (v : Nat → Nat) : AS_pL (AS_set_pL q v) = v := rfl
theorem AS_pH_set_pL (q : AS) (v : Nat → Nat) : AS_pH (AS_set_pL q v) = AS_pH q := rfl
theorem AS_pB_set_pL (q : AS) (v : Nat → Nat) : AS_pB (AS_set_pL q v) = AS_pB q := rfl
theorem AS_vA_set_pL (q : AS) (v : Nat → Nat) : AS_vA (AS_set_pL q v) = AS_vA q := rfl
theorem AS_vB_set_pL (q : AS) (v : Nat → Nat) : AS_vB (AS_set_pL q v) = AS_vB q := rfl
theorem AS_vG_set_pL (q : AS) (v : Nat → Nat) : AS_vG (AS_set_pL q v) = AS_vG q := rfl
theorem AS_fH_set_pL (q : AS) (v : Nat → Nat) : AS_fH (AS_set_pL q v) = AS_fH q := rfl
theorem AS_nC_set_pH (q : AS) (v : Nat → Nat) : AS_nC (AS_set_pH q v) = AS_nC q := rfl
theorem AS_nP_set_pH (q : AS) (v : Nat → Nat) : AS_nP (AS_set_pH q v) = AS_nP q := rfl
theorem AS_nV_set_pH (q : AS) (v : Nat → Nat) : AS_nV (AS_set_pH q v) = AS_nV q := rfl
theorem AS_nF_set_pH (q : AS) (v : Nat → Nat) : AS_nF (AS_set_pH q v) = AS_nF q := rfl
theorem AS_vol_set_pH (q : AS) (v : Nat → Nat) : AS_vol (AS_set_pH q v) = AS_vol q := rfl
theorem AS_dec_set_pH (q : AS) (v : Nat → Nat) : AS_dec (AS_set_pH q v) = AS_dec q := rfl
theorem AS_pC_set_pH (q : AS) (v : Nat → Nat) : AS_pC (AS_set_pH q v) = AS_pC q := rfl
theorem AS_pE_set_pH (q : AS) (v : Nat → Nat) : AS_pE (AS_set_pH q v) = AS_pE q := rfl
theorem AS_pS_set_pH (q : AS) (v : Nat → Nat) : AS_pS (AS_set_pH q v) = AS_pS q := rfl
theorem AS_pL_set_pH (q : AS) (v : Nat → Nat) : AS_pL (AS_set_pH q v) = AS_pL q := rfl
theorem AS_pH_set_pH (q : AS) (v : Nat → Nat) : AS_pH (AS_set_pH q v) = v := rfl
theorem AS_pB_set_pH (q : AS) (v : Nat → Nat) : AS_pB (AS_set_pH q v) = AS_pB q := rfl
theorem AS_vA_set_pH (q : AS) (v : Nat → Nat) : AS_vA (AS_set_pH q v) = AS_vA q := rfl
theorem AS_vB_set_pH (q : AS) (v : Nat → Nat) : AS_vB (AS_set_pH q v) = AS_vB q := rfl
theorem AS_vG_set_pH (q : AS) (v : Nat → Nat) : AS_vG (AS_set_pH q v) = AS_vG q := rfl
theorem AS_fH_set_pH (q : AS) (v : Nat → Nat) : AS_fH (AS_set_pH q v) = AS_fH q := rfl
theorem AS_nC_set_pB (q : AS) (v : Nat → Nat) : AS_nC (AS_set_pB q v) = AS_nC q := rfl
theorem AS_nP_set_pB (q : AS) (v : Nat → Nat) : AS_nP (AS_set_pB q v) = AS_nP q := rfl
theorem AS_nV_set_pB (q : AS) (v : Nat → Nat) : AS_nV (AS_set_pB q v) = AS_nV q := rfl
theorem AS_nF_set_pB (q : AS) (v : Nat → Nat) : AS_nF (AS_set_pB q v) = AS_nF q := rfl
theorem AS_vol_set_pB (q : AS) (v : Nat → Nat) : AS_vol (AS_set_pB q v) = AS_vol q := rfl
theorem AS_dec_set_pB (q : AS) (v : Nat → Nat) : AS_dec (AS_set_pB q v) = AS_dec q := rfl
theorem AS_pC_set_pB (q : AS) (v : Nat → Nat) : AS_pC (AS_set_pB q v) = AS_pC q := rfl
theorem AS_pE_set_pB (q : AS) (v : Nat → Nat) : AS_pE (AS_set_pB q v) = AS_pE q := rfl
theorem AS_pS_set_pB (q : AS) (v : Nat → Nat) : AS_pS (AS_set_pB q v) = AS_pS q := rfl
theorem AS_pL_set_pB (q : AS) (v : Nat → Nat) : AS_pL (AS_set_pB q v) = AS_pL q := rfl
theorem AS_pH_set_pB (q : AS) (v : Nat → Nat) : AS_pH (AS_set_pB q v) = AS_pH q := rfl
theorem AS_pB_set_pB (q : AS) (v : Nat → Nat) : AS_pB (AS_set_pB q v) = v := rfl
theorem AS_vA_set_pB (q : AS) (v : Nat → Nat) : AS_vA (AS_set_pB q v) = AS_vA q := rfl
theorem AS_vB_set_pB (q : AS) (v : Nat → Nat) : AS_vB (AS_set_pB q v) = AS_vB q := rfl
theorem AS_vG_set_pB (q : AS) (v : Nat → Nat) : AS_vG (AS_set_pB q v) = AS_vG q := rfl
theorem AS_fH_set_pB (q : AS) (v : Nat → Nat) : AS_fH (AS_set_pB q v) = AS_fH q := rfl
theorem AS_nC_set_vA (q : AS) (v : Nat → Nat) : AS_nC (AS_set_vA q v) = AS_nC q := rfl
theorem AS_nP_set_vA (q : AS) (v : Nat → Nat) : AS_nP (AS_set_vA q v) = AS_nP q := rfl
theorem AS_nV_set_vA (q : AS) (v : Nat → Nat) : AS_nV (AS_set_vA q v) = AS_nV q := rfl
theorem AS_nF_set_vA (q : AS) (v : Nat → Nat) : AS_nF (AS_set_vA q v) = AS_nF q := rfl
theorem AS_vol_set_vA (q : AS) (v : Nat → Nat) : AS_vol (AS_set_vA q v) = AS_vol q := rfl
theorem AS_dec_set_vA (q : AS) (v : Nat → Nat) : AS_dec (AS_set_vA q v) = AS_dec q := rfl
theorem AS_pC_set_vA (q : AS) (v : Nat → Nat) : AS_pC (AS_set_vA q v) = AS_pC q := rfl
theorem AS_pE_set_vA (q : AS) (v : Nat → Nat) : AS_pE (AS_set_vA q v) = AS_pE q := rfl
theorem AS_pS_set_vA (q : AS) (v : Nat → Nat) : AS_pS (AS_set_vA q v) = AS_pS q := rfl
theorem AS_pL_set_vA (q : AS) (v : Nat → Nat) : AS_pL (AS_set_vA q v) = AS_pL q := rfl
theorem AS_pH_set_vA (q : AS) (v : Nat → Nat) : AS_pH (AS_set_vA q v) = AS_pH q := rfl
theorem AS_pB_set_vA (q : AS) (v : Nat → Nat) : AS_pB (AS_set_vA q v) = AS_pB q := rfl
theorem AS_vA_set_vA (q : AS) (v : Nat → Nat) : AS_vA (AS_set_vA q v) = v := rfl
theorem AS_vB_set_vA (q : AS) (v : Nat → Nat) : AS_vB (AS_set_vA q v) = AS_vB q := rfl
theorem AS_vG_set_vA (q : AS) (v : Nat → Nat) : AS_vG (AS_set_vA q v) = AS_vG q := rfl
theorem AS_fH_set_vA (q : AS) (v : Nat → Nat) : AS_fH (AS_set_vA q v) = AS_fH q := rfl
theorem AS_nC_set_vB (q : AS) (v : Nat → Nat) : AS_nC (AS_set_vB q v) = AS_nC q := rfl
theorem AS_nP_set_vB (q : AS) (v : Nat → Nat) : AS_nP (AS_set_vB q v) = AS_nP q := rfl
theorem AS_nV_set_vB (q : AS) (v : Nat → Nat) : AS_nV (AS_set_vB q v) = AS_nV q := rfl
theorem AS_nF_set_vB (q : AS) (v : Nat → Nat) : AS_nF (AS_set_vB q v) = AS_nF q := rfl
theorem AS_vol_set_vB (q : AS) (v : Nat → Nat) : AS_vol (AS_set_vB q v) = AS_vol q := rfl
theorem AS_dec_set_vB (q : AS) (v : Nat → Nat) : AS_dec (AS_set_vB q v) = AS_dec q := rfl
theorem AS_pC_set_vB (q : AS) (v : Nat → Nat) : AS_pC (AS_set_vB q v) = AS_pC q := rfl
theorem AS_pE_set_vB (q : AS) (v : Nat → Nat) : AS_pE (AS_set_vB q v) = AS_pE q := rfl
theorem AS_pS_set_vB (q : AS) (v : Nat → Nat) : AS_pS (AS_set_vB q v) = AS_pS q := rfl
theorem AS_pL_set_vB (q : AS) (v : Nat → Nat) : AS_pL (AS_set_vB q v) = AS_pL q := rfl
theorem AS_pH_set_vB (q : AS) (v : Nat → Nat) : AS_pH (AS_set_vB q v) = AS_pH q := rfl
theorem AS_pB_set_vB (q : AS) (v : Nat → Nat) : AS_pB (AS_set_vB q v) = AS_pB q := rfl
theorem AS_vA_set_vB (q : AS) (v : Nat → Nat) : AS_vA (AS_set_vB q v) = AS_vA q := rfl
theorem AS_vB_set_vB (q : AS) (v : Nat → Nat) : AS_vB (AS_set_vB q v) = v := rfl
theorem AS_vG_set_vB (q : AS) (v : Nat → Nat) : AS_vG (AS_set_vB q v) = AS_vG q := rfl
theorem AS_fH_set_vB (q : AS) (v : Nat → Nat) : AS_fH (AS_set_vB q v) = AS_fH q := rfl
theorem AS_nC_set_vG (q : AS) (v : Nat → Nat) : AS_nC (AS_set_vG q v) = AS_nC q := rfl
theorem AS_nP_set_vG (q : AS) (v : Nat → Nat) : AS_nP (AS_set_vG q v) = AS_nP q := rfl
theorem AS_nV_set_vG (q : AS) (v : Nat → Nat) : AS_nV (AS_set_vG q v) = AS_nV q := rfl
theorem AS_nF_set_vG (q : AS) (v : Nat → Nat) : AS_nF (AS_set_vG q v) = AS_nF q := rfl
theorem AS_vol_set_vG (q : AS) (v : Nat → Nat) : AS_vol (AS_set_vG q v) = AS_vol q := rfl
theorem AS_dec_set_vG (q : AS) (v : Nat → Nat) : AS_dec (AS_set_vG q v) = AS_dec q := rfl
theorem AS_pC_set_vG (q : AS) (v : Nat → Nat) : AS_pC (AS_set_vG q v) = AS_pC q := rfl
theorem AS_pE_set_vG (q : AS) (v : Nat → Nat) : AS_pE (AS_set_vG q v) = AS_pE q := rfl
theorem AS_pS_set_vG (q : AS) (v : Nat → Nat) : AS_pS (AS_set_vG q v) = AS_pS q := rfl
theorem AS_pL_set_vG (q : AS) (v : Nat → Nat) : AS_pL (AS_set_vG q v) = AS_pL q := rfl
theorem AS_pH_set_vG (q : AS) (v : Nat → Nat) : AS_pH (AS_set_vG q v) = AS_pH q := rfl
theorem AS_pB_set_vG (q : AS) (v : Nat → Nat) : AS_pB (AS_set_vG q v) = AS_pB q := rfl
theorem AS_vA_set_vG (q : AS) (v : Nat → Nat) : AS_vA (AS_set_vG q v) = AS_vA q := rfl
theorem AS_vB_set_vG (q : AS) (v : Nat → Nat) : AS_vB (AS_set_vG q v) = AS_vB q := rfl
theorem AS_vG_set_vG (q : AS) (v : Nat → Nat) : AS_vG (AS_set_vG q v) = v := rfl
theorem AS_fH_set_vG (q : AS) (v : Nat → Nat) : AS_fH (AS_set_vG q v) = AS_fH q := rfl
theorem AS_nC_set_fH (q : AS) (v : Nat → Nat) : AS_nC (AS_set_fH q v) = AS_nC q := rfl
theorem AS_nP_set_fH (q : AS) (v : Nat → Nat) : AS_nP (AS_set_fH q v) = AS_nP q := rfl
theorem AS_nV_set_fH (q : AS) (v : Nat → Nat) : AS_nV (AS_set_fH q v) = AS_nV q := rfl
theorem AS_nF_set_fH (q : AS) (v : Nat → Nat) : AS_nF (AS_set_fH q v) = AS_nF q := rfl
theorem AS_vol_set_fH (q : AS) (v : Nat → Nat) : AS_vol (AS_set_fH q v) = AS_vol q := rfl
theorem AS_dec_set_fH (q : AS) (v : Nat → Nat) : AS_dec (AS_set_fH q v) = AS_dec q := rfl
theorem AS_pC_set_fH (q : AS) (v : Nat → Nat) : AS_pC (AS_set_fH q v) = AS_pC q := rfl
theorem AS_pE_set_fH (q : AS) (v : Nat → Nat) : AS_pE (AS_set_fH q v) = AS_pE q := rfl
theorem AS_pS_set_fH (q : AS) (v : Nat → Nat) : AS_pS (AS_set_fH q v) = AS_pS q := rfl
theorem AS_pL_set_fH (q : AS) (v : Nat → Nat) : AS_pL (AS_set_fH q v) = AS_pL q := rfl
theorem AS_pH_set_fH (q : AS) (v : Nat → Nat) : AS_pH (AS_set_fH q v) = AS_pH q := rfl
theorem AS_pB_set_fH (q : AS) (v : Nat → Nat) : AS_pB (AS_set_fH q v) = AS_pB q := rfl
theorem AS_vA_set_fH (q : AS) (v : Nat → Nat) : AS_vA (AS_set_fH q v) = AS_vA q := rfl
theorem AS_vB_set_fH (q : AS) (v : Nat → Nat) : AS_vB (AS_set_fH q v) = AS_vB q := rfl
theorem AS_vG_set_fH (q : AS) (v : Nat → Nat) : AS_vG (AS_set_fH q v) = AS_vG q := rfl
theorem AS_fH_set_fH (q : AS) (v : Nat → Nat) : AS_fH (AS_set_fH q v) = v := rfl
abbrev AD : Type := (Int64) × (Int64) × (Int64) × (Nat) × (Nat → Nat) × (Nat → Nat) × (Nat → Nat) × (Nat → Nat) × (Nat → Bool) × (Nat → Bool) × (Nat → Int64) × (Nat → Int64) × (Nat → Nat → Int64)
def AD_tm (q : AD) : Int64 := q.1
def AD_vTs (q : AD) : Int64 := q.2.1
def AD_pTs (q : AD) : Int64 := q.2.2.1
def AD_kt (q : AD) : Nat := q.2.2.2.1
def AD_gas (q : AD) : Nat → Nat := q.2.2.2.2.1
def AD_oug (q : AD) : Nat → Nat := q.2.2.2.2.2.1
def AD_rul (q : AD) : Nat → Nat := q.2.2.2.2.2.2.1
def AD_lk (q : AD) : Nat → Nat := q.2.2.2.2.2.2.2.1
def AD_opn (q : AD) : Nat → Bool := q.2.2.2.2.2.2.2.2.1
def AD_run (q : AD) : Nat → Bool := q.2.2.2.2.2.2.2.2.2.1
def AD_vT (q : AD) : Nat → Int64 := q.2.2.2.2.2.2.2.2.2.2.1
def AD_pT (q : AD) : Nat → Int64 := q.2.2.2.2.2.2.2.2.2.2.2.1
def AD_tF (q : AD) : Nat → Nat → Int64 := q.2.2.2.2.2.2.2.2.2.2.2.2
def AD_set_tm (q : AD) (v : Int64) : AD := (v, q.2.1, q.2.2.1, q.2.2.2.1, q.2.2.2.2.1, q.2.2.2.2.2.1, q.2.2.2.2.2.2.1, q.2.2.2.2.2.2.2.1, q.2.2.2.2.2.2.2.2.1, q.2.2.2.2.2.2.2.2.2.1, q.2.2.2.2.2.2.2.2.2.2.1, q.2.2.2.2.2.2.2.2.2.2.2.1, q.2.2.2.2.2.2.2.2.2.2.2.2)
def AD_set_vTs (q : AD) (v : Int64) : AD := (q.1, v, q.2.2.1, q.2.2.2.1, q.2.2.2.2.1, q.2.2.2.2.2.1, q.2.2.2.2.2.2.1, q.2.2.2.2.2.2.2.1, q.2.2.2.2.2.2.2.2.1, q.2.2.2.2.2.2.2.2.2.1, q.2.2.2.2.2.2.2.2.2.2.1, q.2.2.2.2.2.2.2.2.2.2.2.1, q.2.2.2.2.2.2.2.2.2.2.2.2)
def AD_set_pTs (q : AD) (v : Int64) : AD := (q.1, q.2.1, v, q.2.2.2.1, q.2.2.2.2.1, q.2.2.2.2.2.1, q.2.2.2.2.2.2.1, q.2.2.2.2.2.2.2.1, q.2.2.2.2.2.2.2.2.1, q.2.2.2.2.2.2.2.2.2.1, q.2.2.2.2.2.2.2.2.2.2.1, q.2.2.2.2.2.2.2.2.2.2.2.1, q.2.2.2.2.2.2.2.2.2.2.2.2)
def AD_set_kt (q : AD) (v : Nat) : AD := (q.1, q.2.1, q.2.2.1, v, q.2.2.2.2.1, q.2.2.2.2.2.1, q.2.2.2.2.2.2.1, q.2.2.2.2.2.2.2.1, q.2.2.2.2.2.2.2.2.1, q.2.2.2.2.2.2.2.2.2.1, q.2.2.2.2.2.2.2.2.2.2.1, q.2.2.2.2.2.2.2.2.2.2.2.1, q.2.2.2.2.2.2.2.2.2.2.2.2)
def AD_set_gas (q : AD) (v : Nat → Nat) : AD := (q.1, q.2.1, q.2.2.1, q.2.2.2.1, v, q.2.2.2.2.2.1, q.2.2.2.2.2.2.1, q.2.2.2.2.2.2.2.1, q.2.2.2.2.2.2.2.2.1, q.2.2.2.2.2.2.2.2.2.1, q.2.2.2.2.2.2.2.2.2.2.1, q.2.2.2.2.2.2.2.2.2.2.2.1, q.2.2.2.2.2.2.2.2.2.2.2.2)
def AD_set_oug (q : AD) (v : Nat → Nat) : AD := (q.1, q.2.1, q.2.2.1, q.2.2.2.1, q.2.2.2.2.1, v, q.2.2.2.2.2.2.1, q.2.2.2.2.2.2.2.1, q.2.2.2.2.2.2.2.2.1, q.2.2.2.2.2.2.2.2.2.1, q.2.2.2.2.2.2.2.2.2.2.1, q.2.2.2.2.2.2.2.2.2.2.2.1, q.2.2.2.2.2.2.2.2.2.2.2.2)
def AD_set_rul (q : AD) (v : Nat → Nat) : AD := (q.1, q.2.1, q.2.2.1, q.2.2.2.1, q.2.2.2.2.1, q.2.2.2.2.2.1, v, q.2.2.2.2.2.2.2.1, q.2.2.2.2.2.2.2.2.1, q.2.2.2.2.2.2.2.2.2.1, q.2.2.2.2.2.2.2.2.2.2.1, q.2.2.2.2.2.2.2.2.2.2.2.1, q.2.2.2.2.2.2.2.2.2.2.2.2)
def AD_set_lk (q : AD) (v : Nat → Nat) : AD := (q.1, q.2.1, q.2.2.1, q.2.2.2.1, q.2.2.2.2.1, q.2.2.2.2.2.1, q.2.2.2.2.2.2.1, v, q.2.2.2.2.2.2.2.2.1, q.2.2.2.2.2.2.2.2.2.1, q.2.2.2.2.2.2.2.2.2.2.1, q.2.2.2.2.2.2.2.2.2.2.2.1, q.2.2.2.2.2.2.2.2.2.2.2.2)
def AD_set_opn (q : AD) (v : Nat → Bool) : AD := (q.1, q.2.1, q.2.2.1, q.2.2.2.1, q.2.2.2.2.1, q.2.2.2.2.2.1, q.2.2.2.2.2.2.1, q.2.2.2.2.2.2.2.1, v, q.2.2.2.2.2.2.2.2.2.1, q.2.2.2.2.2.2.2.2.2.2.1, q.2.2.2.2.2.2.2.2.2.2.2.1, q.2.2.2.2.2.2.2.2.2.2.2.2)
def AD_set_run (q : AD) (v : Nat → Bool) : AD := (q.1, q.2.1, q.2.2.1, q.2.2.2.1, q.2.2.2.2.1, q.2.2.2.2.2.1, q.2.2.2.2.2.2.1, q.2.2.2.2.2.2.2.1, q.2.2.2.2.2.2.2.2.1, v, q.2.2.2.2.2.2.2.2.2.2.1, q.2.2.2.2.2.2.2.2.2.2.2.1, q.2.2.2.2.2.2.2.2.2.2.2.2)
def AD_set_vT (q : AD) (v : Nat → Int64) : AD := (q.1, q.2.1, q.2.2.1, q.2.2.2.1, q.2.2.2.2.1, q.2.2.2.2.2.1, q.2.2.2.2.2.2.1, q.2.2.2.2.2.2.2.1, q.2.2.2.2.2.2.2.2.1, q.2.2.2.2.2.2.2.2.2.1, v, q.2.2.2.2.2.2.2.2.2.2.2.1, q.2.2.2.2.2.2.2.2.2.2.2.2)
def AD_set_pT (q : AD) (v : Nat → Int64) : AD := (q.1, q.2.1, q.2.2.1, q.2.2.2.1, q.2.2.2.2.1, q.2.2.2.2.2.1, q.2.2.2.2.2.2.1, q.2.2.2.2.2.2.2.1, q.2.2.2.2.2.2.2.2.1, q.2.2.2.2.2.2.2.2.2.1, q.2.2.2.2.2.2.2.2.2.2.1, v, q.2.2.2.2.2.2.2.2.2.2.2.2)
def AD_set_tF (q : AD) (v : Nat → Nat → Int64) : AD := (q.1, q.2.1, q.2.2.1, q.2.2.2.1, q.2.2.2.2.1, q.2.2.2.2.2.1, q.2.2.2.2.2.2.1, q.2.2.2.2.2.2.2.1, q.2.2.2.2.2.2.2.2.1, q.2.2.2.2.2.2.2.2.2.1, q.2.2.2.2.2.2.2.2.2.2.1, q.2.2.2.2.2.2.2.2.2.2.2.1, v)
theorem AD_tm_set_tm (q : AD) (v : Int64) : AD_tm (AD_set_tm q v) = v := rfl
theorem AD_vTs_set_tm (q : AD) (v : Int64) : AD_vTs (AD_set_tm q v) = AD_vTs q := rfl
theorem AD_pTs_set_tm (q : AD) (v : Int64) : AD_pTs (AD_set_tm q v) = AD_pTs q := rfl
theorem AD_kt_set_tm (q : AD) (v : Int64) : AD_kt (AD_set_tm q v) = AD_kt q := rfl
theorem AD_gas_set_tm (q : AD) (v : Int64) : AD_gas (AD_set_tm q v) = AD_gas q := rfl
theorem AD_oug_set_tm (q : AD) (v : Int64) : AD_oug (AD_set_tm q v) = AD_oug q := rfl
theorem AD_rul_set_tm (q : AD) (v : Int64) : AD_rul (AD_set_tm q v) = AD_rul q := rfl
theorem AD_lk_set_tm (q : AD) (v : Int64) : AD_lk (AD_set_tm q v) = AD_lk q := rfl
theorem AD_opn_set_tm (q : AD) (v : Int64) : AD_opn (AD_set_tm q v) = AD_opn q := rfl
theorem AD_run_set_tm (q : AD) (v : Int64) : AD_run (AD_set_tm q v) = AD_run q := rfl
theorem AD_vT_set_tm (q : AD) (v : Int64) : AD_vT (AD_set_tm q v) = AD_vT q := rfl
theorem AD_pT_set_tm (q : AD) (v : Int64) : AD_pT (AD_set_tm q v) = AD_pT q := rfl
theorem AD_tF_set_tm (q : AD) (v : Int64) : AD_tF (AD_set_tm q v) = AD_tF q := rfl
theorem AD_tm_set_vTs (q : AD) (v : Int64) : AD_tm (AD_set_vTs q v) = AD_tm q := rfl
theorem AD_vTs_set_vTs (q : AD) (v : Int64) : AD_vTs (AD_set_vTs q v) = v := rfl
theorem AD_pTs_set_vTs (q : AD) (v : Int64) : AD_pTs (AD_set_vTs q v) = AD_pTs q := rfl
theorem AD_kt_set_vTs (q : AD) (v : Int64) : AD_kt (AD_set_vTs q v) = AD_kt q := rfl
theorem AD_gas_set_vTs (q : AD) (v : Int64) : AD_gas (AD_set_vTs q v) = AD_gas q := rfl
theorem AD_oug_set_vTs (q : AD) (v : Int64) : AD_oug (AD_set_vTs q v) = AD_oug q := rfl
theorem AD_rul_set_vTs (q : AD) (v : Int64) : AD_rul (AD_set_vTs q v) = AD_rul q := rfl
theorem AD_lk_set_vTs (q : AD) (v : Int64) : AD_lk (AD_set_vTs q v) = AD_lk q := rfl
theorem AD_opn_set_vTs (q : AD) (v : Int64) : AD_opn (AD_set_vTs q v) = AD_opn q := rfl
theorem AD_run_set_vTs (q : AD) (v : Int64) : AD_run (AD_set_vTs q v) = AD_run q := rfl
theorem AD_vT_set_vTs (q : AD) (v : Int64) : AD_vT (AD_set_vTs q v) = AD_vT q := rfl
theorem AD_pT_set_vTs (q : AD) (v : Int64) : AD_pT (AD_set_vTs q v) = AD_pT q := rfl
theorem AD_tF_set_vTs (q : AD) (v : Int64) : AD_tF (AD_set_vTs q v) = AD_tF q := rfl
theorem AD_tm_set_pTs (q : AD) (v : Int64) : AD_tm (AD_set_pTs q v) = AD_tm q := rfl
theorem AD_vTs_set_pTs (q : AD) (v : Int64) : AD_vTs (AD_set_pTs q v) = AD_vTs q := rfl
theorem AD_pTs_set_pTs (q : AD) (v : Int64) : AD_pTs (AD_set_pTs q v) = v := rfl
theorem AD_kt_set_pTs (q : AD) (v : Int64) : AD_kt (AD_set_pTs q v) = AD_kt q := rfl
theorem AD_gas_set_pTs (q : AD) (v : Int64) : AD_gas (AD_set_pTs q v) = AD_gas q := rfl
theorem AD_oug_set_pTs (q : AD) (v : Int64) : AD_oug (AD_set_pTs q v) = AD_oug q := rfl
theorem AD_rul_set_pTs (q : AD) (v : Int64) : AD_rul (AD_set_pTs q v) = AD_rul q := rfl
theorem AD_lk_set_pTs (q : AD) (v : Int64) : AD_lk (AD_set_pTs q v) = AD_lk q := rfl
theorem AD_opn_set_pTs (q : AD) (v : Int64) : AD_opn (AD_set_pTs q v) = AD_opn q := rfl
theorem AD_run_set_pTs (q : AD) (v : Int64) : AD_run (AD_set_pTs q v) = AD_run q := rfl
theorem AD_vT_set_pTs (q : AD) (v : Int64) : AD_vT (AD_set_pTs q v) = AD_vT q := rfl
theorem AD_pT_set_pTs (q : AD) (v : Int64) : AD_pT (AD_set_pTs q v) = AD_pT q := rfl
theorem AD_tF_set_pTs (q : AD) (v : Int64) : AD_tF (AD_set_pTs q v) = AD_tF q := rfl
theorem AD_tm_set_kt (q : AD) (v : Nat) : AD_tm (AD_set_kt q v) = AD_tm q := rfl
theorem AD_vTs_set_kt (q : AD) (v : Nat) : AD_vTs (AD_set_kt q v) = AD_vTs q := rfl
theorem AD_pTs_set_kt (q : AD) (v : Nat) : AD_pTs (AD_set_kt q v) = AD_pTs q := rfl
theorem AD_kt_set_kt (q : AD) (v : Nat) : AD_kt (AD_set_kt q v) = v := rfl
theorem AD_gas_set_kt (q : AD) (v : Nat) : AD_gas (AD_set_kt q v) = AD_gas q := rfl
theorem AD_oug_set_kt (q : AD) (v : Nat) : AD_oug (AD_set_kt q v) = AD_oug q := rfl
theorem AD_rul_set_kt (q : AD) (v : Nat) : AD_rul (AD_set_kt q v) = AD_rul q := rfl
theorem AD_lk_set_kt (q : AD) (v : Nat) : AD_lk (AD_set_kt q v) = AD_lk q := rfl
theorem AD_opn_set_kt (q : AD) (v : Nat) : AD_opn (AD_set_kt q v) = AD_opn q := rfl
theorem AD_run_set_kt (q : AD) (v : Nat) : AD_run (AD_set_kt q v) = AD_run q := rfl
theorem AD_vT_set_kt (q : AD) (v : Nat) : AD_vT (AD_set_kt q v) = AD_vT q := rfl
theorem AD_pT_set_kt (q : AD) (v : Nat) : AD_pT (AD_set_kt q v) = AD_pT q := rfl
theorem AD_tF_set_kt (q : AD) (v : Nat) : AD_tF (AD_set_kt q v) = AD_tF q := rfl
theorem AD_tm_set_gas (q : AD) (v : Nat → Nat) : AD_tm (AD_set_gas q v) = AD_tm q := rfl
theorem AD_vTs_set_gas (q : AD) (v : Nat → Nat) : AD_vTs (AD_set_gas q v) = AD_vTs q := rfl
theorem AD_pTs_set_gas (q : AD) (v : Nat → Nat) : AD_pTs (AD_set_gas q v) = AD_pTs q := rfl
theorem AD_kt_set_gas (q : AD) (v : Nat → Nat) : AD_kt (AD_set_gas q v) = AD_kt q := rfl
theorem AD_gas_set_gas (q : AD) (v : Nat → Nat) : AD_gas (AD_set_gas q v) = v := rfl
theorem AD_oug_set_gas (q : AD) (v : Nat → Nat) : AD_oug (AD_set_gas q v) = AD_oug q := rfl
theorem AD_rul_set_gas (q : AD) (v : Nat → Nat) : AD_rul (AD_set_gas q v) = AD_rul q := rfl
theorem AD_lk_set_gas (q : AD) (v : Nat → Nat) : AD_lk (AD_set_gas q v) = AD_lk q := rfl
theorem AD_opn_set_gas (q : AD) (v : Nat → Nat) : AD_opn (AD_set_gas q v) = AD_opn q := rfl
theorem AD_run_set_gas (q : AD) (v : Nat → Nat) : AD_run (AD_set_gas q v) = AD_run q := rfl
theorem AD_vT_set_gas (q : AD) (v : Nat → Nat) : AD_vT (AD_set_gas q v) = AD_vT q := rfl
theorem AD_pT_set_gas (q : AD) (v : Nat → Nat) : AD_pT (AD_set_gas q v) = AD_pT q := rfl
theorem AD_tF_set_gas (q : AD) (v : Nat → Nat) : AD_tF (AD_set_gas q v) = AD_tF q := rfl
theorem AD_tm_set_oug (q : AD) (v : Nat → Nat) : AD_tm (AD_set_oug q v) = AD_tm q := rfl
theorem AD_vTs_set_oug (q : AD) (v : Nat → Nat) : AD_vTs (AD_set_oug q v) = AD_vTs q := rfl
theorem AD_pTs_set_oug (q : AD) (v : Nat → Nat) : AD_pTs (AD_set_oug q v) = AD_pTs q := rfl
theorem AD_kt_set_oug (q : AD) (v : Nat → Nat) : AD_kt (AD_set_oug q v) = AD_kt q := rfl
theorem AD_gas_set_oug (q : AD) (v : Nat → Nat) : AD_gas (AD_set_oug q v) = AD_gas q := rfl
theorem AD_oug_set_oug (q : AD) (v : Nat → Nat) : AD_oug (AD_set_oug q v) = v := rfl
theorem AD_rul_set_oug (q : AD) (v : Nat → Nat) : AD_rul (AD_set_oug q v) = AD_rul q := rfl
theorem AD_lk_set_oug (q : AD) (v : Nat → Nat) : AD_lk (AD_set_oug q v) = AD_lk q := rfl
theorem AD_opn_set_oug (q : AD) (v : Nat → Nat) : AD_opn (AD_set_oug q v) = AD_opn q := rfl
theorem AD_run_set_oug (q : AD) (v : Nat → Nat) : AD_run (AD_set_oug q v) = AD_run q := rfl
theorem AD_vT_set_oug (q : AD) (v : Nat → Nat) : AD_vT (AD_set_oug q v) = AD_vT q := rfl
theorem AD_pT_set_oug (q : AD) (v : Nat → Nat) : AD_pT (AD_set_oug q v) = AD_pT q := rfl
theorem AD_tF_set_oug (q : AD) (v : Nat → Nat) : AD_tF (AD_set_oug q v) = AD_tF q := rfl
theorem AD_tm_set_rul (q : AD) (v : Nat → Nat) : AD_tm (AD_set_rul q v) = AD_tm q := rfl
theorem AD_vTs_set_rul (q : AD) (v : Nat → Nat) : AD_vTs (AD_set_rul q v) = AD_vTs q := rfl
theorem AD_pTs_set_rul (q : AD) (v : Nat → Nat) : AD_pTs (AD_set_rul q v) = AD_pTs q := rfl
theorem AD_kt_set_rul (q : AD) (v : Nat → Nat) : AD_kt (AD_set_rul q v) = AD_kt q := rfl
theorem AD_gas_set_rul (q : AD) (v : Nat → Nat) : AD_gas (AD_set_rul q v) = AD_gas q := rfl
theorem AD_oug_set_rul (q : AD) (v : Nat → Nat) : AD_oug (AD_set_rul q v) = AD_oug q := rfl
theorem AD_rul_set_rul (q : AD) (v : Nat → Nat) : AD_rul (AD_set_rul q v) = v := rfl
theorem AD_lk_set_rul (q : AD) (v : Nat → Nat) : AD_lk (AD_set_rul q v) = AD_lk q := rfl
theorem AD_opn_set_rul (q : AD) (v : Nat → Nat) : AD_opn (AD_set_rul q v) = AD_opn q := rfl
theorem AD_run_set_rul (q : AD) (v : Nat → Nat) : AD_run (AD_set_rul q v) = AD_run q := rfl
theorem AD_vT_set_rul (q : AD) (v : Nat → Nat) : AD_vT (AD_set_rul q v) = AD_vT q := rfl
theorem AD_pT_set_rul (q : AD) (v : Nat → Nat) : AD_pT (AD_set_rul q v) = AD_pT q := rfl
theorem AD_tF_set_rul (q : AD) (v : Nat → Nat) : AD_tF (AD_set_rul q v) = AD_tF q := rfl
theorem AD_tm_set_lk (q : AD) (v : Nat → Nat) : AD_tm (AD_set_lk q v) = AD_tm q := rfl
theorem AD_vTs_set_lk (q : AD) (v : Nat → Nat) : AD_vTs (AD_set_lk q v) = AD_vTs q := rfl
theorem AD_pTs_set_lk (q : AD) (v : Nat → Nat) : AD_pTs (AD_set_lk q v) = AD_pTs q := rfl
theorem AD_kt_set_lk (q : AD) (v : Nat → Nat) : AD_kt (AD_set_lk q v) = AD_kt q := rfl
theorem AD_gas_set_lk (q : AD) (v : Nat → Nat) : AD_gas (AD_set_lk q v) = AD_gas q := rfl
theorem AD_oug_set_lk (q : AD) (v : Nat → Nat) : AD_oug (AD_set_lk q v) = AD_oug q := rfl
theorem AD_rul_set_lk (q : AD) (v : Nat → Nat) : AD_rul (AD_set_lk q v) = AD_rul q := rfl
theorem AD_lk_set_lk (q : AD) (v : Nat → Nat) : AD_lk (AD_set_lk q v) = v := rfl
theorem AD_opn_set_lk (q : AD) (v : Nat → Nat) : AD_opn (AD_set_lk q v) = AD_opn q := rfl
theorem AD_run_set_lk (q : AD) (v : Nat → Nat) : AD_run (AD_set_lk q v) = AD_run q := rfl
theorem AD_vT_set_lk (q : AD) (v : Nat → Nat) : AD_vT (AD_set_lk q v) = AD_vT q := rfl
theorem AD_pT_set_lk (q : AD) (v : Nat → Nat) : AD_pT (AD_set_lk q v) = AD_pT q := rfl
theorem AD_tF_set_lk (q : AD) (v : Nat → Nat) : AD_tF (AD_set_lk q v) = AD_tF q := rfl
theorem AD_tm_set_opn (q : AD) (v : Nat → Bool) : AD_tm (AD_set_opn q v) = AD_tm q := rfl
theorem AD_vTs_set_opn (q : AD) (v : Nat → Bool) : AD_vTs (AD_set_opn q v) = AD_vTs q := rfl
theorem AD_pTs_set_opn (q : AD) (v : Nat → Bool) : AD_pTs (AD_set_opn q v) = AD_pTs q := rfl
theorem AD_kt_set_opn (q : AD) (v : Nat → Bool) : AD_kt (AD_set_opn q v) = AD_kt q := rfl
theorem AD_gas_set_opn (q : AD) (v : Nat → Bool) : AD_gas (AD_set_opn q v) = AD_gas q := rfl
theorem AD_oug_set_opn (q : AD) (v : Nat → Bool) : AD_oug (AD_set_opn q v) = AD_oug q := rfl
theorem AD_rul_set_opn (q : AD) (v : Nat → Bool) : AD_rul (AD_set_opn q v) = AD_rul q := rfl
theorem AD_lk_set_opn (q : AD) (v : Nat → Bool) : AD_lk (AD_set_opn q v) = AD_lk q := rfl
theorem AD_opn_set_opn (q : AD) (v : Nat → Bool) : AD_opn (AD_set_opn q v) = v := rfl
theorem AD_run_set_opn (q : AD) (v : Nat → Bool) : AD_run (AD_set_opn q v) = AD_run q := rfl
theorem AD_vT_set_opn (q : AD) (v : Nat → Bool) : AD_vT (AD_set_opn q v) = AD_vT q := rfl
theorem AD_pT_set_opn (q : AD) (v : Nat → Bool) : AD_pT (AD_set_opn q v) = AD_pT q := rfl
theorem AD_tF_set_opn (q : AD) (v : Nat → Bool) : AD_tF (AD_set_opn q v) = AD_tF q := rfl
theorem AD_tm_set_run (q : AD) (v : Nat → Bool) : AD_tm (AD_set_run q v) = AD_tm q := rfl
theorem AD_vTs_set_run (q : AD) (v : Nat → Bool) : AD_vTs (AD_set_run q v) = AD_vTs q := rfl
theorem AD_pTs_set_run (q : AD) (v : Nat → Bool) : AD_pTs (AD_set_run q v) = AD_pTs q := rfl
theorem AD_kt_set_run (q : AD) (v : Nat → Bool) : AD_kt (AD_set_run q v) = AD_kt q := rfl
theorem AD_gas_set_run (q : AD) (v : Nat → Bool) : AD_gas (AD_set_run q v) = AD_gas q := rfl
theorem AD_oug_set_run (q : AD) (v : Nat → Bool) : AD_oug (AD_set_run q v) = AD_oug q := rfl
theorem AD_rul_set_run (q : AD) (v : Nat → Bool) : AD_rul (AD_set_run q v) = AD_rul q := rfl
theorem AD_lk_set_run (q : AD) (v : Nat → Bool) : AD_lk (AD_set_run q v) = AD_lk q := rfl
theorem AD_opn_set_run (q : AD) (v : Nat → Bool) : AD_opn (AD_set_run q v) = AD_opn q := rfl
theorem AD_run_set_run (q : AD) (v : Nat → Bool) : AD_run (AD_set_run q v) = v := rfl
theorem AD_vT_set_run (q : AD) (v : Nat → Bool) : AD_vT (AD_set_run q v) = AD_vT q := rfl
theorem AD_pT_set_run (q : AD) (v : Nat → Bool) : AD_pT (AD_set_run q v) = AD_pT q := rfl
theorem AD_tF_set_run (q : AD) (v : Nat → Bool) : AD_tF (AD_set_run q v) = AD_tF q := rfl
theorem AD_tm_set_vT (q : AD) (v : Nat → Int64) : AD_tm (AD_set_vT q v) = AD_tm q := rfl
theorem AD_vTs_set_vT (q : AD) (v : Nat → Int64) : AD_vTs (AD_set_vT q v) = AD_vTs q := rfl
theorem AD_pTs_set_vT (q : AD) (v : Nat → Int64) : AD_pTs (AD_set_vT q v) = AD_pTs q := rfl
theorem AD_kt_set_vT (q : AD) (v : Nat → Int64) : AD_kt (AD_set_vT q v) = AD_kt q := rfl
theorem AD_gas_set_vT (q : AD) (v : Nat → Int64) : AD_gas (AD_set_vT q v) = AD_gas q := rfl
theorem AD_oug_set_vT (q : AD) (v : Nat → Int64) : AD_oug (AD_set_vT q v) = AD_oug q := rfl
theorem AD_rul_set_vT (q : AD) (v : Nat → Int64) : AD_rul (AD_set_vT q v) = AD_rul q := rfl
theorem AD_lk_set_vT (q : AD) (v : Nat → Int64) : AD_lk (AD_set_vT q v) = AD_lk q := rfl
theorem AD_opn_set_vT (q : AD) (v : Nat → Int64) : AD_opn (AD_set_vT q v) = AD_opn q := rfl
theorem AD_run_set_vT (q : AD) (v : Nat → Int64) : AD_run (AD_set_vT q v) = AD_run q := rfl
theorem AD_vT_set_vT (q : AD) (v : Nat → Int64) : AD_vT (AD_set_vT q v) = v := rfl
theorem AD_pT_set_vT (q : AD) (v : Nat → Int64) : AD_pT (AD_set_vT q v) = AD_pT q := rfl
theorem AD_tF_set_vT (q : AD) (v : Nat → Int64) : AD_tF (AD_set_vT q v) = AD_tF q := rfl
theorem AD_tm_set_pT (q : AD) (v : Nat → Int64) : AD_tm (AD_set_pT q v) = AD_tm q := rfl
theorem AD_vTs_set_pT (q : AD) (v : Nat → Int64) : AD_vTs (AD_set_pT q v) = AD_vTs q := rfl
theorem AD_pTs_set_pT (q : AD) (v : Nat → Int64) : AD_pTs (AD_set_pT q v) = AD_pTs q := rfl
theorem AD_kt_set_pT (q : AD) (v : Nat → Int64) : AD_kt (AD_set_pT q v) = AD_kt q := rfl
theorem AD_gas_set_pT (q : AD) (v : Nat → Int64) : AD_gas (AD_set_pT q v) = AD_gas q := rfl
theorem AD_oug_set_pT (q : AD) (v : Nat → Int64) : AD_oug (AD_set_pT q v) = AD_oug q := rfl
theorem AD_rul_set_pT (q : AD) (v : Nat → Int64) : AD_rul (AD_set_pT q v) = AD_rul q := rfl
theorem AD_lk_set_pT (q : AD) (v : Nat → Int64) : AD_lk (AD_set_pT q v) = AD_lk q := rfl
theorem AD_opn_set_pT (q : AD) (v : Nat → Int64) : AD_opn (AD_set_pT q v) = AD_opn q := rfl
theorem AD_run_set_pT (q : AD) (v : Nat → Int64) : AD_run (AD_set_pT q v) = AD_run q := rfl
theorem AD_vT_set_pT (q : AD) (v : Nat → Int64) : AD_vT (AD_set_pT q v) = AD_vT q := rfl
theorem AD_pT_set_pT (q : AD) (v : Nat → Int64) : AD_pT (AD_set_pT q v) = v := rfl
theorem AD_tF_set_pT (q : AD) (v : Nat → Int64) : AD_tF (AD_set_pT q v) = AD_tF q := rfl
theorem AD_tm_set_tF (q : AD) (v : Nat → Nat → Int64) : AD_tm (AD_set_tF q v) = AD_tm q := rfl
theorem AD_vTs_set_tF (q : AD) (v : Nat → Nat → Int64) : AD_vTs (AD_set_tF q v) = AD_vTs q := rfl
theorem AD_pTs_set_tF (q : AD) (v : Nat → Nat → Int64) : AD_pTs (AD_set_tF q v) = AD_pTs q := rfl
theorem AD_kt_set_tF (q : AD) (v : Nat → Nat → Int64) : AD_kt (AD_set_tF q v) = AD_kt q := rfl
theorem AD_gas_set_tF (q : AD) (v : Nat → Nat → Int64) : AD_gas (AD_set_tF q v) = AD_gas q := rfl
theorem AD_oug_set_tF (q : AD) (v : Nat → Nat → Int64) : AD_oug (AD_set_tF q v) = AD_oug q := rfl
theorem AD_rul_set_tF (q : AD) (v : Nat → Nat → Int64) : AD_rul (AD_set_tF q v) = AD_rul q := rfl
theorem AD_lk_set_tF (q : AD) (v : Nat → Nat → Int64) : AD_lk (AD_set_tF q v) = AD_lk q := rfl
theorem AD_opn_set_tF (q : AD) (v : Nat → Nat → Int64) : AD_opn (AD_set_tF q v) = AD_opn q := rfl
theorem AD_run_set_tF (q : AD) (v : Nat → Nat → Int64) : AD_run (AD_set_tF q v) = AD_run q := rfl
theorem AD_vT_set_tF (q : AD) (v : Nat → Nat → Int64) : AD_vT (AD_set_tF q v) = AD_vT q := rfl
theorem AD_pT_set_tF (q : AD) (v : Nat → Nat → Int64) : AD_pT (AD_set_tF q v) = AD_pT q := rfl
theorem AD_tF_set_tF (q : AD) (v : Nat → Nat → Int64) : AD_tF (AD_set_tF q v) = v := rfl
def setN {α : Type} (f : Nat → α) (k : Nat) (x : α) : Nat → α := fun i => if i = k then x else f i
theorem setN_self {α : Type} (f : Nat → α) (k : Nat) (x : α) : setN f k x k = x := if_pos rfl
theorem setN_ne {α : Type} (f : Nat → α) {k i : Nat} (x : α) (h : i ≠ k) : setN f k x i = f i := if_neg h
def goN {σ : Type} (f : Nat → σ → σ) : Nat → Nat → σ → σ
  | 0, _, s => s
  | n + 1, v, s => goN f n (v + 1) (f v s)
theorem goN_ind {σ : Type} {f : Nat → σ → σ} {P : σ → Prop} : ∀ {n v : Nat} {s : σ}, P s → (∀ i t, v ≤ i → i < v + n → P t → P (f i t)) → P (goN f n v s)
  | 0, _, _, h, _ => h
  | n + 1, v, _, h, st => goN_ind (n := n) (v := v + 1) (st v _ (Nat.le_refl v) (by omega) h) (fun i t h1 h2 ht => st i t (by omega) (by omega) ht)
def PMAX : Nat := 1000250000
/-- the numbers of a system's parts -/
def WFs (a : AS) : Prop :=
  (AS_nC a ≤ 8 ∧ AS_nP a ≤ 6 ∧ AS_nV a ≤ 10 ∧ AS_nF a ≤ 24) ∧
  (∀ c, c < AS_nC a → 1 ≤ AS_vol a c ∧ AS_vol a c ≤ 999 ∧ AS_dec a c ≤ 999) ∧
  (∀ p, p < AS_nP a → AS_pC a p < AS_nC a ∧ (AS_pE a p = 8 ∨ AS_pE a p < AS_nC a) ∧ AS_pE a p ≠ AS_pC a p ∧ 1 ≤ AS_pS a p ∧ AS_pS a p ≤ 999 ∧ AS_pL a p ≤ 1000000 ∧ AS_pH a p ≤ 1000000 ∧ AS_pB a p ≤ 1000000) ∧
  (∀ v, v < AS_nV a → AS_vA a v < AS_nC a ∧ (AS_vB a v = 8 ∨ AS_vB a v < AS_nC a) ∧ AS_vB a v ≠ AS_vA a v ∧ 1 ≤ AS_vG a v ∧ AS_vG a v ≤ 999) ∧
  (∀ f, f < AS_nF a → AS_fH a f < AS_nC a)
/-- the class's layout -/
def RCs (a : AS) (ly : LL) : Prop :=
  (LL_chambers ly = i4 (AS_nC a) ∧ LL_pumps ly = i4 (AS_nP a) ∧ LL_valves ly = i4 (AS_nV a) ∧ LL_flanges ly = i4 (AS_nF a)) ∧
  (∀ c, c < AS_nC a → LL_volume ly c = i4 (AS_vol a c) ∧ LL_decay ly c = i4 (AS_dec a c)) ∧
  (∀ p, p < AS_nP a → LL_pumpChamber ly p = i4 (AS_pC a p) ∧ LL_exhaust ly p = i4 (AS_pE a p) ∧ LL_speed ly p = i4 (AS_pS a p) ∧ LL_low ly p = i4 (AS_pL a p) ∧ LL_high ly p = i4 (AS_pH a p) ∧ (AS_pE a p ≠ 8 → LL_backing ly p = i4 (AS_pB a p))) ∧
  (∀ v, v < AS_nV a → LL_valveChamber ly v = i4 (AS_vA a v) ∧ LL_otherSide ly v = i4 (AS_vB a v) ∧ LL_conductance ly v = i4 (AS_vG a v)) ∧
  (∀ f, f < AS_nF a → LL_flangeChamber ly f = i4 (AS_fH a f))
def mE (e : Nat) : Int64 := if e = 8 then -1 else i8 e
def b8 (b : Bool) : Int64 := if b then 1 else 0
def lks (a : AS) (d : AD) (c : Nat) : Nat := sumN (fun f => if AS_fH a f = c then AD_lk d f else 0) (AS_nF a)
def prz (a : AS) (d : AD) (c : Nat) : Nat := if c = 8 then 1000000 else AD_gas d c / AS_vol a c
def dif (a : AS) (d : AD) (v : Nat) : Nat := (prz a d (AS_vA a v) - prz a d (AS_vB a v)) + (prz a d (AS_vB a v) - prz a d (AS_vA a v))
def sum8 (g : Nat → Int64) : Nat → Int64
  | 0 => 0
  | n + 1 => sum8 g n + g n
def WFd (a : AS) (d : AD) : Prop :=
  (∀ c, c < AS_nC a → AD_gas d c < (PMAX + 1) * AS_vol a c ∧ AD_oug d c ≤ 9999) ∧
  (∀ v, v < AS_nV a → AD_rul d v ≤ 1000000) ∧
  (∀ f, f < AS_nF a → AD_lk d f ≤ 9999) ∧
  AD_kt d ≤ 10 ∧ sum8 (AD_vT d) (AS_nV a) = AD_vTs d ∧ sum8 (AD_pT d) (AS_nP a) = AD_pTs d
/-- the class's state: gas, pressures -/
def RCg (a : AS) (d : AD) (S : SS) : Prop :=
  (∀ c, c < AS_nC a → SS_gas S c = i8 (AD_gas d c) ∧ SS_pressure S c = i4 (AD_gas d c / AS_vol a c)) ∧ SS_pressure S 8 = i4 1000000
def RCo (a : AS) (d : AD) (S : SS) : Prop := ∀ c, c < AS_nC a → SS_outgassing S c = i4 (AD_oug d c)
def RCl (a : AS) (d : AD) (S : SS) : Prop := (∀ c, c < AS_nC a → SS_leakSum S c = i4 (lks a d c)) ∧ ∀ f, f < AS_nF a → SS_leak S f = i4 (AD_lk d f)
def RCr (a : AS) (d : AD) (S : SS) : Prop := ∀ v, v < AS_nV a → SS_rule S v = i4 (AD_rul d v)
def RCv (a : AS) (d : AD) (S : SS) : Prop := ∀ v, v < AS_nV a → bit (SS_openValves S) v = AD_opn d v ∧ SS_valveTrips S v = (AD_vT d v).toInt32
def RCp (a : AS) (d : AD) (S : SS) : Prop := ∀ p, p < AS_nP a → bit (SS_runningPumps S) p = AD_run d p ∧ SS_pumpTrips S p = (AD_pT d p).toInt32
/-- the place in the ring of the test that was made so many tests ago -/
def rg (nx ago : Nat) : Nat := (nx + 9 - ago) % 10
def RCt (d : AD) (S : SS) : Prop := SS_kept S = i4 (AD_kt d) ∧ ∃ nx, nx < 10 ∧ SS_next S = i4 nx ∧ ∀ g, g < AD_kt d →
  (∀ j, j < 4 → SS_facts S (4 * rg nx g + j) = (AD_tF d g j).toInt32) ∧ SS_rises S (2 * rg nx g) = AD_tF d g 4 ∧ SS_rises S (2 * rg nx g + 1) = AD_tF d g 5
def RCd (a : AS) (d : AD) (S : SS) : Prop := SS_time S = (AD_tm d).toInt32 ∧ RCg a d S ∧ RCo a d S ∧ RCl a d S ∧ RCr a d S ∧ RCv a d S ∧ RCp a d S ∧ RCt d S
abbrev OKc (a : AS) (d : AD) (ly : LL) (S : SS) : Prop := WFs a ∧ WFd a d ∧ RCs a ly ∧ RCd a d S
