/-! what a state is, and how it lies in the world -/
abbrev TT : Type := (Nat → Int32) × (Int32)
def TT_bytes (q : TT) : Nat → Int32 := q.1
def TT_length (q : TT) : Int32 := q.2
def TT_set_bytes (q : TT) (v : Nat → Int32) : TT := (v, q.2)
def TT_set_length (q : TT) (v : Int32) : TT := (q.1, v)
theorem TT_bytes_set_bytes (q : TT) (v : Nat → Int32) : TT_bytes (TT_set_bytes q v) = v := rfl
theorem TT_length_set_bytes (q : TT) (v : Nat → Int32) : TT_length (TT_set_bytes q v) = TT_length q := rfl
theorem TT_bytes_set_length (q : TT) (v : Int32) : TT_bytes (TT_set_length q v) = TT_bytes q := rfl
theorem TT_length_set_length (q : TT) (v : Int32) : TT_length (TT_set_length q v) = v := rfl
abbrev RR : Type := (Int32) × (Int32) × (Int32) × (Int32) × (Int32) × (Int32)
def RR_kind (q : RR) : Int32 := q.1
def RR_start (q : RR) : Int32 := q.2.1
def RR_end_ (q : RR) : Int32 := q.2.2.1
def RR_value (q : RR) : Int32 := q.2.2.2.1
def RR_errorCode (q : RR) : Int32 := q.2.2.2.2.1
def RR_errorPosition (q : RR) : Int32 := q.2.2.2.2.2
def RR_set_kind (q : RR) (v : Int32) : RR := (v, q.2.1, q.2.2.1, q.2.2.2.1, q.2.2.2.2.1, q.2.2.2.2.2)
def RR_set_start (q : RR) (v : Int32) : RR := (q.1, v, q.2.2.1, q.2.2.2.1, q.2.2.2.2.1, q.2.2.2.2.2)
def RR_set_end_ (q : RR) (v : Int32) : RR := (q.1, q.2.1, v, q.2.2.2.1, q.2.2.2.2.1, q.2.2.2.2.2)
def RR_set_value (q : RR) (v : Int32) : RR := (q.1, q.2.1, q.2.2.1, v, q.2.2.2.2.1, q.2.2.2.2.2)
def RR_set_errorCode (q : RR) (v : Int32) : RR := (q.1, q.2.1, q.2.2.1, q.2.2.2.1, v, q.2.2.2.2.2)
def RR_set_errorPosition (q : RR) (v : Int32) : RR := (q.1, q.2.1, q.2.2.1, q.2.2.2.1, q.2.2.2.2.1, v)
theorem RR_kind_set_kind (q : RR) (v : Int32) : RR_kind (RR_set_kind q v) = v := rfl
theorem RR_start_set_kind (q : RR) (v : Int32) : RR_start (RR_set_kind q v) = RR_start q := rfl
theorem RR_end__set_kind (q : RR) (v : Int32) : RR_end_ (RR_set_kind q v) = RR_end_ q := rfl
theorem RR_value_set_kind (q : RR) (v : Int32) : RR_value (RR_set_kind q v) = RR_value q := rfl
theorem RR_errorCode_set_kind (q : RR) (v : Int32) : RR_errorCode (RR_set_kind q v) = RR_errorCode q := rfl
theorem RR_errorPosition_set_kind (q : RR) (v : Int32) : RR_errorPosition (RR_set_kind q v) = RR_errorPosition q := rfl
theorem RR_kind_set_start (q : RR) (v : Int32) : RR_kind (RR_set_start q v) = RR_kind q := rfl
theorem RR_start_set_start (q : RR) (v : Int32) : RR_start (RR_set_start q v) = v := rfl
theorem RR_end__set_start (q : RR) (v : Int32) : RR_end_ (RR_set_start q v) = RR_end_ q := rfl
theorem RR_value_set_start (q : RR) (v : Int32) : RR_value (RR_set_start q v) = RR_value q := rfl
theorem RR_errorCode_set_start (q : RR) (v : Int32) : RR_errorCode (RR_set_start q v) = RR_errorCode q := rfl
theorem RR_errorPosition_set_start (q : RR) (v : Int32) : RR_errorPosition (RR_set_start q v) = RR_errorPosition q := rfl
theorem RR_kind_set_end_ (q : RR) (v : Int32) : RR_kind (RR_set_end_ q v) = RR_kind q := rfl
theorem RR_start_set_end_ (q : RR) (v : Int32) : RR_start (RR_set_end_ q v) = RR_start q := rfl
theorem RR_end__set_end_ (q : RR) (v : Int32) : RR_end_ (RR_set_end_ q v) = v := rfl
theorem RR_value_set_end_ (q : RR) (v : Int32) : RR_value (RR_set_end_ q v) = RR_value q := rfl
theorem RR_errorCode_set_end_ (q : RR) (v : Int32) : RR_errorCode (RR_set_end_ q v) = RR_errorCode q := rfl
theorem RR_errorPosition_set_end_ (q : RR) (v : Int32) : RR_errorPosition (RR_set_end_ q v) = RR_errorPosition q := rfl
theorem RR_kind_set_value (q : RR) (v : Int32) : RR_kind (RR_set_value q v) = RR_kind q := rfl
theorem RR_start_set_value (q : RR) (v : Int32) : RR_start (RR_set_value q v) = RR_start q := rfl
theorem RR_end__set_value (q : RR) (v : Int32) : RR_end_ (RR_set_value q v) = RR_end_ q := rfl
theorem RR_value_set_value (q : RR) (v : Int32) : RR_value (RR_set_value q v) = v := rfl
theorem RR_errorCode_set_value (q : RR) (v : Int32) : RR_errorCode (RR_set_value q v) = RR_errorCode q := rfl
theorem RR_errorPosition_set_value (q : RR) (v : Int32) : RR_errorPosition (RR_set_value q v) = RR_errorPosition q := rfl
theorem RR_kind_set_errorCode (q : RR) (v : Int32) : RR_kind (RR_set_errorCode q v) = RR_kind q := rfl
theorem RR_start_set_errorCode (q : RR) (v : Int32) : RR_start (RR_set_errorCode q v) = RR_start q := rfl
theorem RR_end__set_errorCode (q : RR) (v : Int32) : RR_end_ (RR_set_errorCode q v) = RR_end_ q := rfl
theorem RR_value_set_errorCode (q : RR) (v : Int32) : RR_value (RR_set_errorCode q v) = RR_value q := rfl
theorem RR_errorCode_set_errorCode (q : RR) (v : Int32) : RR_errorCode (RR_set_errorCode q v) = v := rfl
theorem RR_errorPosition_set_errorCode (q : RR) (v : Int32) : RR_errorPosition (RR_set_errorCode q v) = RR_errorPosition q := rfl
theorem RR_kind_set_errorPosition (q : RR) (v : Int32) : RR_kind (RR_set_errorPosition q v) = RR_kind q := rfl
theorem RR_start_set_errorPosition (q : RR) (v : Int32) : RR_start (RR_set_errorPosition q v) = RR_start q := rfl
theorem RR_end__set_errorPosition (q : RR) (v : Int32) : RR_end_ (RR_set_errorPosition q v) = RR_end_ q := rfl
theorem RR_value_set_errorPosition (q : RR) (v : Int32) : RR_value (RR_set_errorPosition q v) = RR_value q := rfl
theorem RR_errorCode_set_errorPosition (q : RR) (v : Int32) : RR_errorCode (RR_set_errorPosition q v) = RR_errorCode q := rfl
theorem RR_errorPosition_set_errorPosition (q : RR) (v : Int32) : RR_errorPosition (RR_set_errorPosition q v) = v := rfl
abbrev LL : Type := (Int32) × (Int32) × (Int32) × (Int32) × (Nat → Int32) × (Nat → Int32) × (Nat → Int32) × (Nat → Int32) × (Nat → Int32) × (Nat → Int32) × (Nat → Int32) × (Nat → Int32) × (Nat → Int32) × (Nat → Int32) × (Nat → Int32) × (Nat → Int32) × (Nat → Int32) × (Nat → Int32) × (Nat → Int32)
def LL_chambers (q : LL) : Int32 := q.1
def LL_pumps (q : LL) : Int32 := q.2.1
def LL_valves (q : LL) : Int32 := q.2.2.1
def LL_flanges (q : LL) : Int32 := q.2.2.2.1
def LL_volume (q : LL) : Nat → Int32 := q.2.2.2.2.1
def LL_firstOutgassing (q : LL) : Nat → Int32 := q.2.2.2.2.2.1
def LL_decay (q : LL) : Nat → Int32 := q.2.2.2.2.2.2.1
def LL_pumpChamber (q : LL) : Nat → Int32 := q.2.2.2.2.2.2.2.1
def LL_exhaust (q : LL) : Nat → Int32 := q.2.2.2.2.2.2.2.2.1
def LL_speed (q : LL) : Nat → Int32 := q.2.2.2.2.2.2.2.2.2.1
def LL_low (q : LL) : Nat → Int32 := q.2.2.2.2.2.2.2.2.2.2.1
def LL_high (q : LL) : Nat → Int32 := q.2.2.2.2.2.2.2.2.2.2.2.1
def LL_backing (q : LL) : Nat → Int32 := q.2.2.2.2.2.2.2.2.2.2.2.2.1
def LL_valveChamber (q : LL) : Nat → Int32 := q.2.2.2.2.2.2.2.2.2.2.2.2.2.1
def LL_otherSide (q : LL) : Nat → Int32 := q.2.2.2.2.2.2.2.2.2.2.2.2.2.2.1
def LL_conductance (q : LL) : Nat → Int32 := q.2.2.2.2.2.2.2.2.2.2.2.2.2.2.2.1
def LL_firstRule (q : LL) : Nat → Int32 := q.2.2.2.2.2.2.2.2.2.2.2.2.2.2.2.2.1
def LL_flangeChamber (q : LL) : Nat → Int32 := q.2.2.2.2.2.2.2.2.2.2.2.2.2.2.2.2.2.1
def LL_firstLeak (q : LL) : Nat → Int32 := q.2.2.2.2.2.2.2.2.2.2.2.2.2.2.2.2.2.2
def LL_set_chambers (q : LL) (v : Int32) : LL := (v, q.2.1, q.2.2.1, q.2.2.2.1, q.2.2.2.2.1, q.2.2.2.2.2.1, q.2.2.2.2.2.2.1, q.2.2.2.2.2.2.2.1, q.2.2.2.2.2.2.2.2.1, q.2.2.2.2.2.2.2.2.2.1, q.2.2.2.2.2.2.2.2.2.2.1, q.2.2.2.2.2.2.2.2.2.2.2.1, q.2.2.2.2.2.2.2.2.2.2.2.2.1, q.2.2.2.2.2.2.2.2.2.2.2.2.2.1, q.2.2.2.2.2.2.2.2.2.2.2.2.2.2.1, q.2.2.2.2.2.2.2.2.2.2.2.2.2.2.2.1, q.2.2.2.2.2.2.2.2.2.2.2.2.2.2.2.2.1, q.2.2.2.2.2.2.2.2.2.2.2.2.2.2.2.2.2.1, q.2.2.2.2.2.2.2.2.2.2.2.2.2.2.2.2.2.2)
def LL_set_pumps (q : LL) (v : Int32) : LL := (q.1, v, q.2.2.1, q.2.2.2.1, q.2.2.2.2.1, q.2.2.2.2.2.1, q.2.2.2.2.2.2.1, q.2.2.2.2.2.2.2.1, q.2.2.2.2.2.2.2.2.1, q.2.2.2.2.2.2.2.2.2.1, q.2.2.2.2.2.2.2.2.2.2.1, q.2.2.2.2.2.2.2.2.2.2.2.1, q.2.2.2.2.2.2.2.2.2.2.2.2.1, q.2.2.2.2.2.2.2.2.2.2.2.2.2.1, q.2.2.2.2.2.2.2.2.2.2.2.2.2.2.1, q.2.2.2.2.2.2.2.2.2.2.2.2.2.2.2.1, q.2.2.2.2.2.2.2.2.2.2.2.2.2.2.2.2.1, q.2.2.2.2.2.2.2.2.2.2.2.2.2.2.2.2.2.1, q.2.2.2.2.2.2.2.2.2.2.2.2.2.2.2.2.2.2)
def LL_set_valves (q : LL) (v : Int32) : LL := (q.1, q.2.1, v, q.2.2.2.1, q.2.2.2.2.1, q.2.2.2.2.2.1, q.2.2.2.2.2.2.1, q.2.2.2.2.2.2.2.1, q.2.2.2.2.2.2.2.2.1, q.2.2.2.2.2.2.2.2.2.1, q.2.2.2.2.2.2.2.2.2.2.1, q.2.2.2.2.2.2.2.2.2.2.2.1, q.2.2.2.2.2.2.2.2.2.2.2.2.1, q.2.2.2.2.2.2.2.2.2.2.2.2.2.1, q.2.2.2.2.2.2.2.2.2.2.2.2.2.2.1, q.2.2.2.2.2.2.2.2.2.2.2.2.2.2.2.1, q.2.2.2.2.2.2.2.2.2.2.2.2.2.2.2.2.1, q.2.2.2.2.2.2.2.2.2.2.2.2.2.2.2.2.2.1, q.2.2.2.2.2.2.2.2.2.2.2.2.2.2.2.2.2.2)
def LL_set_flanges (q : LL) (v : Int32) : LL := (q.1, q.2.1, q.2.2.1, v, q.2.2.2.2.1, q.2.2.2.2.2.1, q.2.2.2.2.2.2.1, q.2.2.2.2.2.2.2.1, q.2.2.2.2.2.2.2.2.1, q.2.2.2.2.2.2.2.2.2.1, q.2.2.2.2.2.2.2.2.2.2.1, q.2.2.2.2.2.2.2.2.2.2.2.1, q.2.2.2.2.2.2.2.2.2.2.2.2.1, q.2.2.2.2.2.2.2.2.2.2.2.2.2.1, q.2.2.2.2.2.2.2.2.2.2.2.2.2.2.1, q.2.2.2.2.2.2.2.2.2.2.2.2.2.2.2.1, q.2.2.2.2.2.2.2.2.2.2.2.2.2.2.2.2.1, q.2.2.2.2.2.2.2.2.2.2.2.2.2.2.2.2.2.1, q.2.2.2.2.2.2.2.2.2.2.2.2.2.2.2.2.2.2)
def LL_set_volume (q : LL) (v : Nat → Int32) : LL := (q.1, q.2.1, q.2.2.1, q.2.2.2.1, v, q.2.2.2.2.2.1, q.2.2.2.2.2.2.1, q.2.2.2.2.2.2.2.1, q.2.2.2.2.2.2.2.2.1, q.2.2.2.2.2.2.2.2.2.1, q.2.2.2.2.2.2.2.2.2.2.1, q.2.2.2.2.2.2.2.2.2.2.2.1, q.2.2.2.2.2.2.2.2.2.2.2.2.1, q.2.2.2.2.2.2.2.2.2.2.2.2.2.1, q.2.2.2.2.2.2.2.2.2.2.2.2.2.2.1, q.2.2.2.2.2.2.2.2.2.2.2.2.2.2.2.1, q.2.2.2.2.2.2.2.2.2.2.2.2.2.2.2.2.1, q.2.2.2.2.2.2.2.2.2.2.2.2.2.2.2.2.2.1, q.2.2.2.2.2.2.2.2.2.2.2.2.2.2.2.2.2.2)
def LL_set_firstOutgassing (q : LL) (v : Nat → Int32) : LL := (q.1, q.2.1, q.2.2.1, q.2.2.2.1, q.2.2.2.2.1, v, q.2.2.2.2.2.2.1, q.2.2.2.2.2.2.2.1, q.2.2.2.2.2.2.2.2.1, q.2.2.2.2.2.2.2.2.2.1, q.2.2.2.2.2.2.2.2.2.2.1, q.2.2.2.2.2.2.2.2.2.2.2.1, q.2.2.2.2.2.2.2.2.2.2.2.2.1, q.2.2.2.2.2.2.2.2.2.2.2.2.2.1, q.2.2.2.2.2.2.2.2.2.2.2.2.2.2.1, q.2.2.2.2.2.2.2.2.2.2.2.2.2.2.2.1, q.2.2.2.2.2.2.2.2.2.2.2.2.2.2.2.2.1, q.2.2.2.2.2.2.2.2.2.2.2.2.2.2.2.2.2.1, q.2.2.2.2.2.2.2.2.2.2.2.2.2.2.2.2.2.2)
def LL_set_decay (q : LL) (v : Nat → Int32) : LL := (q.1, q.2.1, q.2.2.1, q.2.2.2.1, q.2.2.2.2.1, q.2.2.2.2.2.1, v, q.2.2.2.2.2.2.2.1, q.2.2.2.2.2.2.2.2.1, q.2.2.2.2.2.2.2.2.2.1, q.2.2.2.2.2.2.2.2.2.2.1, q.2.2.2.2.2.2.2.2.2.2.2.1, q.2.2.2.2.2.2.2.2.2.2.2.2.1, q.2.2.2.2.2.2.2.2.2.2.2.2.2.1, q.2.2.2.2.2.2.2.2.2.2.2.2.2.2.1, q.2.2.2.2.2.2.2.2.2.2.2.2.2.2.2.1, q.2.2.2.2.2.2.2.2.2.2.2.2.2.2.2.2.1, q.2.2.2.2.2.2.2.2.2.2.2.2.2.2.2.2.2.1, q.2.2.2.2.2.2.2.2.2.2.2.2.2.2.2.2.2.2)
def LL_set_pumpChamber (q : LL) (v : Nat → Int32) : LL := (q.1, q.2.1, q.2.2.1, q.2.2.2.1, q.2.2.2.2.1, q.2.2.2.2.2.1, q.2.2.2.2.2.2.1, v, q.2.2.2.2.2.2.2.2.1, q.2.2.2.2.2.2.2.2.2.1, q.2.2.2.2.2.2.2.2.2.2.1, q.2.2.2.2.2.2.2.2.2.2.2.1, q.2.2.2.2.2.2.2.2.2.2.2.2.1, q.2.2.2.2.2.2.2.2.2.2.2.2.2.1, q.2.2.2.2.2.2.2.2.2.2.2.2.2.2.1, q.2.2.2.2.2.2.2.2.2.2.2.2.2.2.2.1, q.2.2.2.2.2.2.2.2.2.2.2.2.2.2.2.2.1, q.2.2.2.2.2.2.2.2.2.2.2.2.2.2.2.2.2.1, q.2.2.2.2.2.2.2.2.2.2.2.2.2.2.2.2.2.2)
def LL_set_exhaust (q : LL) (v : Nat → Int32) : LL := (q.1, q.2.1, q.2.2.1, q.2.2.2.1, q.2.2.2.2.1, q.2.2.2.2.2.1, q.2.2.2.2.2.2.1, q.2.2.2.2.2.2.2.1, v, q.2.2.2.2.2.2.2.2.2.1, q.2.2.2.2.2.2.2.2.2.2.1, q.2.2.2.2.2.2.2.2.2.2.2.1, q.2.2.2.2.2.2.2.2.2.2.2.2.1, q.2.2.2.2.2.2.2.2.2.2.2.2.2.1, q.2.2.2.2.2.2.2.2.2.2.2.2.2.2.1, q.2.2.2.2.2.2.2.2.2.2.2.2.2.2.2.1, q.2.2.2.2.2.2.2.2.2.2.2.2.2.2.2.2.1, q.2.2.2.2.2.2.2.2.2.2.2.2.2.2.2.2.2.1, q.2.2.2.2.2.2.2.2.2.2.2.2.2.2.2.2.2.2)
def LL_set_speed (q : LL) (v : Nat → Int32) : LL := (q.1, q.2.1, q.2.2.1, q.2.2.2.1, q.2.2.2.2.1, q.2.2.2.2.2.1, q.2.2.2.2.2.2.1, q.2.2.2.2.2.2.2.1, q.2.2.2.2.2.2.2.2.1, v, q.2.2.2.2.2.2.2.2.2.2.1, q.2.2.2.2.2.2.2.2.2.2.2.1, q.2.2.2.2.2.2.2.2.2.2.2.2.1, q.2.2.2.2.2.2.2.2.2.2.2.2.2.1, q.2.2.2.2.2.2.2.2.2.2.2.2.2.2.1, q.2.2.2.2.2.2.2.2.2.2.2.2.2.2.2.1, q.2.2.2.2.2.2.2.2.2.2.2.2.2.2.2.2.1, q.2.2.2.2.2.2.2.2.2.2.2.2.2.2.2.2.2.1, q.2.2.2.2.2.2.2.2.2.2.2.2.2.2.2.2.2.2)
def LL_set_low (q : LL) (v : Nat → Int32) : LL := (q.1, q.2.1, q.2.2.1, q.2.2.2.1, q.2.2.2.2.1, q.2.2.2.2.2.1, q.2.2.2.2.2.2.1, q.2.2.2.2.2.2.2.1, q.2.2.2.2.2.2.2.2.1, q.2.2.2.2.2.2.2.2.2.1, v, q.2.2.2.2.2.2.2.2.2.2.2.1, q.2.2.2.2.2.2.2.2.2.2.2.2.1, q.2.2.2.2.2.2.2.2.2.2.2.2.2.1, q.2.2.2.2.2.2.2.2.2.2.2.2.2.2.1, q.2.2.2.2.2.2.2.2.2.2.2.2.2.2.2.1, q.2.2.2.2.2.2.2.2.2.2.2.2.2.2.2.2.1, q.2.2.2.2.2.2.2.2.2.2.2.2.2.2.2.2.2.1, q.2.2.2.2.2.2.2.2.2.2.2.2.2.2.2.2.2.2)
def LL_set_high (q : LL) (v : Nat → Int32) : LL := (q.1, q.2.1, q.2.2.1, q.2.2.2.1, q.2.2.2.2.1, q.2.2.2.2.2.1, q.2.2.2.2.2.2.1, q.2.2.2.2.2.2.2.1, q.2.2.2.2.2.2.2.2.1, q.2.2.2.2.2.2.2.2.2.1, q.2.2.2.2.2.2.2.2.2.2.1, v, q.2.2.2.2.2.2.2.2.2.2.2.2.1, q.2.2.2.2.2.2.2.2.2.2.2.2.2.1, q.2.2.2.2.2.2.2.2.2.2.2.2.2.2.1, q.2.2.2.2.2.2.2.2.2.2.2.2.2.2.2.1, q.2.2.2.2.2.2.2.2.2.2.2.2.2.2.2.2.1, q.2.2.2.2.2.2.2.2.2.2.2.2.2.2.2.2.2.1, q.2.2.2.2.2.2.2.2.2.2.2.2.2.2.2.2.2.2)
def LL_set_backing (q : LL) (v : Nat → Int32) : LL := (q.1, q.2.1, q.2.2.1, q.2.2.2.1, q.2.2.2.2.1, q.2.2.2.2.2.1, q.2.2.2.2.2.2.1, q.2.2.2.2.2.2.2.1, q.2.2.2.2.2.2.2.2.1, q.2.2.2.2.2.2.2.2.2.1, q.2.2.2.2.2.2.2.2.2.2.1, q.2.2.2.2.2.2.2.2.2.2.2.1, v, q.2.2.2.2.2.2.2.2.2.2.2.2.2.1, q.2.2.2.2.2.2.2.2.2.2.2.2.2.2.1, q.2.2.2.2.2.2.2.2.2.2.2.2.2.2.2.1, q.2.2.2.2.2.2.2.2.2.2.2.2.2.2.2.2.1, q.2.2.2.2.2.2.2.2.2.2.2.2.2.2.2.2.2.1, q.2.2.2.2.2.2.2.2.2.2.2.2.2.2.2.2.2.2)
def LL_set_valveChamber (q : LL) (v : Nat → Int32) : LL := (q.1, q.2.1, q.2.2.1, q.2.2.2.1, q.2.2.2.2.1, q.2.2.2.2.2.1, q.2.2.2.2.2.2.1, q.2.2.2.2.2.2.2.1, q.2.2.2.2.2.2.2.2.1, q.2.2.2.2.2.2.2.2.2.1, q.2.2.2.2.2.2.2.2.2.2.1, q.2.2.2.2.2.2.2.2.2.2.2.1, q.2.2.2.2.2.2.2.2.2.2.2.2.1, v, q.2.2.2.2.2.2.2.2.2.2.2.2.2.2.1, q.2.2.2.2.2.2.2.2.2.2.2.2.2.2.2.1, q.2.2.2.2.2.2.2.2.2.2.2.2.2.2.2.2.1, q.2.2.2.2.2.2.2.2.2.2.2.2.2.2.2.2.2.1, q.2.2.2.2.2.2.2.2.2.2.2.2.2.2.2.2.2.2)
def LL_set_otherSide (q : LL) (v : Nat → Int32) : LL := (q.1, q.2.1, q.2.2.1, q.2.2.2.1, q.2.2.2.2.1, q.2.2.2.2.2.1, q.2.2.2.2.2.2.1, q.2.2.2.2.2.2.2.1, q.2.2.2.2.2.2.2.2.1, q.2.2.2.2.2.2.2.2.2.1, q.2.2.2.2.2.2.2.2.2.2.1, q.2.2.2.2.2.2.2.2.2.2.2.1, q.2.2.2.2.2.2.2.2.2.2.2.2.1, q.2.2.2.2.2.2.2.2.2.2.2.2.2.1, v, q.2.2.2.2.2.2.2.2.2.2.2.2.2.2.2.1, q.2.2.2.2.2.2.2.2.2.2.2.2.2.2.2.2.1, q.2.2.2.2.2.2.2.2.2.2.2.2.2.2.2.2.2.1, q.2.2.2.2.2.2.2.2.2.2.2.2.2.2.2.2.2.2)
def LL_set_conductance (q : LL) (v : Nat → Int32) : LL := (q.1, q.2.1, q.2.2.1, q.2.2.2.1, q.2.2.2.2.1, q.2.2.2.2.2.1, q.2.2.2.2.2.2.1, q.2.2.2.2.2.2.2.1, q.2.2.2.2.2.2.2.2.1, q.2.2.2.2.2.2.2.2.2.1, q.2.2.2.2.2.2.2.2.2.2.1, q.2.2.2.2.2.2.2.2.2.2.2.1, q.2.2.2.2.2.2.2.2.2.2.2.2.1, q.2.2.2.2.2.2.2.2.2.2.2.2.2.1, q.2.2.2.2.2.2.2.2.2.2.2.2.2.2.1, v, q.2.2.2.2.2.2.2.2.2.2.2.2.2.2.2.2.1, q.2.2.2.2.2.2.2.2.2.2.2.2.2.2.2.2.2.1, q.2.2.2.2.2.2.2.2.2.2.2.2.2.2.2.2.2.2)
def LL_set_firstRule (q : LL) (v : Nat → Int32) : LL := (q.1, q.2.1, q.2.2.1, q.2.2.2.1, q.2.2.2.2.1, q.2.2.2.2.2.1, q.2.2.2.2.2.2.1, q.2.2.2.2.2.2.2.1, q.2.2.2.2.2.2.2.2.1, q.2.2.2.2.2.2.2.2.2.1, q.2.2.2.2.2.2.2.2.2.2.1, q.2.2.2.2.2.2.2.2.2.2.2.1, q.2.2.2.2.2.2.2.2.2.2.2.2.1, q.2.2.2.2.2.2.2.2.2.2.2.2.2.1, q.2.2.2.2.2.2.2.2.2.2.2.2.2.2.1, q.2.2.2.2.2.2.2.2.2.2.2.2.2.2.2.1, v, q.2.2.2.2.2.2.2.2.2.2.2.2.2.2.2.2.2.1, q.2.2.2.2.2.2.2.2.2.2.2.2.2.2.2.2.2.2)
def LL_set_flangeChamber (q : LL) (v : Nat → Int32) : LL := (q.1, q.2.1, q.2.2.1, q.2.2.2.1, q.2.2.2.2.1, q.2.2.2.2.2.1, q.2.2.2.2.2.2.1, q.2.2.2.2.2.2.2.1, q.2.2.2.2.2.2.2.2.1, q.2.2.2.2.2.2.2.2.2.1, q.2.2.2.2.2.2.2.2.2.2.1, q.2.2.2.2.2.2.2.2.2.2.2.1, q.2.2.2.2.2.2.2.2.2.2.2.2.1, q.2.2.2.2.2.2.2.2.2.2.2.2.2.1, q.2.2.2.2.2.2.2.2.2.2.2.2.2.2.1, q.2.2.2.2.2.2.2.2.2.2.2.2.2.2.2.1, q.2.2.2.2.2.2.2.2.2.2.2.2.2.2.2.2.1, v, q.2.2.2.2.2.2.2.2.2.2.2.2.2.2.2.2.2.2)
def LL_set_firstLeak (q : LL) (v : Nat → Int32) : LL := (q.1, q.2.1, q.2.2.1, q.2.2.2.1, q.2.2.2.2.1, q.2.2.2.2.2.1, q.2.2.2.2.2.2.1, q.2.2.2.2.2.2.2.1, q.2.2.2.2.2.2.2.2.1, q.2.2.2.2.2.2.2.2.2.1, q.2.2.2.2.2.2.2.2.2.2.1, q.2.2.2.2.2.2.2.2.2.2.2.1, q.2.2.2.2.2.2.2.2.2.2.2.2.1, q.2.2.2.2.2.2.2.2.2.2.2.2.2.1, q.2.2.2.2.2.2.2.2.2.2.2.2.2.2.1, q.2.2.2.2.2.2.2.2.2.2.2.2.2.2.2.1, q.2.2.2.2.2.2.2.2.2.2.2.2.2.2.2.2.1, q.2.2.2.2.2.2.2.2.2.2.2.2.2.2.2.2.2.1, v)
theorem LL_chambers_set_chambers (q : LL) (v : Int32) : LL_chambers (LL_set_chambers q v) = v := rfl
theorem LL_pumps_set_chambers (q : LL) (v : Int32) : LL_pumps (LL_set_chambers q v) = LL_pumps q := rfl
theorem LL_valves_set_chambers (q : LL) (v : Int32) : LL_valves (LL_set_chambers q v) = LL_valves q := rfl
theorem LL_flanges_set_chambers (q : LL) (v : Int32) : LL_flanges (LL_set_chambers q v) = LL_flanges q := rfl
theorem LL_volume_set_chambers (q : LL) (v : Int32) : LL_volume (LL_set_chambers q v) = LL_volume q := rfl
theorem LL_firstOutgassing_set_chambers (q : LL) (v : Int32) : LL_firstOutgassing (LL_set_chambers q v) = LL_firstOutgassing q := rfl
theorem LL_decay_set_chambers (q : LL) (v : Int32) : LL_decay (LL_set_chambers q v) = LL_decay q := rfl
theorem LL_pumpChamber_set_chambers (q : LL) (v : Int32) : LL_pumpChamber (LL_set_chambers q v) = LL_pumpChamber q := rfl
theorem LL_exhaust_set_chambers (q : LL) (v : Int32) : LL_exhaust (LL_set_chambers q v) = LL_exhaust q := rfl
theorem LL_speed_set_chambers (q : LL) (v : Int32) : LL_speed (LL_set_chambers q v) = LL_speed q := rfl
theorem LL_low_set_chambers (q : LL) (v : Int32) : LL_low (LL_set_chambers q v) = LL_low q := rfl
theorem LL_high_set_chambers (q : LL) (v : Int32) : LL_high (LL_set_chambers q v) = LL_high q := rfl
theorem LL_backing_set_chambers (q : LL) (v : Int32) : LL_backing (LL_set_chambers q v) = LL_backing q := rfl
theorem LL_valveChamber_set_chambers (q : LL) (v : Int32) : LL_valveChamber (LL_set_chambers q v) = LL_valveChamber q := rfl
theorem LL_otherSide_set_chambers (q : LL) (v : Int32) : LL_otherSide (LL_set_chambers q v) = LL_otherSide q := rfl
theorem LL_conductance_set_chambers (q : LL) (v : Int32) : LL_conductance (LL_set_chambers q v) = LL_conductance q := rfl
theorem LL_firstRule_set_chambers (q : LL) (v : Int32) : LL_firstRule (LL_set_chambers q v) = LL_firstRule q := rfl
theorem LL_flangeChamber_set_chambers (q : LL) (v : Int32) : LL_flangeChamber (LL_set_chambers q v) = LL_flangeChamber q := rfl
theorem LL_firstLeak_set_chambers (q : LL) (v : Int32) : LL_firstLeak (LL_set_chambers q v) = LL_firstLeak q := rfl
theorem LL_chambers_set_pumps (q : LL) (v : Int32) : LL_chambers (LL_set_pumps q v) = LL_chambers q := rfl
theorem LL_pumps_set_pumps (q : LL) (v : Int32) : LL_pumps (LL_set_pumps q v) = v := rfl
theorem LL_valves_set_pumps (q : LL) (v : Int32) : LL_valves (LL_set_pumps q v) = LL_valves q := rfl
theorem LL_flanges_set_pumps (q : LL) (v : Int32) : LL_flanges (LL_set_pumps q v) = LL_flanges q := rfl
theorem LL_volume_set_pumps (q : LL) (v : Int32) : LL_volume (LL_set_pumps q v) = LL_volume q := rfl
theorem LL_firstOutgassing_set_pumps (q : LL) (v : Int32) : LL_firstOutgassing (LL_set_pumps q v) = LL_firstOutgassing q := rfl
theorem LL_decay_set_pumps (q : LL) (v : Int32) : LL_decay (LL_set_pumps q v) = LL_decay q := rfl
theorem LL_pumpChamber_set_pumps (q : LL) (v : Int32) : LL_pumpChamber (LL_set_pumps q v) = LL_pumpChamber q := rfl
theorem LL_exhaust_set_pumps (q : LL) (v : Int32) : LL_exhaust (LL_set_pumps q v) = LL_exhaust q := rfl
theorem LL_speed_set_pumps (q : LL) (v : Int32) : LL_speed (LL_set_pumps q v) = LL_speed q := rfl
theorem LL_low_set_pumps (q : LL) (v : Int32) : LL_low (LL_set_pumps q v) = LL_low q := rfl
theorem LL_high_set_pumps (q : LL) (v : Int32) : LL_high (LL_set_pumps q v) = LL_high q := rfl
theorem LL_backing_set_pumps (q : LL) (v : Int32) : LL_backing (LL_set_pumps q v) = LL_backing q := rfl
theorem LL_valveChamber_set_pumps (q : LL) (v : Int32) : LL_valveChamber (LL_set_pumps q v) = LL_valveChamber q := rfl
theorem LL_otherSide_set_pumps (q : LL) (v : Int32) : LL_otherSide (LL_set_pumps q v) = LL_otherSide q := rfl
theorem LL_conductance_set_pumps (q : LL) (v : Int32) : LL_conductance (LL_set_pumps q v) = LL_conductance q := rfl
theorem LL_firstRule_set_pumps (q : LL) (v : Int32) : LL_firstRule (LL_set_pumps q v) = LL_firstRule q := rfl
theorem LL_flangeChamber_set_pumps (q : LL) (v : Int32) : LL_flangeChamber (LL_set_pumps q v) = LL_flangeChamber q := rfl
theorem LL_firstLeak_set_pumps (q : LL) (v : Int32) : LL_firstLeak (LL_set_pumps q v) = LL_firstLeak q := rfl
theorem LL_chambers_set_valves (q : LL) (v : Int32) : LL_chambers (LL_set_valves q v) = LL_chambers q := rfl
theorem LL_pumps_set_valves (q : LL) (v : Int32) : LL_pumps (LL_set_valves q v) = LL_pumps q := rfl
theorem LL_valves_set_valves (q : LL) (v : Int32) : LL_valves (LL_set_valves q v) = v := rfl
theorem LL_flanges_set_valves (q : LL) (v : Int32) : LL_flanges (LL_set_valves q v) = LL_flanges q := rfl
theorem LL_volume_set_valves (q : LL) (v : Int32) : LL_volume (LL_set_valves q v) = LL_volume q := rfl
theorem LL_firstOutgassing_set_valves (q : LL) (v : Int32) : LL_firstOutgassing (LL_set_valves q v) = LL_firstOutgassing q := rfl
theorem LL_decay_set_valves (q : LL) (v : Int32) : LL_decay (LL_set_valves q v) = LL_decay q := rfl
theorem LL_pumpChamber_set_valves (q : LL) (v : Int32) : LL_pumpChamber (LL_set_valves q v) = LL_pumpChamber q := rfl
theorem LL_exhaust_set_valves (q : LL) (v : Int32) : LL_exhaust (LL_set_valves q v) = LL_exhaust q := rfl
theorem LL_speed_set_valves (q : LL) (v : Int32) : LL_speed (LL_set_valves q v) = LL_speed q := rfl
theorem LL_low_set_valves (q : LL) (v : Int32) : LL_low (LL_set_valves q v) = LL_low q := rfl
theorem LL_high_set_valves (q : LL) (v : Int32) : LL_high (LL_set_valves q v) = LL_high q := rfl
theorem LL_backing_set_valves (q : LL) (v : Int32) : LL_backing (LL_set_valves q v) = LL_backing q := rfl
theorem LL_valveChamber_set_valves (q : LL) (v : Int32) : LL_valveChamber (LL_set_valves q v) = LL_valveChamber q := rfl
theorem LL_otherSide_set_valves (q : LL) (v : Int32) : LL_otherSide (LL_set_valves q v) = LL_otherSide q := rfl
theorem LL_conductance_set_valves (q : LL) (v : Int32) : LL_conductance (LL_set_valves q v) = LL_conductance q := rfl
theorem LL_firstRule_set_valves (q : LL) (v : Int32) : LL_firstRule (LL_set_valves q v) = LL_firstRule q := rfl
theorem LL_flangeChamber_set_valves (q : LL) (v : Int32) : LL_flangeChamber (LL_set_valves q v) = LL_flangeChamber q := rfl
theorem LL_firstLeak_set_valves (q : LL) (v : Int32) : LL_firstLeak (LL_set_valves q v) = LL_firstLeak q := rfl
theorem LL_chambers_set_flanges (q : LL) (v : Int32) : LL_chambers (LL_set_flanges q v) = LL_chambers q := rfl
theorem LL_pumps_set_flanges (q : LL) (v : Int32) : LL_pumps (LL_set_flanges q v) = LL_pumps q := rfl
theorem LL_valves_set_flanges (q : LL) (v : Int32) : LL_valves (LL_set_flanges q v) = LL_valves q := rfl
theorem LL_flanges_set_flanges (q : LL) (v : Int32) : LL_flanges (LL_set_flanges q v) = v := rfl
theorem LL_volume_set_flanges (q : LL) (v : Int32) : LL_volume (LL_set_flanges q v) = LL_volume q := rfl
theorem LL_firstOutgassing_set_flanges (q : LL) (v : Int32) : LL_firstOutgassing (LL_set_flanges q v) = LL_firstOutgassing q := rfl
theorem LL_decay_set_flanges (q : LL) (v : Int32) : LL_decay (LL_set_flanges q v) = LL_decay q := rfl
theorem LL_pumpChamber_set_flanges (q : LL) (v : Int32) : LL_pumpChamber (LL_set_flanges q v) = LL_pumpChamber q := rfl
theorem LL_exhaust_set_flanges (q : LL) (v : Int32) : LL_exhaust (LL_set_flanges q v) = LL_exhaust q := rfl
theorem LL_speed_set_flanges (q : LL) (v : Int32) : LL_speed (LL_set_flanges q v) = LL_speed q := rfl
theorem LL_low_set_flanges (q : LL) (v : Int32) : LL_low (LL_set_flanges q v) = LL_low q := rfl
theorem LL_high_set_flanges (q : LL) (v : Int32) : LL_high (LL_set_flanges q v) = LL_high q := rfl
theorem LL_backing_set_flanges (q : LL) (v : Int32) : LL_backing (LL_set_flanges q v) = LL_backing q := rfl
theorem LL_valveChamber_set_flanges (q : LL) (v : Int32) : LL_valveChamber (LL_set_flanges q v) = LL_valveChamber q := rfl
theorem LL_otherSide_set_flanges (q : LL) (v : Int32) : LL_otherSide (LL_set_flanges q v) = LL_otherSide q := rfl
theorem LL_conductance_set_flanges (q : LL) (v : Int32) : LL_conductance (LL_set_flanges q v) = LL_conductance q := rfl
theorem LL_firstRule_set_flanges (q : LL) (v : Int32) : LL_firstRule (LL_set_flanges q v) = LL_firstRule q := rfl
theorem LL_flangeChamber_set_flanges (q : LL) (v : Int32) : LL_flangeChamber (LL_set_flanges q v) = LL_flangeChamber q := rfl
theorem LL_firstLeak_set_flanges (q : LL) (v : Int32) : LL_firstLeak (LL_set_flanges q v) = LL_firstLeak q := rfl
theorem LL_chambers_set_volume (q : LL) (v : Nat → Int32) : LL_chambers (LL_set_volume q v) = LL_chambers q := rfl
theorem LL_pumps_set_volume (q : LL) (v : Nat → Int32) : LL_pumps (LL_set_volume q v) = LL_pumps q := rfl
theorem LL_valves_set_volume (q : LL) (v : Nat → Int32) : LL_valves (LL_set_volume q v) = LL_valves q := rfl
theorem LL_flanges_set_volume (q : LL) (v : Nat → Int32) : LL_flanges (LL_set_volume q v) = LL_flanges q := rfl
theorem LL_volume_set_volume (q : LL) (v : Nat → Int32) : LL_volume (LL_set_volume q v) = v := rfl
theorem LL_firstOutgassing_set_volume (q : LL) (v : Nat → Int32) : LL_firstOutgassing (LL_set_volume q v) = LL_firstOutgassing q := rfl
theorem LL_decay_set_volume (q : LL) (v : Nat → Int32) : LL_decay (LL_set_volume q v) = LL_decay q := rfl
theorem LL_pumpChamber_set_volume (q : LL) (v : Nat → Int32) : LL_pumpChamber (LL_set_volume q v) = LL_pumpChamber q := rfl
theorem LL_exhaust_set_volume (q : LL) (v : Nat → Int32) : LL_exhaust (LL_set_volume q v) = LL_exhaust q := rfl
theorem LL_speed_set_volume (q : LL) (v : Nat → Int32) : LL_speed (LL_set_volume q v) = LL_speed q := rfl
theorem LL_low_set_volume (q : LL) (v : Nat → Int32) : LL_low (LL_set_volume q v) = LL_low q := rfl
theorem LL_high_set_volume (q : LL) (v : Nat → Int32) : LL_high (LL_set_volume q v) = LL_high q := rfl
theorem LL_backing_set_volume (q : LL) (v : Nat → Int32) : LL_backing (LL_set_volume q v) = LL_backing q := rfl
theorem LL_valveChamber_set_volume (q : LL) (v : Nat → Int32) : LL_valveChamber (LL_set_volume q v) = LL_valveChamber q := rfl
theorem LL_otherSide_set_volume (q : LL) (v : Nat → Int32) : LL_otherSide (LL_set_volume q v) = LL_otherSide q := rfl
theorem LL_conductance_set_volume (q : LL) (v : Nat → Int32) : LL_conductance (LL_set_volume q v) = LL_conductance q := rfl
theorem LL_firstRule_set_volume (q : LL) (v : Nat → Int32) : LL_firstRule (LL_set_volume q v) = LL_firstRule q := rfl
theorem LL_flangeChamber_set_volume (q : LL) (v : Nat → Int32) : LL_flangeChamber (LL_set_volume q v) = LL_flangeChamber q := rfl
theorem LL_firstLeak_set_volume (q : LL) (v : Nat → Int32) : LL_firstLeak (LL_set_volume q v) = LL_firstLeak q := rfl
theorem LL_chambers_set_firstOutgassing (q : LL) (v : Nat → Int32) : LL_chambers (LL_set_firstOutgassing q v) = LL_chambers q := rfl
theorem LL_pumps_set_firstOutgassing (q : LL) (v : Nat → Int32) : LL_pumps (LL_set_firstOutgassing q v) = LL_pumps q := rfl
theorem LL_valves_set_firstOutgassing (q : LL) (v : Nat → Int32) : LL_valves (LL_set_firstOutgassing q v) = LL_valves q := rfl
theorem LL_flanges_set_firstOutgassing (q : LL) (v : Nat → Int32) : LL_flanges (LL_set_firstOutgassing q v) = LL_flanges q := rfl
theorem LL_volume_set_firstOutgassing (q : LL) (v : Nat → Int32) : LL_volume (LL_set_firstOutgassing q v) = LL_volume q := rfl
theorem LL_firstOutgassing_set_firstOutgassing (q : LL) (v : Nat → Int32) : LL_firstOutgassing (LL_set_firstOutgassing q v) = v := rfl
theorem LL_decay_set_firstOutgassing (q : LL) (v : Nat → Int32) : LL_decay (LL_set_firstOutgassing q v) = LL_decay q := rfl
theorem LL_pumpChamber_set_firstOutgassing (q : LL) (v : Nat → Int32) : LL_pumpChamber (LL_set_firstOutgassing q v) = LL_pumpChamber q := rfl
theorem LL_exhaust_set_firstOutgassing (q : LL) (v : Nat → Int32) : LL_exhaust (LL_set_firstOutgassing q v) = LL_exhaust q := rfl
theorem LL_speed_set_firstOutgassing (q : LL) (v : Nat → Int32) : LL_speed (LL_set_firstOutgassing q v) = LL_speed q := rfl
theorem LL_low_set_firstOutgassing (q : LL) (v : Nat → Int32) : LL_low (LL_set_firstOutgassing q v) = LL_low q := rfl
theorem LL_high_set_firstOutgassing (q : LL) (v : Nat → Int32) : LL_high (LL_set_firstOutgassing q v) = LL_high q := rfl
theorem LL_backing_set_firstOutgassing (q : LL) (v : Nat → Int32) : LL_backing (LL_set_firstOutgassing q v) = LL_backing q := rfl
theorem LL_valveChamber_set_firstOutgassing (q : LL) (v : Nat → Int32) : LL_valveChamber (LL_set_firstOutgassing q v) = LL_valveChamber q := rfl
theorem LL_otherSide_set_firstOutgassing (q : LL) (v : Nat → Int32) : LL_otherSide (LL_set_firstOutgassing q v) = LL_otherSide q := rfl
theorem LL_conductance_set_firstOutgassing (q : LL) (v : Nat → Int32) : LL_conductance (LL_set_firstOutgassing q v) = LL_conductance q := rfl
theorem LL_firstRule_set_firstOutgassing (q : LL) (v : Nat → Int32) : LL_firstRule (LL_set_firstOutgassing q v) = LL_firstRule q := rfl
theorem LL_flangeChamber_set_firstOutgassing (q : LL) (v : Nat → Int32) : LL_flangeChamber (LL_set_firstOutgassing q v) = LL_flangeChamber q := rfl
theorem LL_firstLeak_set_firstOutgassing (q : LL) (v : Nat → Int32) : LL_firstLeak (LL_set_firstOutgassing q v) = LL_firstLeak q := rfl
theorem LL_chambers_set_decay (q : LL) (v : Nat → Int32) : LL_chambers (LL_set_decay q v) = LL_chambers q := rfl
theorem LL_pumps_set_decay (q : LL) (v : Nat → Int32) : LL_pumps (LL_set_decay q v) = LL_pumps q := rfl
theorem LL_valves_set_decay (q : LL) (v : Nat → Int32) : LL_valves (LL_set_decay q v) = LL_valves q := rfl
theorem LL_flanges_set_decay (q : LL) (v : Nat → Int32) : LL_flanges (LL_set_decay q v) = LL_flanges q := rfl
theorem LL_volume_set_decay (q : LL) (v : Nat → Int32) : LL_volume (LL_set_decay q v) = LL_volume q := rfl
theorem LL_firstOutgassing_set_decay (q : LL) (v : Nat → Int32) : LL_firstOutgassing (LL_set_decay q v) = LL_firstOutgassing q := rfl
theorem LL_decay_set_decay (q : LL) (v : Nat → Int32) : LL_decay (LL_set_decay q v) = v := rfl
theorem LL_pumpChamber_set_decay (q : LL) (v : Nat → Int32) : LL_pumpChamber (LL_set_decay q v) = LL_pumpChamber q := rfl
theorem LL_exhaust_set_decay (q : LL) (v : Nat → Int32) : LL_exhaust (LL_set_decay q v) = LL_exhaust q := rfl
theorem LL_speed_set_decay (q : LL) (v : Nat → Int32) : LL_speed (LL_set_decay q v) = LL_speed q := rfl
theorem LL_low_set_decay (q : LL) (v : Nat → Int32) : LL_low (LL_set_decay q v) = LL_low q := rfl
theorem LL_high_set_decay (q : LL) (v : Nat → Int32) : LL_high (LL_set_decay q v) = LL_high q := rfl
theorem LL_backing_set_decay (q : LL) (v : Nat → Int32) : LL_backing (LL_set_decay q v) = LL_backing q := rfl
theorem LL_valveChamber_set_decay (q : LL) (v : Nat → Int32) : LL_valveChamber (LL_set_decay q v) = LL_valveChamber q := rfl
theorem LL_otherSide_set_decay (q : LL) (v : Nat → Int32) : LL_otherSide (LL_set_decay q v) = LL_otherSide q := rfl
theorem LL_conductance_set_decay (q : LL) (v : Nat → Int32) : LL_conductance (LL_set_decay q v) = LL_conductance q := rfl
theorem LL_firstRule_set_decay (q : LL) (v : Nat → Int32) : LL_firstRule (LL_set_decay q v) = LL_firstRule q := rfl
theorem LL_flangeChamber_set_decay (q : LL) (v : Nat → Int32) : LL_flangeChamber (LL_set_decay q v) = LL_flangeChamber q := rfl
theorem LL_firstLeak_set_decay (q : LL) (v : Nat → Int32) : LL_firstLeak (LL_set_decay q v) = LL_firstLeak q := rfl
theorem LL_chambers_set_pumpChamber (q : LL) (v : Nat → Int32) : LL_chambers (LL_set_pumpChamber q v) = LL_chambers q := rfl
theorem LL_pumps_set_pumpChamber (q : LL) (v : Nat → Int32) : LL_pumps (LL_set_pumpChamber q v) = LL_pumps q := rfl
theorem LL_valves_set_pumpChamber (q : LL) (v : Nat → Int32) : LL_valves (LL_set_pumpChamber q v) = LL_valves q := rfl
theorem LL_flanges_set_pumpChamber (q : LL) (v : Nat → Int32) : LL_flanges (LL_set_pumpChamber q v) = LL_flanges q := rfl
theorem LL_volume_set_pumpChamber (q : LL) (v : Nat → Int32) : LL_volume (LL_set_pumpChamber q v) = LL_volume q := rfl
theorem LL_firstOutgassing_set_pumpChamber (q : LL) (v : Nat → Int32) : LL_firstOutgassing (LL_set_pumpChamber q v) = LL_firstOutgassing q := rfl
theorem LL_decay_set_pumpChamber (q : LL) (v : Nat → Int32) : LL_decay (LL_set_pumpChamber q v) = LL_decay q := rfl
theorem LL_pumpChamber_set_pumpChamber (q : LL) (v : Nat → Int32) : LL_pumpChamber (LL_set_pumpChamber q v) = v := rfl
theorem LL_exhaust_set_pumpChamber (q : LL) (v : Nat → Int32) : LL_exhaust (LL_set_pumpChamber q v) = LL_exhaust q := rfl
theorem LL_speed_set_pumpChamber (q : LL) (v : Nat → Int32) : LL_speed (LL_set_pumpChamber q v) = LL_speed q := rfl
theorem LL_low_set_pumpChamber (q : LL) (v : Nat → Int32) : LL_low (LL_set_pumpChamber q v) = LL_low q := rfl
theorem LL_high_set_pumpChamber (q : LL) (v : Nat → Int32) : LL_high (LL_set_pumpChamber q v) = LL_high q := rfl
theorem LL_backing_set_pumpChamber (q : LL) (v : Nat → Int32) : LL_backing (LL_set_pumpChamber q v) = LL_backing q := rfl
theorem LL_valveChamber_set_pumpChamber (q : LL) (v : Nat → Int32) : LL_valveChamber (LL_set_pumpChamber q v) = LL_valveChamber q := rfl
theorem LL_otherSide_set_pumpChamber (q : LL) (v : Nat → Int32) : LL_otherSide (LL_set_pumpChamber q v) = LL_otherSide q := rfl
theorem LL_conductance_set_pumpChamber (q : LL) (v : Nat → Int32) : LL_conductance (LL_set_pumpChamber q v) = LL_conductance q := rfl
theorem LL_firstRule_set_pumpChamber (q : LL) (v : Nat → Int32) : LL_firstRule (LL_set_pumpChamber q v) = LL_firstRule q := rfl
theorem LL_flangeChamber_set_pumpChamber (q : LL) (v : Nat → Int32) : LL_flangeChamber (LL_set_pumpChamber q v) = LL_flangeChamber q := rfl
theorem LL_firstLeak_set_pumpChamber (q : LL) (v : Nat → Int32) : LL_firstLeak (LL_set_pumpChamber q v) = LL_firstLeak q := rfl
theorem LL_chambers_set_exhaust (q : LL) (v : Nat → Int32) : LL_chambers (LL_set_exhaust q v) = LL_chambers q := rfl
theorem LL_pumps_set_exhaust (q : LL) (v : Nat → Int32) : LL_pumps (LL_set_exhaust q v) = LL_pumps q := rfl
theorem LL_valves_set_exhaust (q : LL) (v : Nat → Int32) : LL_valves (LL_set_exhaust q v) = LL_valves q := rfl
theorem LL_flanges_set_exhaust (q : LL) (v : Nat → Int32) : LL_flanges (LL_set_exhaust q v) = LL_flanges q := rfl
theorem LL_volume_set_exhaust (q : LL) (v : Nat → Int32) : LL_volume (LL_set_exhaust q v) = LL_volume q := rfl
theorem LL_firstOutgassing_set_exhaust (q : LL) (v : Nat → Int32) : LL_firstOutgassing (LL_set_exhaust q v) = LL_firstOutgassing q := rfl
theorem LL_decay_set_exhaust (q : LL) (v : Nat → Int32) : LL_decay (LL_set_exhaust q v) = LL_decay q := rfl
theorem LL_pumpChamber_set_exhaust (q : LL) (v : Nat → Int32) : LL_pumpChamber (LL_set_exhaust q v) = LL_pumpChamber q := rfl
theorem LL_exhaust_set_exhaust (q : LL) (v : Nat → Int32) : LL_exhaust (LL_set_exhaust q v) = v := rfl
theorem LL_speed_set_exhaust (q : LL) (v : Nat → Int32) : LL_speed (LL_set_exhaust q v) = LL_speed q := rfl
theorem LL_low_set_exhaust (q : LL) (v : Nat → Int32) : LL_low (LL_set_exhaust q v) = LL_low q := rfl
theorem LL_high_set_exhaust (q : LL) (v : Nat → Int32) : LL_high (LL_set_exhaust q v) = LL_high q := rfl
theorem LL_backing_set_exhaust (q : LL) (v : Nat → Int32) : LL_backing (LL_set_exhaust q v) = LL_backing q := rfl
theorem LL_valveChamber_set_exhaust (q : LL) (v : Nat → Int32) : LL_valveChamber (LL_set_exhaust q v) = LL_valveChamber q := rfl
theorem LL_otherSide_set_exhaust (q : LL) (v : Nat → Int32) : LL_otherSide (LL_set_exhaust q v) = LL_otherSide q := rfl
theorem LL_conductance_set_exhaust (q : LL) (v : Nat → Int32) : LL_conductance (LL_set_exhaust q v) = LL_conductance q := rfl
theorem LL_firstRule_set_exhaust (q : LL) (v : Nat → Int32) : LL_firstRule (LL_set_exhaust q v) = LL_firstRule q := rfl
theorem LL_flangeChamber_set_exhaust (q : LL) (v : Nat → Int32) : LL_flangeChamber (LL_set_exhaust q v) = LL_flangeChamber q := rfl
theorem LL_firstLeak_set_exhaust (q : LL) (v : Nat → Int32) : LL_firstLeak (LL_set_exhaust q v) = LL_firstLeak q := rfl
theorem LL_chambers_set_speed (q : LL) (v : Nat → Int32) : LL_chambers (LL_set_speed q v) = LL_chambers q := rfl
theorem LL_pumps_set_speed (q : LL) (v : Nat → Int32) : LL_pumps (LL_set_speed q v) = LL_pumps q := rfl
theorem LL_valves_set_speed (q : LL) (v : Nat → Int32) : LL_valves (LL_set_speed q v) = LL_valves q := rfl
theorem LL_flanges_set_speed (q : LL) (v : Nat → Int32) : LL_flanges (LL_set_speed q v) = LL_flanges q := rfl
theorem LL_volume_set_speed (q : LL) (v : Nat → Int32) : LL_volume (LL_set_speed q v) = LL_volume q := rfl
theorem LL_firstOutgassing_set_speed (q : LL) (v : Nat → Int32) : LL_firstOutgassing (LL_set_speed q v) = LL_firstOutgassing q := rfl
theorem LL_decay_set_speed (q : LL) (v : Nat → Int32) : LL_decay (LL_set_speed q v) = LL_decay q := rfl
theorem LL_pumpChamber_set_speed (q : LL) (v : Nat → Int32) : LL_pumpChamber (LL_set_speed q v) = LL_pumpChamber q := rfl
theorem LL_exhaust_set_speed (q : LL) (v : Nat → Int32) : LL_exhaust (LL_set_speed q v) = LL_exhaust q := rfl
theorem LL_speed_set_speed (q : LL) (v : Nat → Int32) : LL_speed (LL_set_speed q v) = v := rfl
theorem LL_low_set_speed (q : LL) (v : Nat → Int32) : LL_low (LL_set_speed q v) = LL_low q := rfl
theorem LL_high_set_speed (q : LL) (v : Nat → Int32) : LL_high (LL_set_speed q v) = LL_high q := rfl
theorem LL_backing_set_speed (q : LL) (v : Nat → Int32) : LL_backing (LL_set_speed q v) = LL_backing q := rfl
theorem LL_valveChamber_set_speed (q : LL) (v : Nat → Int32) : LL_valveChamber (LL_set_speed q v) = LL_valveChamber q := rfl
theorem LL_otherSide_set_speed (q : LL) (v : Nat → Int32) : LL_otherSide (LL_set_speed q v) = LL_otherSide q := rfl
theorem LL_conductance_set_speed (q : LL) (v : Nat → Int32) : LL_conductance (LL_set_speed q v) = LL_conductance q := rfl
theorem LL_firstRule_set_speed (q : LL) (v : Nat → Int32) : LL_firstRule (LL_set_speed q v) = LL_firstRule q := rfl
theorem LL_flangeChamber_set_speed (q : LL) (v : Nat → Int32) : LL_flangeChamber (LL_set_speed q v) = LL_flangeChamber q := rfl
theorem LL_firstLeak_set_speed (q : LL) (v : Nat → Int32) : LL_firstLeak (LL_set_speed q v) = LL_firstLeak q := rfl
theorem LL_chambers_set_low (q : LL) (v : Nat → Int32) : LL_chambers (LL_set_low q v) = LL_chambers q := rfl
theorem LL_pumps_set_low (q : LL) (v : Nat → Int32) : LL_pumps (LL_set_low q v) = LL_pumps q := rfl
theorem LL_valves_set_low (q : LL) (v : Nat → Int32) : LL_valves (LL_set_low q v) = LL_valves q := rfl
theorem LL_flanges_set_low (q : LL) (v : Nat → Int32) : LL_flanges (LL_set_low q v) = LL_flanges q := rfl
theorem LL_volume_set_low (q : LL) (v : Nat → Int32) : LL_volume (LL_set_low q v) = LL_volume q := rfl
theorem LL_firstOutgassing_set_low (q : LL) (v : Nat → Int32) : LL_firstOutgassing (LL_set_low q v) = LL_firstOutgassing q := rfl
theorem LL_decay_set_low (q : LL) (v : Nat → Int32) : LL_decay (LL_set_low q v) = LL_decay q := rfl
theorem LL_pumpChamber_set_low (q : LL) (v : Nat → Int32) : LL_pumpChamber (LL_set_low q v) = LL_pumpChamber q := rfl
theorem LL_exhaust_set_low (q : LL) (v : Nat → Int32) : LL_exhaust (LL_set_low q v) = LL_exhaust q := rfl
theorem LL_speed_set_low (q : LL) (v : Nat → Int32) : LL_speed (LL_set_low q v) = LL_speed q := rfl
theorem LL_low_set_low (q : LL) (v : Nat → Int32) : LL_low (LL_set_low q v) = v := rfl
theorem LL_high_set_low (q : LL) (v : Nat → Int32) : LL_high (LL_set_low q v) = LL_high q := rfl
theorem LL_backing_set_low (q : LL) (v : Nat → Int32) : LL_backing (LL_set_low q v) = LL_backing q := rfl
theorem LL_valveChamber_set_low (q : LL) (v : Nat → Int32) : LL_valveChamber (LL_set_low q v) = LL_valveChamber q := rfl
theorem LL_otherSide_set_low (q : LL) (v : Nat → Int32) : LL_otherSide (LL_set_low q v) = LL_otherSide q := rfl
theorem LL_conductance_set_low (q : LL) (v : Nat → Int32) : LL_conductance (LL_set_low q v) = LL_conductance q := rfl
theorem LL_firstRule_set_low (q : LL) (v : Nat → Int32) : LL_firstRule (LL_set_low q v) = LL_firstRule q := rfl
theorem LL_flangeChamber_set_low (q : LL) (v : Nat → Int32) : LL_flangeChamber (LL_set_low q v) = LL_flangeChamber q := rfl
theorem LL_firstLeak_set_low (q : LL) (v : Nat → Int32) : LL_firstLeak (LL_set_low q v) = LL_firstLeak q := rfl
theorem LL_chambers_set_high (q : LL) (v : Nat → Int32) : LL_chambers (LL_set_high q v) = LL_chambers q := rfl
theorem LL_pumps_set_high (q : LL) (v : Nat → Int32) : LL_pumps (LL_set_high q v) = LL_pumps q := rfl
theorem LL_valves_set_high (q : LL) (v : Nat → Int32) : LL_valves (LL_set_high q v) = LL_valves q := rfl
theorem LL_flanges_set_high (q : LL) (v : Nat → Int32) : LL_flanges (LL_set_high q v) = LL_flanges q := rfl
theorem LL_volume_set_high (q : LL) (v : Nat → Int32) : LL_volume (LL_set_high q v) = LL_volume q := rfl
theorem LL_firstOutgassing_set_high (q : LL) (v : Nat → Int32) : LL_firstOutgassing (LL_set_high q v) = LL_firstOutgassing q := rfl
theorem LL_decay_set_high (q : LL) (v : Nat → Int32) : LL_decay (LL_set_high q v) = LL_decay q := rfl
theorem LL_pumpChamber_set_high (q : LL) (v : Nat → Int32) : LL_pumpChamber (LL_set_high q v) = LL_pumpChamber q := rfl
theorem LL_exhaust_set_high (q : LL) (v : Nat → Int32) : LL_exhaust (LL_set_high q v) = LL_exhaust q := rfl
theorem LL_speed_set_high (q : LL) (v : Nat → Int32) : LL_speed (LL_set_high q v) = LL_speed q := rfl
theorem LL_low_set_high (q : LL) (v : Nat → Int32) : LL_low (LL_set_high q v) = LL_low q := rfl
theorem LL_high_set_high (q : LL) (v : Nat → Int32) : LL_high (LL_set_high q v) = v := rfl
theorem LL_backing_set_high (q : LL) (v : Nat → Int32) : LL_backing (LL_set_high q v) = LL_backing q := rfl
theorem LL_valveChamber_set_high (q : LL) (v : Nat → Int32) : LL_valveChamber (LL_set_high q v) = LL_valveChamber q := rfl
theorem LL_otherSide_set_high (q : LL) (v : Nat → Int32) : LL_otherSide (LL_set_high q v) = LL_otherSide q := rfl
theorem LL_conductance_set_high (q : LL) (v : Nat → Int32) : LL_conductance (LL_set_high q v) = LL_conductance q := rfl
theorem LL_firstRule_set_high (q : LL) (v : Nat → Int32) : LL_firstRule (LL_set_high q v) = LL_firstRule q := rfl
theorem LL_flangeChamber_set_high (q : LL) (v : Nat → Int32) : LL_flangeChamber (LL_set_high q v) = LL_flangeChamber q := rfl
theorem LL_firstLeak_set_high (q : LL) (v : Nat → Int32) : LL_firstLeak (LL_set_high q v) = LL_firstLeak q := rfl
theorem LL_chambers_set_backing (q : LL) (v : Nat → Int32) : LL_chambers (LL_set_backing q v) = LL_chambers q := rfl
theorem LL_pumps_set_backing (q : LL) (v : Nat → Int32) : LL_pumps (LL_set_backing q v) = LL_pumps q := rfl
theorem LL_valves_set_backing (q : LL) (v : Nat → Int32) : LL_valves (LL_set_backing q v) = LL_valves q := rfl
theorem LL_flanges_set_backing (q : LL) (v : Nat → Int32) : LL_flanges (LL_set_backing q v) = LL_flanges q := rfl
theorem LL_volume_set_backing (q : LL) (v : Nat → Int32) : LL_volume (LL_set_backing q v) = LL_volume q := rfl
theorem LL_firstOutgassing_set_backing (q : LL) (v : Nat → Int32) : LL_firstOutgassing (LL_set_backing q v) = LL_firstOutgassing q := rfl
theorem LL_decay_set_backing (q : LL) (v : Nat → Int32) : LL_decay (LL_set_backing q v) = LL_decay q := rfl
theorem LL_pumpChamber_set_backing (q : LL) (v : Nat → Int32) : LL_pumpChamber (LL_set_backing q v) = LL_pumpChamber q := rfl
theorem LL_exhaust_set_backing (q : LL) (v : Nat → Int32) : LL_exhaust (LL_set_backing q v) = LL_exhaust q := rfl
theorem LL_speed_set_backing (q : LL) (v : Nat → Int32) : LL_speed (LL_set_backing q v) = LL_speed q := rfl
theorem LL_low_set_backing (q : LL) (v : Nat → Int32) : LL_low (LL_set_backing q v) = LL_low q := rfl
theorem LL_high_set_backing (q : LL) (v : Nat → Int32) : LL_high (LL_set_backing q v) = LL_high q := rfl
theorem LL_backing_set_backing (q : LL) (v : Nat → Int32) : LL_backing (LL_set_backing q v) = v := rfl
theorem LL_valveChamber_set_backing (q : LL) (v : Nat → Int32) : LL_valveChamber (LL_set_backing q v) = LL_valveChamber q := rfl
theorem LL_otherSide_set_backing (q : LL) (v : Nat → Int32) : LL_otherSide (LL_set_backing q v) = LL_otherSide q := rfl
theorem LL_conductance_set_backing (q : LL) (v : Nat → Int32) : LL_conductance (LL_set_backing q v) = LL_conductance q := rfl
theorem LL_firstRule_set_backing (q : LL) (v : Nat → Int32) : LL_firstRule (LL_set_backing q v) = LL_firstRule q := rfl
theorem LL_flangeChamber_set_backing (q : LL) (v : Nat → Int32) : LL_flangeChamber (LL_set_backing q v) = LL_flangeChamber q := rfl
theorem LL_firstLeak_set_backing (q : LL) (v : Nat → Int32) : LL_firstLeak (LL_set_backing q v) = LL_firstLeak q := rfl
theorem LL_chambers_set_valveChamber (q : LL) (v : Nat → Int32) : LL_chambers (LL_set_valveChamber q v) = LL_chambers q := rfl
theorem LL_pumps_set_valveChamber (q : LL) (v : Nat → Int32) : LL_pumps (LL_set_valveChamber q v) = LL_pumps q := rfl
theorem LL_valves_set_valveChamber (q : LL) (v : Nat → Int32) : LL_valves (LL_set_valveChamber q v) = LL_valves q := rfl
theorem LL_flanges_set_valveChamber (q : LL) (v : Nat → Int32) : LL_flanges (LL_set_valveChamber q v) = LL_flanges q := rfl
theorem LL_volume_set_valveChamber (q : LL) (v : Nat → Int32) : LL_volume (LL_set_valveChamber q v) = LL_volume q := rfl
theorem LL_firstOutgassing_set_valveChamber (q : LL) (v : Nat → Int32) : LL_firstOutgassing (LL_set_valveChamber q v) = LL_firstOutgassing q := rfl
theorem LL_decay_set_valveChamber (q : LL) (v : Nat → Int32) : LL_decay (LL_set_valveChamber q v) = LL_decay q := rfl
theorem LL_pumpChamber_set_valveChamber (q : LL) (v : Nat → Int32) : LL_pumpChamber (LL_set_valveChamber q v) = LL_pumpChamber q := rfl
theorem LL_exhaust_set_valveChamber (q : LL) (v : Nat → Int32) : LL_exhaust (LL_set_valveChamber q v) = LL_exhaust q := rfl
theorem LL_speed_set_valveChamber (q : LL) (v : Nat → Int32) : LL_speed (LL_set_valveChamber q v) = LL_speed q := rfl
theorem LL_low_set_valveChamber (q : LL) (v : Nat → Int32) : LL_low (LL_set_valveChamber q v) = LL_low q := rfl
theorem LL_high_set_valveChamber (q : LL) (v : Nat → Int32) : LL_high (LL_set_valveChamber q v) = LL_high q := rfl
theorem LL_backing_set_valveChamber (q : LL) (v : Nat → Int32) : LL_backing (LL_set_valveChamber q v) = LL_backing q := rfl
theorem LL_valveChamber_set_valveChamber (q : LL) (v : Nat → Int32) : LL_valveChamber (LL_set_valveChamber q v) = v := rfl
theorem LL_otherSide_set_valveChamber (q : LL) (v : Nat → Int32) : LL_otherSide (LL_set_valveChamber q v) = LL_otherSide q := rfl
theorem LL_conductance_set_valveChamber (q : LL) (v : Nat → Int32) : LL_conductance (LL_set_valveChamber q v) = LL_conductance q := rfl
theorem LL_firstRule_set_valveChamber (q : LL) (v : Nat → Int32) : LL_firstRule (LL_set_valveChamber q v) = LL_firstRule q := rfl
theorem LL_flangeChamber_set_valveChamber (q : LL) (v : Nat → Int32) : LL_flangeChamber (LL_set_valveChamber q v) = LL_flangeChamber q := rfl
theorem LL_firstLeak_set_valveChamber (q : LL) (v : Nat → Int32) : LL_firstLeak (LL_set_valveChamber q v) = LL_firstLeak q := rfl
theorem LL_chambers_set_otherSide (q : LL) (v : Nat → Int32) : LL_chambers (LL_set_otherSide q v) = LL_chambers q := rfl
theorem LL_pumps_set_otherSide (q : LL) (v : Nat → Int32) : LL_pumps (LL_set_otherSide q v) = LL_pumps q := rfl
theorem LL_valves_set_otherSide (q : LL) (v : Nat → Int32) : LL_valves (LL_set_otherSide q v) = LL_valves q := rfl
theorem LL_flanges_set_otherSide (q : LL) (v : Nat → Int32) : LL_flanges (LL_set_otherSide q v) = LL_flanges q := rfl
theorem LL_volume_set_otherSide (q : LL) (v : Nat → Int32) : LL_volume (LL_set_otherSide q v) = LL_volume q := rfl
theorem LL_firstOutgassing_set_otherSide (q : LL) (v : Nat → Int32) : LL_firstOutgassing (LL_set_otherSide q v) = LL_firstOutgassing q := rfl
theorem LL_decay_set_otherSide (q : LL) (v : Nat → Int32) : LL_decay (LL_set_otherSide q v) = LL_decay q := rfl
theorem LL_pumpChamber_set_otherSide (q : LL) (v : Nat → Int32) : LL_pumpChamber (LL_set_otherSide q v) = LL_pumpChamber q := rfl
theorem LL_exhaust_set_otherSide (q : LL) (v : Nat → Int32) : LL_exhaust (LL_set_otherSide q v) = LL_exhaust q := rfl
theorem LL_speed_set_otherSide (q : LL) (v : Nat → Int32) : LL_speed (LL_set_otherSide q v) = LL_speed q := rfl
theorem LL_low_set_otherSide (q : LL) (v : Nat → Int32) : LL_low (LL_set_otherSide q v) = LL_low q := rfl
theorem LL_high_set_otherSide (q : LL) (v : Nat → Int32) : LL_high (LL_set_otherSide q v) = LL_high q := rfl
theorem LL_backing_set_otherSide (q : LL) (v : Nat → Int32) : LL_backing (LL_set_otherSide q v) = LL_backing q := rfl
theorem LL_valveChamber_set_otherSide (q : LL) (v : Nat → Int32) : LL_valveChamber (LL_set_otherSide q v) = LL_valveChamber q := rfl
theorem LL_otherSide_set_otherSide (q : LL) (v : Nat → Int32) : LL_otherSide (LL_set_otherSide q v) = v := rfl
theorem LL_conductance_set_otherSide (q : LL) (v : Nat → Int32) : LL_conductance (LL_set_otherSide q v) = LL_conductance q := rfl
theorem LL_firstRule_set_otherSide (q : LL) (v : Nat → Int32) : LL_firstRule (LL_set_otherSide q v) = LL_firstRule q := rfl
theorem LL_flangeChamber_set_otherSide (q : LL) (v : Nat → Int32) : LL_flangeChamber (LL_set_otherSide q v) = LL_flangeChamber q := rfl
theorem LL_firstLeak_set_otherSide (q : LL) (v : Nat → Int32) : LL_firstLeak (LL_set_otherSide q v) = LL_firstLeak q := rfl
theorem LL_chambers_set_conductance (q : LL) (v : Nat → Int32) : LL_chambers (LL_set_conductance q v) = LL_chambers q := rfl
theorem LL_pumps_set_conductance (q : LL) (v : Nat → Int32) : LL_pumps (LL_set_conductance q v) = LL_pumps q := rfl
theorem LL_valves_set_conductance (q : LL) (v : Nat → Int32) : LL_valves (LL_set_conductance q v) = LL_valves q := rfl
theorem LL_flanges_set_conductance (q : LL) (v : Nat → Int32) : LL_flanges (LL_set_conductance q v) = LL_flanges q := rfl
theorem LL_volume_set_conductance (q : LL) (v : Nat → Int32) : LL_volume (LL_set_conductance q v) = LL_volume q := rfl
theorem LL_firstOutgassing_set_conductance (q : LL) (v : Nat → Int32) : LL_firstOutgassing (LL_set_conductance q v) = LL_firstOutgassing q := rfl
theorem LL_decay_set_conductance (q : LL) (v : Nat → Int32) : LL_decay (LL_set_conductance q v) = LL_decay q := rfl
theorem LL_pumpChamber_set_conductance (q : LL) (v : Nat → Int32) : LL_pumpChamber (LL_set_conductance q v) = LL_pumpChamber q := rfl
theorem LL_exhaust_set_conductance (q : LL) (v : Nat → Int32) : LL_exhaust (LL_set_conductance q v) = LL_exhaust q := rfl
theorem LL_speed_set_conductance (q : LL) (v : Nat → Int32) : LL_speed (LL_set_conductance q v) = LL_speed q := rfl
theorem LL_low_set_conductance (q : LL) (v : Nat → Int32) : LL_low (LL_set_conductance q v) = LL_low q := rfl
theorem LL_high_set_conductance (q : LL) (v : Nat → Int32) : LL_high (LL_set_conductance q v) = LL_high q := rfl
theorem LL_backing_set_conductance (q : LL) (v : Nat → Int32) : LL_backing (LL_set_conductance q v) = LL_backing q := rfl
theorem LL_valveChamber_set_conductance (q : LL) (v : Nat → Int32) : LL_valveChamber (LL_set_conductance q v) = LL_valveChamber q := rfl
theorem LL_otherSide_set_conductance (q : LL) (v : Nat → Int32) : LL_otherSide (LL_set_conductance q v) = LL_otherSide q := rfl
theorem LL_conductance_set_conductance (q : LL) (v : Nat → Int32) : LL_conductance (LL_set_conductance q v) = v := rfl
theorem LL_firstRule_set_conductance (q : LL) (v : Nat → Int32) : LL_firstRule (LL_set_conductance q v) = LL_firstRule q := rfl
theorem LL_flangeChamber_set_conductance (q : LL) (v : Nat → Int32) : LL_flangeChamber (LL_set_conductance q v) = LL_flangeChamber q := rfl
theorem LL_firstLeak_set_conductance (q : LL) (v : Nat → Int32) : LL_firstLeak (LL_set_conductance q v) = LL_firstLeak q := rfl
theorem LL_chambers_set_firstRule (q : LL) (v : Nat → Int32) : LL_chambers (LL_set_firstRule q v) = LL_chambers q := rfl
theorem LL_pumps_set_firstRule (q : LL) (v : Nat → Int32) : LL_pumps (LL_set_firstRule q v) = LL_pumps q := rfl
theorem LL_valves_set_firstRule (q : LL) (v : Nat → Int32) : LL_valves (LL_set_firstRule q v) = LL_valves q := rfl
theorem LL_flanges_set_firstRule (q : LL) (v : Nat → Int32) : LL_flanges (LL_set_firstRule q v) = LL_flanges q := rfl
theorem LL_volume_set_firstRule (q : LL) (v : Nat → Int32) : LL_volume (LL_set_firstRule q v) = LL_volume q := rfl
theorem LL_firstOutgassing_set_firstRule (q : LL) (v : Nat → Int32) : LL_firstOutgassing (LL_set_firstRule q v) = LL_firstOutgassing q := rfl
theorem LL_decay_set_firstRule (q : LL) (v : Nat → Int32) : LL_decay (LL_set_firstRule q v) = LL_decay q := rfl
theorem LL_pumpChamber_set_firstRule (q : LL) (v : Nat → Int32) : LL_pumpChamber (LL_set_firstRule q v) = LL_pumpChamber q := rfl
theorem LL_exhaust_set_firstRule (q : LL) (v : Nat → Int32) : LL_exhaust (LL_set_firstRule q v) = LL_exhaust q := rfl
theorem LL_speed_set_firstRule (q : LL) (v : Nat → Int32) : LL_speed (LL_set_firstRule q v) = LL_speed q := rfl
theorem LL_low_set_firstRule (q : LL) (v : Nat → Int32) : LL_low (LL_set_firstRule q v) = LL_low q := rfl
theorem LL_high_set_firstRule (q : LL) (v : Nat → Int32) : LL_high (LL_set_firstRule q v) = LL_high q := rfl
theorem LL_backing_set_firstRule (q : LL) (v : Nat → Int32) : LL_backing (LL_set_firstRule q v) = LL_backing q := rfl
theorem LL_valveChamber_set_firstRule (q : LL) (v : Nat → Int32) : LL_valveChamber (LL_set_firstRule q v) = LL_valveChamber q := rfl
theorem LL_otherSide_set_firstRule (q : LL) (v : Nat → Int32) : LL_otherSide (LL_set_firstRule q v) = LL_otherSide q := rfl
theorem LL_conductance_set_firstRule (q : LL) (v : Nat → Int32) : LL_conductance (LL_set_firstRule q v) = LL_conductance q := rfl
theorem LL_firstRule_set_firstRule (q : LL) (v : Nat → Int32) : LL_firstRule (LL_set_firstRule q v) = v := rfl
theorem LL_flangeChamber_set_firstRule (q : LL) (v : Nat → Int32) : LL_flangeChamber (LL_set_firstRule q v) = LL_flangeChamber q := rfl
theorem LL_firstLeak_set_firstRule (q : LL) (v : Nat → Int32) : LL_firstLeak (LL_set_firstRule q v) = LL_firstLeak q := rfl
theorem LL_chambers_set_flangeChamber (q : LL) (v : Nat → Int32) : LL_chambers (LL_set_flangeChamber q v) = LL_chambers q := rfl
theorem LL_pumps_set_flangeChamber (q : LL) (v : Nat → Int32) : LL_pumps (LL_set_flangeChamber q v) = LL_pumps q := rfl
theorem LL_valves_set_flangeChamber (q : LL) (v : Nat → Int32) : LL_valves (LL_set_flangeChamber q v) = LL_valves q := rfl
theorem LL_flanges_set_flangeChamber (q : LL) (v : Nat → Int32) : LL_flanges (LL_set_flangeChamber q v) = LL_flanges q := rfl
theorem LL_volume_set_flangeChamber (q : LL) (v : Nat → Int32) : LL_volume (LL_set_flangeChamber q v) = LL_volume q := rfl
theorem LL_firstOutgassing_set_flangeChamber (q : LL) (v : Nat → Int32) : LL_firstOutgassing (LL_set_flangeChamber q v) = LL_firstOutgassing q := rfl
theorem LL_decay_set_flangeChamber (q : LL) (v : Nat → Int32) : LL_decay (LL_set_flangeChamber q v) = LL_decay q := rfl
theorem LL_pumpChamber_set_flangeChamber (q : LL) (v : Nat → Int32) : LL_pumpChamber (LL_set_flangeChamber q v) = LL_pumpChamber q := rfl
theorem LL_exhaust_set_flangeChamber (q : LL) (v : Nat → Int32) : LL_exhaust (LL_set_flangeChamber q v) = LL_exhaust q := rfl
theorem LL_speed_set_flangeChamber (q : LL) (v : Nat → Int32) : LL_speed (LL_set_flangeChamber q v) = LL_speed q := rfl
theorem LL_low_set_flangeChamber (q : LL) (v : Nat → Int32) : LL_low (LL_set_flangeChamber q v) = LL_low q := rfl
theorem LL_high_set_flangeChamber (q : LL) (v : Nat → Int32) : LL_high (LL_set_flangeChamber q v) = LL_high q := rfl
theorem LL_backing_set_flangeChamber (q : LL) (v : Nat → Int32) : LL_backing (LL_set_flangeChamber q v) = LL_backing q := rfl
theorem LL_valveChamber_set_flangeChamber (q : LL) (v : Nat → Int32) : LL_valveChamber (LL_set_flangeChamber q v) = LL_valveChamber q := rfl
theorem LL_otherSide_set_flangeChamber (q : LL) (v : Nat → Int32) : LL_otherSide (LL_set_flangeChamber q v) = LL_otherSide q := rfl
theorem LL_conductance_set_flangeChamber (q : LL) (v : Nat → Int32) : LL_conductance (LL_set_flangeChamber q v) = LL_conductance q := rfl
theorem LL_firstRule_set_flangeChamber (q : LL) (v : Nat → Int32) : LL_firstRule (LL_set_flangeChamber q v) = LL_firstRule q := rfl
theorem LL_flangeChamber_set_flangeChamber (q : LL) (v : Nat → Int32) : LL_flangeChamber (LL_set_flangeChamber q v) = v := rfl
theorem LL_firstLeak_set_flangeChamber (q : LL) (v : Nat → Int32) : LL_firstLeak (LL_set_flangeChamber q v) = LL_firstLeak q := rfl
theorem LL_chambers_set_firstLeak (q : LL) (v : Nat → Int32) : LL_chambers (LL_set_firstLeak q v) = LL_chambers q := rfl
theorem LL_pumps_set_firstLeak (q : LL) (v : Nat → Int32) : LL_pumps (LL_set_firstLeak q v) = LL_pumps q := rfl
theorem LL_valves_set_firstLeak (q : LL) (v : Nat → Int32) : LL_valves (LL_set_firstLeak q v) = LL_valves q := rfl
theorem LL_flanges_set_firstLeak (q : LL) (v : Nat → Int32) : LL_flanges (LL_set_firstLeak q v) = LL_flanges q := rfl
theorem LL_volume_set_firstLeak (q : LL) (v : Nat → Int32) : LL_volume (LL_set_firstLeak q v) = LL_volume q := rfl
theorem LL_firstOutgassing_set_firstLeak (q : LL) (v : Nat → Int32) : LL_firstOutgassing (LL_set_firstLeak q v) = LL_firstOutgassing q := rfl
theorem LL_decay_set_firstLeak (q : LL) (v : Nat → Int32) : LL_decay (LL_set_firstLeak q v) = LL_decay q := rfl
theorem LL_pumpChamber_set_firstLeak (q : LL) (v : Nat → Int32) : LL_pumpChamber (LL_set_firstLeak q v) = LL_pumpChamber q := rfl
theorem LL_exhaust_set_firstLeak (q : LL) (v : Nat → Int32) : LL_exhaust (LL_set_firstLeak q v) = LL_exhaust q := rfl
theorem LL_speed_set_firstLeak (q : LL) (v : Nat → Int32) : LL_speed (LL_set_firstLeak q v) = LL_speed q := rfl
theorem LL_low_set_firstLeak (q : LL) (v : Nat → Int32) : LL_low (LL_set_firstLeak q v) = LL_low q := rfl
theorem LL_high_set_firstLeak (q : LL) (v : Nat → Int32) : LL_high (LL_set_firstLeak q v) = LL_high q := rfl
theorem LL_backing_set_firstLeak (q : LL) (v : Nat → Int32) : LL_backing (LL_set_firstLeak q v) = LL_backing q := rfl
theorem LL_valveChamber_set_firstLeak (q : LL) (v : Nat → Int32) : LL_valveChamber (LL_set_firstLeak q v) = LL_valveChamber q := rfl
theorem LL_otherSide_set_firstLeak (q : LL) (v : Nat → Int32) : LL_otherSide (LL_set_firstLeak q v) = LL_otherSide q := rfl
theorem LL_conductance_set_firstLeak (q : LL) (v : Nat → Int32) : LL_conductance (LL_set_firstLeak q v) = LL_conductance q := rfl
theorem LL_firstRule_set_firstLeak (q : LL) (v : Nat → Int32) : LL_firstRule (LL_set_firstLeak q v) = LL_firstRule q := rfl
theorem LL_flangeChamber_set_firstLeak (q : LL) (v : Nat → Int32) : LL_flangeChamber (LL_set_firstLeak q v) = LL_flangeChamber q := rfl
theorem LL_firstLeak_set_firstLeak (q : LL) (v : Nat → Int32) : LL_firstLeak (LL_set_firstLeak q v) = v := rfl
abbrev RC : Type := (Int32) × (Int32)
def RC_first (q : RC) : Int32 := q.1
def RC_second (q : RC) : Int32 := q.2
def RC_set_first (q : RC) (v : Int32) : RC := (v, q.2)
def RC_set_second (q : RC) (v : Int32) : RC := (q.1, v)
theorem RC_first_set_first (q : RC) (v : Int32) : RC_first (RC_set_first q v) = v := rfl
theorem RC_second_set_first (q : RC) (v : Int32) : RC_second (RC_set_first q v) = RC_second q := rfl
theorem RC_first_set_second (q : RC) (v : Int32) : RC_first (RC_set_second q v) = RC_first q := rfl
theorem RC_second_set_second (q : RC) (v : Int32) : RC_second (RC_set_second q v) = v := rfl
abbrev HN : Type := (Nat → Int32) × (Nat → Int32) × (Nat → Int32) × (Int32) × (Int32) × (Int32)
def HN_numbers (q : HN) : Nat → Int32 := q.1
def HN_froms (q : HN) : Nat → Int32 := q.2.1
def HN_sizes (q : HN) : Nat → Int32 := q.2.2.1
def HN_groups (q : HN) : Int32 := q.2.2.2.1
def HN_sprayed (q : HN) : Int32 := q.2.2.2.2.1
def HN_foundSet (q : HN) : Int32 := q.2.2.2.2.2
def HN_set_numbers (q : HN) (v : Nat → Int32) : HN := (v, q.2.1, q.2.2.1, q.2.2.2.1, q.2.2.2.2.1, q.2.2.2.2.2)
def HN_set_froms (q : HN) (v : Nat → Int32) : HN := (q.1, v, q.2.2.1, q.2.2.2.1, q.2.2.2.2.1, q.2.2.2.2.2)
def HN_set_sizes (q : HN) (v : Nat → Int32) : HN := (q.1, q.2.1, v, q.2.2.2.1, q.2.2.2.2.1, q.2.2.2.2.2)
def HN_set_groups (q : HN) (v : Int32) : HN := (q.1, q.2.1, q.2.2.1, v, q.2.2.2.2.1, q.2.2.2.2.2)
def HN_set_sprayed (q : HN) (v : Int32) : HN := (q.1, q.2.1, q.2.2.1, q.2.2.2.1, v, q.2.2.2.2.2)
def HN_set_foundSet (q : HN) (v : Int32) : HN := (q.1, q.2.1, q.2.2.1, q.2.2.2.1, q.2.2.2.2.1, v)
theorem HN_numbers_set_numbers (q : HN) (v : Nat → Int32) : HN_numbers (HN_set_numbers q v) = v := rfl
theorem HN_froms_set_numbers (q : HN) (v : Nat → Int32) : HN_froms (HN_set_numbers q v) = HN_froms q := rfl
theorem HN_sizes_set_numbers (q : HN) (v : Nat → Int32) : HN_sizes (HN_set_numbers q v) = HN_sizes q := rfl
theorem HN_groups_set_numbers (q : HN) (v : Nat → Int32) : HN_groups (HN_set_numbers q v) = HN_groups q := rfl
theorem HN_sprayed_set_numbers (q : HN) (v : Nat → Int32) : HN_sprayed (HN_set_numbers q v) = HN_sprayed q := rfl
theorem HN_foundSet_set_numbers (q : HN) (v : Nat → Int32) : HN_foundSet (HN_set_numbers q v) = HN_foundSet q := rfl
theorem HN_numbers_set_froms (q : HN) (v : Nat → Int32) : HN_numbers (HN_set_froms q v) = HN_numbers q := rfl
theorem HN_froms_set_froms (q : HN) (v : Nat → Int32) : HN_froms (HN_set_froms q v) = v := rfl
theorem HN_sizes_set_froms (q : HN) (v : Nat → Int32) : HN_sizes (HN_set_froms q v) = HN_sizes q := rfl
theorem HN_groups_set_froms (q : HN) (v : Nat → Int32) : HN_groups (HN_set_froms q v) = HN_groups q := rfl
theorem HN_sprayed_set_froms (q : HN) (v : Nat → Int32) : HN_sprayed (HN_set_froms q v) = HN_sprayed q := rfl
theorem HN_foundSet_set_froms (q : HN) (v : Nat → Int32) : HN_foundSet (HN_set_froms q v) = HN_foundSet q := rfl
theorem HN_numbers_set_sizes (q : HN) (v : Nat → Int32) : HN_numbers (HN_set_sizes q v) = HN_numbers q := rfl
theorem HN_froms_set_sizes (q : HN) (v : Nat → Int32) : HN_froms (HN_set_sizes q v) = HN_froms q := rfl
theorem HN_sizes_set_sizes (q : HN) (v : Nat → Int32) : HN_sizes (HN_set_sizes q v) = v := rfl
theorem HN_groups_set_sizes (q : HN) (v : Nat → Int32) : HN_groups (HN_set_sizes q v) = HN_groups q := rfl
theorem HN_sprayed_set_sizes (q : HN) (v : Nat → Int32) : HN_sprayed (HN_set_sizes q v) = HN_sprayed q := rfl
theorem HN_foundSet_set_sizes (q : HN) (v : Nat → Int32) : HN_foundSet (HN_set_sizes q v) = HN_foundSet q := rfl
theorem HN_numbers_set_groups (q : HN) (v : Int32) : HN_numbers (HN_set_groups q v) = HN_numbers q := rfl
theorem HN_froms_set_groups (q : HN) (v : Int32) : HN_froms (HN_set_groups q v) = HN_froms q := rfl
theorem HN_sizes_set_groups (q : HN) (v : Int32) : HN_sizes (HN_set_groups q v) = HN_sizes q := rfl
theorem HN_groups_set_groups (q : HN) (v : Int32) : HN_groups (HN_set_groups q v) = v := rfl
theorem HN_sprayed_set_groups (q : HN) (v : Int32) : HN_sprayed (HN_set_groups q v) = HN_sprayed q := rfl
theorem HN_foundSet_set_groups (q : HN) (v : Int32) : HN_foundSet (HN_set_groups q v) = HN_foundSet q := rfl
theorem HN_numbers_set_sprayed (q : HN) (v : Int32) : HN_numbers (HN_set_sprayed q v) = HN_numbers q := rfl
theorem HN_froms_set_sprayed (q : HN) (v : Int32) : HN_froms (HN_set_sprayed q v) = HN_froms q := rfl
theorem HN_sizes_set_sprayed (q : HN) (v : Int32) : HN_sizes (HN_set_sprayed q v) = HN_sizes q := rfl
theorem HN_groups_set_sprayed (q : HN) (v : Int32) : HN_groups (HN_set_sprayed q v) = HN_groups q := rfl
theorem HN_sprayed_set_sprayed (q : HN) (v : Int32) : HN_sprayed (HN_set_sprayed q v) = v := rfl
theorem HN_foundSet_set_sprayed (q : HN) (v : Int32) : HN_foundSet (HN_set_sprayed q v) = HN_foundSet q := rfl
theorem HN_numbers_set_foundSet (q : HN) (v : Int32) : HN_numbers (HN_set_foundSet q v) = HN_numbers q := rfl
theorem HN_froms_set_foundSet (q : HN) (v : Int32) : HN_froms (HN_set_foundSet q v) = HN_froms q := rfl
theorem HN_sizes_set_foundSet (q : HN) (v : Int32) : HN_sizes (HN_set_foundSet q v) = HN_sizes q := rfl
theorem HN_groups_set_foundSet (q : HN) (v : Int32) : HN_groups (HN_set_foundSet q v) = HN_groups q := rfl
theorem HN_sprayed_set_foundSet (q : HN) (v : Int32) : HN_sprayed (HN_set_foundSet q v) = HN_sprayed q := rfl
theorem HN_foundSet_set_foundSet (q : HN) (v : Int32) : HN_foundSet (HN_set_foundSet q v) = v := rfl
abbrev RP : Type := (Nat → Int32) × (Int32)
def RP_bytes (q : RP) : Nat → Int32 := q.1
def RP_length (q : RP) : Int32 := q.2
def RP_set_bytes (q : RP) (v : Nat → Int32) : RP := (v, q.2)
def RP_set_length (q : RP) (v : Int32) : RP := (q.1, v)
theorem RP_bytes_set_bytes (q : RP) (v : Nat → Int32) : RP_bytes (RP_set_bytes q v) = v := rfl
theorem RP_length_set_bytes (q : RP) (v : Nat → Int32) : RP_length (RP_set_bytes q v) = RP_length q := rfl
theorem RP_bytes_set_length (q : RP) (v : Int32) : RP_bytes (RP_set_length q v) = RP_bytes q := rfl
theorem RP_length_set_length (q : RP) (v : Int32) : RP_length (RP_set_length q v) = v := rfl
abbrev TP : Type := (Fin 12) × (Fin 12) × (Nat → Fin 12) × (Int32) × (Int32)
def TP_pr (q : TP) : Fin 12 := q.1
def TP_tr (q : TP) : Fin 12 := q.2.1
def TP_past (q : TP) : Nat → Fin 12 := q.2.2.1
def TP_nextPast (q : TP) : Int32 := q.2.2.2.1
def TP_undoable (q : TP) : Int32 := q.2.2.2.2
def TP_set_pr (q : TP) (v : Fin 12) : TP := (v, q.2.1, q.2.2.1, q.2.2.2.1, q.2.2.2.2)
def TP_set_tr (q : TP) (v : Fin 12) : TP := (q.1, v, q.2.2.1, q.2.2.2.1, q.2.2.2.2)
def TP_set_past (q : TP) (v : Nat → Fin 12) : TP := (q.1, q.2.1, v, q.2.2.2.1, q.2.2.2.2)
def TP_set_nextPast (q : TP) (v : Int32) : TP := (q.1, q.2.1, q.2.2.1, v, q.2.2.2.2)
def TP_set_undoable (q : TP) (v : Int32) : TP := (q.1, q.2.1, q.2.2.1, q.2.2.2.1, v)
theorem TP_pr_set_pr (q : TP) (v : Fin 12) : TP_pr (TP_set_pr q v) = v := rfl
theorem TP_tr_set_pr (q : TP) (v : Fin 12) : TP_tr (TP_set_pr q v) = TP_tr q := rfl
theorem TP_past_set_pr (q : TP) (v : Fin 12) : TP_past (TP_set_pr q v) = TP_past q := rfl
theorem TP_nextPast_set_pr (q : TP) (v : Fin 12) : TP_nextPast (TP_set_pr q v) = TP_nextPast q := rfl
theorem TP_undoable_set_pr (q : TP) (v : Fin 12) : TP_undoable (TP_set_pr q v) = TP_undoable q := rfl
theorem TP_pr_set_tr (q : TP) (v : Fin 12) : TP_pr (TP_set_tr q v) = TP_pr q := rfl
theorem TP_tr_set_tr (q : TP) (v : Fin 12) : TP_tr (TP_set_tr q v) = v := rfl
theorem TP_past_set_tr (q : TP) (v : Fin 12) : TP_past (TP_set_tr q v) = TP_past q := rfl
theorem TP_nextPast_set_tr (q : TP) (v : Fin 12) : TP_nextPast (TP_set_tr q v) = TP_nextPast q := rfl
theorem TP_undoable_set_tr (q : TP) (v : Fin 12) : TP_undoable (TP_set_tr q v) = TP_undoable q := rfl
theorem TP_pr_set_past (q : TP) (v : Nat → Fin 12) : TP_pr (TP_set_past q v) = TP_pr q := rfl
theorem TP_tr_set_past (q : TP) (v : Nat → Fin 12) : TP_tr (TP_set_past q v) = TP_tr q := rfl
theorem TP_past_set_past (q : TP) (v : Nat → Fin 12) : TP_past (TP_set_past q v) = v := rfl
theorem TP_nextPast_set_past (q : TP) (v : Nat → Fin 12) : TP_nextPast (TP_set_past q v) = TP_nextPast q := rfl
theorem TP_undoable_set_past (q : TP) (v : Nat → Fin 12) : TP_undoable (TP_set_past q v) = TP_undoable q := rfl
theorem TP_pr_set_nextPast (q : TP) (v : Int32) : TP_pr (TP_set_nextPast q v) = TP_pr q := rfl
theorem TP_tr_set_nextPast (q : TP) (v : Int32) : TP_tr (TP_set_nextPast q v) = TP_tr q := rfl
theorem TP_past_set_nextPast (q : TP) (v : Int32) : TP_past (TP_set_nextPast q v) = TP_past q := rfl
theorem TP_nextPast_set_nextPast (q : TP) (v : Int32) : TP_nextPast (TP_set_nextPast q v) = v := rfl
theorem TP_undoable_set_nextPast (q : TP) (v : Int32) : TP_undoable (TP_set_nextPast q v) = TP_undoable q := rfl
theorem TP_pr_set_undoable (q : TP) (v : Int32) : TP_pr (TP_set_undoable q v) = TP_pr q := rfl
theorem TP_tr_set_undoable (q : TP) (v : Int32) : TP_tr (TP_set_undoable q v) = TP_tr q := rfl
theorem TP_past_set_undoable (q : TP) (v : Int32) : TP_past (TP_set_undoable q v) = TP_past q := rfl
theorem TP_nextPast_set_undoable (q : TP) (v : Int32) : TP_nextPast (TP_set_undoable q v) = TP_nextPast q := rfl
theorem TP_undoable_set_undoable (q : TP) (v : Int32) : TP_undoable (TP_set_undoable q v) = v := rfl
abbrev EE : Type := (Int32) × (Int32)
def EE_code (q : EE) : Int32 := q.1
def EE_pos (q : EE) : Int32 := q.2
def EE_set_code (q : EE) (v : Int32) : EE := (v, q.2)
def EE_set_pos (q : EE) (v : Int32) : EE := (q.1, v)
theorem EE_code_set_code (q : EE) (v : Int32) : EE_code (EE_set_code q v) = v := rfl
theorem EE_pos_set_code (q : EE) (v : Int32) : EE_pos (EE_set_code q v) = EE_pos q := rfl
theorem EE_code_set_pos (q : EE) (v : Int32) : EE_code (EE_set_pos q v) = EE_code q := rfl
theorem EE_pos_set_pos (q : EE) (v : Int32) : EE_pos (EE_set_pos q v) = v := rfl
abbrev SS : Type := (Int32) × (Int32) × (Int32) × (Nat → Int64) × (Nat → Int32) × (Nat → Int32) × (Nat → Int32) × (Nat → Int32) × (Nat → Int32) × (Nat → Int32) × (Nat → Int32) × (Int32) × (Int32) × (Nat → Int32) × (Nat → Int64)
def SS_time (q : SS) : Int32 := q.1
def SS_openValves (q : SS) : Int32 := q.2.1
def SS_runningPumps (q : SS) : Int32 := q.2.2.1
def SS_gas (q : SS) : Nat → Int64 := q.2.2.2.1
def SS_pressure (q : SS) : Nat → Int32 := q.2.2.2.2.1
def SS_outgassing (q : SS) : Nat → Int32 := q.2.2.2.2.2.1
def SS_leakSum (q : SS) : Nat → Int32 := q.2.2.2.2.2.2.1
def SS_rule (q : SS) : Nat → Int32 := q.2.2.2.2.2.2.2.1
def SS_valveTrips (q : SS) : Nat → Int32 := q.2.2.2.2.2.2.2.2.1
def SS_pumpTrips (q : SS) : Nat → Int32 := q.2.2.2.2.2.2.2.2.2.1
def SS_leak (q : SS) : Nat → Int32 := q.2.2.2.2.2.2.2.2.2.2.1
def SS_kept (q : SS) : Int32 := q.2.2.2.2.2.2.2.2.2.2.2.1
def SS_next (q : SS) : Int32 := q.2.2.2.2.2.2.2.2.2.2.2.2.1
def SS_facts (q : SS) : Nat → Int32 := q.2.2.2.2.2.2.2.2.2.2.2.2.2.1
def SS_rises (q : SS) : Nat → Int64 := q.2.2.2.2.2.2.2.2.2.2.2.2.2.2
def SS_set_time (q : SS) (v : Int32) : SS := (v, q.2.1, q.2.2.1, q.2.2.2.1, q.2.2.2.2.1, q.2.2.2.2.2.1, q.2.2.2.2.2.2.1, q.2.2.2.2.2.2.2.1, q.2.2.2.2.2.2.2.2.1, q.2.2.2.2.2.2.2.2.2.1, q.2.2.2.2.2.2.2.2.2.2.1, q.2.2.2.2.2.2.2.2.2.2.2.1, q.2.2.2.2.2.2.2.2.2.2.2.2.1, q.2.2.2.2.2.2.2.2.2.2.2.2.2.1, q.2.2.2.2.2.2.2.2.2.2.2.2.2.2)
def SS_set_openValves (q : SS) (v : Int32) : SS := (q.1, v, q.2.2.1, q.2.2.2.1, q.2.2.2.2.1, q.2.2.2.2.2.1, q.2.2.2.2.2.2.1, q.2.2.2.2.2.2.2.1, q.2.2.2.2.2.2.2.2.1, q.2.2.2.2.2.2.2.2.2.1, q.2.2.2.2.2.2.2.2.2.2.1, q.2.2.2.2.2.2.2.2.2.2.2.1, q.2.2.2.2.2.2.2.2.2.2.2.2.1, q.2.2.2.2.2.2.2.2.2.2.2.2.2.1, q.2.2.2.2.2.2.2.2.2.2.2.2.2.2)
def SS_set_runningPumps (q : SS) (v : Int32) : SS := (q.1, q.2.1, v, q.2.2.2.1, q.2.2.2.2.1, q.2.2.2.2.2.1, q.2.2.2.2.2.2.1, q.2.2.2.2.2.2.2.1, q.2.2.2.2.2.2.2.2.1, q.2.2.2.2.2.2.2.2.2.1, q.2.2.2.2.2.2.2.2.2.2.1, q.2.2.2.2.2.2.2.2.2.2.2.1, q.2.2.2.2.2.2.2.2.2.2.2.2.1, q.2.2.2.2.2.2.2.2.2.2.2.2.2.1, q.2.2.2.2.2.2.2.2.2.2.2.2.2.2)
def SS_set_gas (q : SS) (v : Nat → Int64) : SS := (q.1, q.2.1, q.2.2.1, v, q.2.2.2.2.1, q.2.2.2.2.2.1, q.2.2.2.2.2.2.1, q.2.2.2.2.2.2.2.1, q.2.2.2.2.2.2.2.2.1, q.2.2.2.2.2.2.2.2.2.1, q.2.2.2.2.2.2.2.2.2.2.1, q.2.2.2.2.2.2.2.2.2.2.2.1, q.2.2.2.2.2.2.2.2.2.2.2.2.1, q.2.2.2.2.2.2.2.2.2.2.2.2.2.1, q.2.2.2.2.2.2.2.2.2.2.2.2.2.2)
def SS_set_pressure (q : SS) (v : Nat → Int32) : SS := (q.1, q.2.1, q.2.2.1, q.2.2.2.1, v, q.2.2.2.2.2.1, q.2.2.2.2.2.2.1, q.2.2.2.2.2.2.2.1, q.2.2.2.2.2.2.2.2.1, q.2.2.2.2.2.2.2.2.2.1, q.2.2.2.2.2.2.2.2.2.2.1, q.2.2.2.2.2.2.2.2.2.2.2.1, q.2.2.2.2.2.2.2.2.2.2.2.2.1, q.2.2.2.2.2.2.2.2.2.2.2.2.2.1, q.2.2.2.2.2.2.2.2.2.2.2.2.2.2)
def SS_set_outgassing (q : SS) (v : Nat → Int32) : SS := (q.1, q.2.1, q.2.2.1, q.2.2.2.1, q.2.2.2.2.1, v, q.2.2.2.2.2.2.1, q.2.2.2.2.2.2.2.1, q.2.2.2.2.2.2.2.2.1, q.2.2.2.2.2.2.2.2.2.1, q.2.2.2.2.2.2.2.2.2.2.1, q.2.2.2.2.2.2.2.2.2.2.2.1, q.2.2.2.2.2.2.2.2.2.2.2.2.1, q.2.2.2.2.2.2.2.2.2.2.2.2.2.1, q.2.2.2.2.2.2.2.2.2.2.2.2.2.2)
def SS_set_leakSum (q : SS) (v : Nat → Int32) : SS := (q.1, q.2.1, q.2.2.1, q.2.2.2.1, q.2.2.2.2.1, q.2.2.2.2.2.1, v, q.2.2.2.2.2.2.2.1, q.2.2.2.2.2.2.2.2.1, q.2.2.2.2.2.2.2.2.2.1, q.2.2.2.2.2.2.2.2.2.2.1, q.2.2.2.2.2.2.2.2.2.2.2.1, q.2.2.2.2.2.2.2.2.2.2.2.2.1, q.2.2.2.2.2.2.2.2.2.2.2.2.2.1, q.2.2.2.2.2.2.2.2.2.2.2.2.2.2)
def SS_set_rule (q : SS) (v : Nat → Int32) : SS := (q.1, q.2.1, q.2.2.1, q.2.2.2.1, q.2.2.2.2.1, q.2.2.2.2.2.1, q.2.2.2.2.2.2.1, v, q.2.2.2.2.2.2.2.2.1, q.2.2.2.2.2.2.2.2.2.1, q.2.2.2.2.2.2.2.2.2.2.1, q.2.2.2.2.2.2.2.2.2.2.2.1, q.2.2.2.2.2.2.2.2.2.2.2.2.1, q.2.2.2.2.2.2.2.2.2.2.2.2.2.1, q.2.2.2.2.2.2.2.2.2.2.2.2.2.2)
def SS_set_valveTrips (q : SS) (v : Nat → Int32) : SS := (q.1, q.2.1, q.2.2.1, q.2.2.2.1, q.2.2.2.2.1, q.2.2.2.2.2.1, q.2.2.2.2.2.2.1, q.2.2.2.2.2.2.2.1, v, q.2.2.2.2.2.2.2.2.2.1, q.2.2.2.2.2.2.2.2.2.2.1, q.2.2.2.2.2.2.2.2.2.2.2.1, q.2.2.2.2.2.2.2.2.2.2.2.2.1, q.2.2.2.2.2.2.2.2.2.2.2.2.2.1, q.2.2.2.2.2.2.2.2.2.2.2.2.2.2)
def SS_set_pumpTrips (q : SS) (v : Nat → Int32) : SS := (q.1, q.2.1, q.2.2.1, q.2.2.2.1, q.2.2.2.2.1, q.2.2.2.2.2.1, q.2.2.2.2.2.2.1, q.2.2.2.2.2.2.2.1, q.2.2.2.2.2.2.2.2.1, v, q.2.2.2.2.2.2.2.2.2.2.1, q.2.2.2.2.2.2.2.2.2.2.2.1, q.2.2.2.2.2.2.2.2.2.2.2.2.1, q.2.2.2.2.2.2.2.2.2.2.2.2.2.1, q.2.2.2.2.2.2.2.2.2.2.2.2.2.2)
def SS_set_leak (q : SS) (v : Nat → Int32) : SS := (q.1, q.2.1, q.2.2.1, q.2.2.2.1, q.2.2.2.2.1, q.2.2.2.2.2.1, q.2.2.2.2.2.2.1, q.2.2.2.2.2.2.2.1, q.2.2.2.2.2.2.2.2.1, q.2.2.2.2.2.2.2.2.2.1, v, q.2.2.2.2.2.2.2.2.2.2.2.1, q.2.2.2.2.2.2.2.2.2.2.2.2.1, q.2.2.2.2.2.2.2.2.2.2.2.2.2.1, q.2.2.2.2.2.2.2.2.2.2.2.2.2.2)
def SS_set_kept (q : SS) (v : Int32) : SS := (q.1, q.2.1, q.2.2.1, q.2.2.2.1, q.2.2.2.2.1, q.2.2.2.2.2.1, q.2.2.2.2.2.2.1, q.2.2.2.2.2.2.2.1, q.2.2.2.2.2.2.2.2.1, q.2.2.2.2.2.2.2.2.2.1, q.2.2.2.2.2.2.2.2.2.2.1, v, q.2.2.2.2.2.2.2.2.2.2.2.2.1, q.2.2.2.2.2.2.2.2.2.2.2.2.2.1, q.2.2.2.2.2.2.2.2.2.2.2.2.2.2)
def SS_set_next (q : SS) (v : Int32) : SS := (q.1, q.2.1, q.2.2.1, q.2.2.2.1, q.2.2.2.2.1, q.2.2.2.2.2.1, q.2.2.2.2.2.2.1, q.2.2.2.2.2.2.2.1, q.2.2.2.2.2.2.2.2.1, q.2.2.2.2.2.2.2.2.2.1, q.2.2.2.2.2.2.2.2.2.2.1, q.2.2.2.2.2.2.2.2.2.2.2.1, v, q.2.2.2.2.2.2.2.2.2.2.2.2.2.1, q.2.2.2.2.2.2.2.2.2.2.2.2.2.2)
def SS_set_facts (q : SS) (v : Nat → Int32) : SS := (q.1, q.2.1, q.2.2.1, q.2.2.2.1, q.2.2.2.2.1, q.2.2.2.2.2.1, q.2.2.2.2.2.2.1, q.2.2.2.2.2.2.2.1, q.2.2.2.2.2.2.2.2.1, q.2.2.2.2.2.2.2.2.2.1, q.2.2.2.2.2.2.2.2.2.2.1, q.2.2.2.2.2.2.2.2.2.2.2.1, q.2.2.2.2.2.2.2.2.2.2.2.2.1, v, q.2.2.2.2.2.2.2.2.2.2.2.2.2.2)
def SS_set_rises (q : SS) (v : Nat → Int64) : SS := (q.1, q.2.1, q.2.2.1, q.2.2.2.1, q.2.2.2.2.1, q.2.2.2.2.2.1, q.2.2.2.2.2.2.1, q.2.2.2.2.2.2.2.1, q.2.2.2.2.2.2.2.2.1, q.2.2.2.2.2.2.2.2.2.1, q.2.2.2.2.2.2.2.2.2.2.1, q.2.2.2.2.2.2.2.2.2.2.2.1, q.2.2.2.2.2.2.2.2.2.2.2.2.1, q.2.2.2.2.2.2.2.2.2.2.2.2.2.1, v)
theorem SS_time_set_time (q : SS) (v : Int32) : SS_time (SS_set_time q v) = v := rfl
theorem SS_openValves_set_time (q : SS) (v : Int32) : SS_openValves (SS_set_time q v) = SS_openValves q := rfl
theorem SS_runningPumps_set_time (q : SS) (v : Int32) : SS_runningPumps (SS_set_time q v) = SS_runningPumps q := rfl
theorem SS_gas_set_time (q : SS) (v : Int32) : SS_gas (SS_set_time q v) = SS_gas q := rfl
theorem SS_pressure_set_time (q : SS) (v : Int32) : SS_pressure (SS_set_time q v) = SS_pressure q := rfl
theorem SS_outgassing_set_time (q : SS) (v : Int32) : SS_outgassing (SS_set_time q v) = SS_outgassing q := rfl
theorem SS_leakSum_set_time (q : SS) (v : Int32) : SS_leakSum (SS_set_time q v) = SS_leakSum q := rfl
theorem SS_rule_set_time (q : SS) (v : Int32) : SS_rule (SS_set_time q v) = SS_rule q := rfl
theorem SS_valveTrips_set_time (q : SS) (v : Int32) : SS_valveTrips (SS_set_time q v) = SS_valveTrips q := rfl
theorem SS_pumpTrips_set_time (q : SS) (v : Int32) : SS_pumpTrips (SS_set_time q v) = SS_pumpTrips q := rfl
theorem SS_leak_set_time (q : SS) (v : Int32) : SS_leak (SS_set_time q v) = SS_leak q := rfl
theorem SS_kept_set_time (q : SS) (v : Int32) : SS_kept (SS_set_time q v) = SS_kept q := rfl
theorem SS_next_set_time (q : SS) (v : Int32) : SS_next (SS_set_time q v) = SS_next q := rfl
theorem SS_facts_set_time (q : SS) (v : Int32) : SS_facts (SS_set_time q v) = SS_facts q := rfl
theorem SS_rises_set_time (q : SS) (v : Int32) : SS_rises (SS_set_time q v) = SS_rises q := rfl
theorem SS_time_set_openValves (q : SS) (v : Int32) : SS_time (SS_set_openValves q v) = SS_time q := rfl
theorem SS_openValves_set_openValves (q : SS) (v : Int32) : SS_openValves (SS_set_openValves q v) = v := rfl
theorem SS_runningPumps_set_openValves (q : SS) (v : Int32) : SS_runningPumps (SS_set_openValves q v) = SS_runningPumps q := rfl
theorem SS_gas_set_openValves (q : SS) (v : Int32) : SS_gas (SS_set_openValves q v) = SS_gas q := rfl
theorem SS_pressure_set_openValves (q : SS) (v : Int32) : SS_pressure (SS_set_openValves q v) = SS_pressure q := rfl
theorem SS_outgassing_set_openValves (q : SS) (v : Int32) : SS_outgassing (SS_set_openValves q v) = SS_outgassing q := rfl
theorem SS_leakSum_set_openValves (q : SS) (v : Int32) : SS_leakSum (SS_set_openValves q v) = SS_leakSum q := rfl
theorem SS_rule_set_openValves (q : SS) (v : Int32) : SS_rule (SS_set_openValves q v) = SS_rule q := rfl
theorem SS_valveTrips_set_openValves (q : SS) (v : Int32) : SS_valveTrips (SS_set_openValves q v) = SS_valveTrips q := rfl
theorem SS_pumpTrips_set_openValves (q : SS) (v : Int32) : SS_pumpTrips (SS_set_openValves q v) = SS_pumpTrips q := rfl
theorem SS_leak_set_openValves (q : SS) (v : Int32) : SS_leak (SS_set_openValves q v) = SS_leak q := rfl
theorem SS_kept_set_openValves (q : SS) (v : Int32) : SS_kept (SS_set_openValves q v) = SS_kept q := rfl
theorem SS_next_set_openValves (q : SS) (v : Int32) : SS_next (SS_set_openValves q v) = SS_next q := rfl
theorem SS_facts_set_openValves (q : SS) (v : Int32) : SS_facts (SS_set_openValves q v) = SS_facts q := rfl
theorem SS_rises_set_openValves (q : SS) (v : Int32) : SS_rises (SS_set_openValves q v) = SS_rises q := rfl
theorem SS_time_set_runningPumps (q : SS) (v : Int32) : SS_time (SS_set_runningPumps q v) = SS_time q := rfl
theorem SS_openValves_set_runningPumps (q : SS) (v : Int32) : SS_openValves (SS_set_runningPumps q v) = SS_openValves q := rfl
theorem SS_runningPumps_set_runningPumps (q : SS) (v : Int32) : SS_runningPumps (SS_set_runningPumps q v) = v := rfl
theorem SS_gas_set_runningPumps (q : SS) (v : Int32) : SS_gas (SS_set_runningPumps q v) = SS_gas q := rfl
theorem SS_pressure_set_runningPumps (q : SS) (v : Int32) : SS_pressure (SS_set_runningPumps q v) = SS_pressure q := rfl
theorem SS_outgassing_set_runningPumps (q : SS) (v : Int32) : SS_outgassing (SS_set_runningPumps q v) = SS_outgassing q := rfl
theorem SS_leakSum_set_runningPumps (q : SS) (v : Int32) : SS_leakSum (SS_set_runningPumps q v) = SS_leakSum q := rfl
theorem SS_rule_set_runningPumps (q : SS) (v : Int32) : SS_rule (SS_set_runningPumps q v) = SS_rule q := rfl
theorem SS_valveTrips_set_runningPumps (q : SS) (v : Int32) : SS_valveTrips (SS_set_runningPumps q v) = SS_valveTrips q := rfl
theorem SS_pumpTrips_set_runningPumps (q : SS) (v : Int32) : SS_pumpTrips (SS_set_runningPumps q v) = SS_pumpTrips q := rfl
theorem SS_leak_set_runningPumps (q : SS) (v : Int32) : SS_leak (SS_set_runningPumps q v) = SS_leak q := rfl
theorem SS_kept_set_runningPumps (q : SS) (v : Int32) : SS_kept (SS_set_runningPumps q v) = SS_kept q := rfl
theorem SS_next_set_runningPumps (q : SS) (v : Int32) : SS_next (SS_set_runningPumps q v) = SS_next q := rfl
theorem SS_facts_set_runningPumps (q : SS) (v : Int32) : SS_facts (SS_set_runningPumps q v) = SS_facts q := rfl
theorem SS_rises_set_runningPumps (q : SS) (v : Int32) : SS_rises (SS_set_runningPumps q v) = SS_rises q := rfl
theorem SS_time_set_gas (q : SS) (v : Nat → Int64) : SS_time (SS_set_gas q v) = SS_time q := rfl
theorem SS_openValves_set_gas (q : SS) (v : Nat → Int64) : SS_openValves (SS_set_gas q v) = SS_openValves q := rfl
theorem SS_runningPumps_set_gas (q : SS) (v : Nat → Int64) : SS_runningPumps (SS_set_gas q v) = SS_runningPumps q := rfl
theorem SS_gas_set_gas (q : SS) (v : Nat → Int64) : SS_gas (SS_set_gas q v) = v := rfl
theorem SS_pressure_set_gas (q : SS) (v : Nat → Int64) : SS_pressure (SS_set_gas q v) = SS_pressure q := rfl
theorem SS_outgassing_set_gas (q : SS) (v : Nat → Int64) : SS_outgassing (SS_set_gas q v) = SS_outgassing q := rfl
theorem SS_leakSum_set_gas (q : SS) (v : Nat → Int64) : SS_leakSum (SS_set_gas q v) = SS_leakSum q := rfl
theorem SS_rule_set_gas (q : SS) (v : Nat → Int64) : SS_rule (SS_set_gas q v) = SS_rule q := rfl
theorem SS_valveTrips_set_gas (q : SS) (v : Nat → Int64) : SS_valveTrips (SS_set_gas q v) = SS_valveTrips q := rfl
theorem SS_pumpTrips_set_gas (q : SS) (v : Nat → Int64) : SS_pumpTrips (SS_set_gas q v) = SS_pumpTrips q := rfl
theorem SS_leak_set_gas (q : SS) (v : Nat → Int64) : SS_leak (SS_set_gas q v) = SS_leak q := rfl
theorem SS_kept_set_gas (q : SS) (v : Nat → Int64) : SS_kept (SS_set_gas q v) = SS_kept q := rfl
theorem SS_next_set_gas (q : SS) (v : Nat → Int64) : SS_next (SS_set_gas q v) = SS_next q := rfl
theorem SS_facts_set_gas (q : SS) (v : Nat → Int64) : SS_facts (SS_set_gas q v) = SS_facts q := rfl
theorem SS_rises_set_gas (q : SS) (v : Nat → Int64) : SS_rises (SS_set_gas q v) = SS_rises q := rfl
theorem SS_time_set_pressure (q : SS) (v : Nat → Int32) : SS_time (SS_set_pressure q v) = SS_time q := rfl
theorem SS_openValves_set_pressure (q : SS) (v : Nat → Int32) : SS_openValves (SS_set_pressure q v) = SS_openValves q := rfl
theorem SS_runningPumps_set_pressure (q : SS) (v : Nat → Int32) : SS_runningPumps (SS_set_pressure q v) = SS_runningPumps q := rfl
theorem SS_gas_set_pressure (q : SS) (v : Nat → Int32) : SS_gas (SS_set_pressure q v) = SS_gas q := rfl
theorem SS_pressure_set_pressure (q : SS) (v : Nat → Int32) : SS_pressure (SS_set_pressure q v) = v := rfl
theorem SS_outgassing_set_pressure (q : SS) (v : Nat → Int32) : SS_outgassing (SS_set_pressure q v) = SS_outgassing q := rfl
theorem SS_leakSum_set_pressure (q : SS) (v : Nat → Int32) : SS_leakSum (SS_set_pressure q v) = SS_leakSum q := rfl
theorem SS_rule_set_pressure (q : SS) (v : Nat → Int32) : SS_rule (SS_set_pressure q v) = SS_rule q := rfl
theorem SS_valveTrips_set_pressure (q : SS) (v : Nat → Int32) : SS_valveTrips (SS_set_pressure q v) = SS_valveTrips q := rfl
theorem SS_pumpTrips_set_pressure (q : SS) (v : Nat → Int32) : SS_pumpTrips (SS_set_pressure q v) = SS_pumpTrips q := rfl
theorem SS_leak_set_pressure (q : SS) (v : Nat → Int32) : SS_leak (SS_set_pressure q v) = SS_leak q := rfl
theorem SS_kept_set_pressure (q : SS) (v : Nat → Int32) : SS_kept (SS_set_pressure q v) = SS_kept q := rfl
theorem SS_next_set_pressure (q : SS) (v : Nat → Int32) : SS_next (SS_set_pressure q v) = SS_next q := rfl
theorem SS_facts_set_pressure (q : SS) (v : Nat → Int32) : SS_facts (SS_set_pressure q v) = SS_facts q := rfl
theorem SS_rises_set_pressure (q : SS) (v : Nat → Int32) : SS_rises (SS_set_pressure q v) = SS_rises q := rfl
theorem SS_time_set_outgassing (q : SS) (v : Nat → Int32) : SS_time (SS_set_outgassing q v) = SS_time q := rfl
theorem SS_openValves_set_outgassing (q : SS) (v : Nat → Int32) : SS_openValves (SS_set_outgassing q v) = SS_openValves q := rfl
theorem SS_runningPumps_set_outgassing (q : SS) (v : Nat → Int32) : SS_runningPumps (SS_set_outgassing q v) = SS_runningPumps q := rfl
theorem SS_gas_set_outgassing (q : SS) (v : Nat → Int32) : SS_gas (SS_set_outgassing q v) = SS_gas q := rfl
theorem SS_pressure_set_outgassing (q : SS) (v : Nat → Int32) : SS_pressure (SS_set_outgassing q v) = SS_pressure q := rfl
theorem SS_outgassing_set_outgassing (q : SS) (v : Nat → Int32) : SS_outgassing (SS_set_outgassing q v) = v := rfl
theorem SS_leakSum_set_outgassing (q : SS) (v : Nat → Int32) : SS_leakSum (SS_set_outgassing q v) = SS_leakSum q := rfl
theorem SS_rule_set_outgassing (q : SS) (v : Nat → Int32) : SS_rule (SS_set_outgassing q v) = SS_rule q := rfl
theorem SS_valveTrips_set_outgassing (q : SS) (v : Nat → Int32) : SS_valveTrips (SS_set_outgassing q v) = SS_valveTrips q := rfl
theorem SS_pumpTrips_set_outgassing (q : SS) (v : Nat → Int32) : SS_pumpTrips (SS_set_outgassing q v) = SS_pumpTrips q := rfl
theorem SS_leak_set_outgassing (q : SS) (v : Nat → Int32) : SS_leak (SS_set_outgassing q v) = SS_leak q := rfl
theorem SS_kept_set_outgassing (q : SS) (v : Nat → Int32) : SS_kept (SS_set_outgassing q v) = SS_kept q := rfl
theorem SS_next_set_outgassing (q : SS) (v : Nat → Int32) : SS_next (SS_set_outgassing q v) = SS_next q := rfl
theorem SS_facts_set_outgassing (q : SS) (v : Nat → Int32) : SS_facts (SS_set_outgassing q v) = SS_facts q := rfl
theorem SS_rises_set_outgassing (q : SS) (v : Nat → Int32) : SS_rises (SS_set_outgassing q v) = SS_rises q := rfl
theorem SS_time_set_leakSum (q : SS) (v : Nat → Int32) : SS_time (SS_set_leakSum q v) = SS_time q := rfl
theorem SS_openValves_set_leakSum (q : SS) (v : Nat → Int32) : SS_openValves (SS_set_leakSum q v) = SS_openValves q := rfl
theorem SS_runningPumps_set_leakSum (q : SS) (v : Nat → Int32) : SS_runningPumps (SS_set_leakSum q v) = SS_runningPumps q := rfl
theorem SS_gas_set_leakSum (q : SS) (v : Nat → Int32) : SS_gas (SS_set_leakSum q v) = SS_gas q := rfl
theorem SS_pressure_set_leakSum (q : SS) (v : Nat → Int32) : SS_pressure (SS_set_leakSum q v) = SS_pressure q := rfl
theorem SS_outgassing_set_leakSum (q : SS) (v : Nat → Int32) : SS_outgassing (SS_set_leakSum q v) = SS_outgassing q := rfl
theorem SS_leakSum_set_leakSum (q : SS) (v : Nat → Int32) : SS_leakSum (SS_set_leakSum q v) = v := rfl
theorem SS_rule_set_leakSum (q : SS) (v : Nat → Int32) : SS_rule (SS_set_leakSum q v) = SS_rule q := rfl
theorem SS_valveTrips_set_leakSum (q : SS) (v : Nat → Int32) : SS_valveTrips (SS_set_leakSum q v) = SS_valveTrips q := rfl
theorem SS_pumpTrips_set_leakSum (q : SS) (v : Nat → Int32) : SS_pumpTrips (SS_set_leakSum q v) = SS_pumpTrips q := rfl
theorem SS_leak_set_leakSum (q : SS) (v : Nat → Int32) : SS_leak (SS_set_leakSum q v) = SS_leak q := rfl
theorem SS_kept_set_leakSum (q : SS) (v : Nat → Int32) : SS_kept (SS_set_leakSum q v) = SS_kept q := rfl
theorem SS_next_set_leakSum (q : SS) (v : Nat → Int32) : SS_next (SS_set_leakSum q v) = SS_next q := rfl
theorem SS_facts_set_leakSum (q : SS) (v : Nat → Int32) : SS_facts (SS_set_leakSum q v) = SS_facts q := rfl
theorem SS_rises_set_leakSum (q : SS) (v : Nat → Int32) : SS_rises (SS_set_leakSum q v) = SS_rises q := rfl
theorem SS_time_set_rule (q : SS) (v : Nat → Int32) : SS_time (SS_set_rule q v) = SS_time q := rfl
theorem SS_openValves_set_rule (q : SS) (v : Nat → Int32) : SS_openValves (SS_set_rule q v) = SS_openValves q := rfl
theorem SS_runningPumps_set_rule (q : SS) (v : Nat → Int32) : SS_runningPumps (SS_set_rule q v) = SS_runningPumps q := rfl
theorem SS_gas_set_rule (q : SS) (v : Nat → Int32) : SS_gas (SS_set_rule q v) = SS_gas q := rfl
theorem SS_pressure_set_rule (q : SS) (v : Nat → Int32) : SS_pressure (SS_set_rule q v) = SS_pressure q := rfl
theorem SS_outgassing_set_rule (q : SS) (v : Nat → Int32) : SS_outgassing (SS_set_rule q v) = SS_outgassing q := rfl
theorem SS_leakSum_set_rule (q : SS) (v : Nat → Int32) : SS_leakSum (SS_set_rule q v) = SS_leakSum q := rfl
theorem SS_rule_set_rule (q : SS) (v : Nat → Int32) : SS_rule (SS_set_rule q v) = v := rfl
theorem SS_valveTrips_set_rule (q : SS) (v : Nat → Int32) : SS_valveTrips (SS_set_rule q v) = SS_valveTrips q := rfl
theorem SS_pumpTrips_set_rule (q : SS) (v : Nat → Int32) : SS_pumpTrips (SS_set_rule q v) = SS_pumpTrips q := rfl
theorem SS_leak_set_rule (q : SS) (v : Nat → Int32) : SS_leak (SS_set_rule q v) = SS_leak q := rfl
theorem SS_kept_set_rule (q : SS) (v : Nat → Int32) : SS_kept (SS_set_rule q v) = SS_kept q := rfl
theorem SS_next_set_rule (q : SS) (v : Nat → Int32) : SS_next (SS_set_rule q v) = SS_next q := rfl
theorem SS_facts_set_rule (q : SS) (v : Nat → Int32) : SS_facts (SS_set_rule q v) = SS_facts q := rfl
theorem SS_rises_set_rule (q : SS) (v : Nat → Int32) : SS_rises (SS_set_rule q v) = SS_rises q := rfl
theorem SS_time_set_valveTrips (q : SS) (v : Nat → Int32) : SS_time (SS_set_valveTrips q v) = SS_time q := rfl
theorem SS_openValves_set_valveTrips (q : SS) (v : Nat → Int32) : SS_openValves (SS_set_valveTrips q v) = SS_openValves q := rfl
theorem SS_runningPumps_set_valveTrips (q : SS) (v : Nat → Int32) : SS_runningPumps (SS_set_valveTrips q v) = SS_runningPumps q := rfl
theorem SS_gas_set_valveTrips (q : SS) (v : Nat → Int32) : SS_gas (SS_set_valveTrips q v) = SS_gas q := rfl
theorem SS_pressure_set_valveTrips (q : SS) (v : Nat → Int32) : SS_pressure (SS_set_valveTrips q v) = SS_pressure q := rfl
theorem SS_outgassing_set_valveTrips (q : SS) (v : Nat → Int32) : SS_outgassing (SS_set_valveTrips q v) = SS_outgassing q := rfl
theorem SS_leakSum_set_valveTrips (q : SS) (v : Nat → Int32) : SS_leakSum (SS_set_valveTrips q v) = SS_leakSum q := rfl
theorem SS_rule_set_valveTrips (q : SS) (v : Nat → Int32) : SS_rule (SS_set_valveTrips q v) = SS_rule q := rfl
theorem SS_valveTrips_set_valveTrips (q : SS) (v : Nat → Int32) : SS_valveTrips (SS_set_valveTrips q v) = v := rfl
theorem SS_pumpTrips_set_valveTrips (q : SS) (v : Nat → Int32) : SS_pumpTrips (SS_set_valveTrips q v) = SS_pumpTrips q := rfl
theorem SS_leak_set_valveTrips (q : SS) (v : Nat → Int32) : SS_leak (SS_set_valveTrips q v) = SS_leak q := rfl
theorem SS_kept_set_valveTrips (q : SS) (v : Nat → Int32) : SS_kept (SS_set_valveTrips q v) = SS_kept q := rfl
theorem SS_next_set_valveTrips (q : SS) (v : Nat → Int32) : SS_next (SS_set_valveTrips q v) = SS_next q := rfl
theorem SS_facts_set_valveTrips (q : SS) (v : Nat → Int32) : SS_facts (SS_set_valveTrips q v) = SS_facts q := rfl
theorem SS_rises_set_valveTrips (q : SS) (v : Nat → Int32) : SS_rises (SS_set_valveTrips q v) = SS_rises q := rfl
theorem SS_time_set_pumpTrips (q : SS) (v : Nat → Int32) : SS_time (SS_set_pumpTrips q v) = SS_time q := rfl
theorem SS_openValves_set_pumpTrips (q : SS) (v : Nat → Int32) : SS_openValves (SS_set_pumpTrips q v) = SS_openValves q := rfl
theorem SS_runningPumps_set_pumpTrips (q : SS) (v : Nat → Int32) : SS_runningPumps (SS_set_pumpTrips q v) = SS_runningPumps q := rfl
theorem SS_gas_set_pumpTrips (q : SS) (v : Nat → Int32) : SS_gas (SS_set_pumpTrips q v) = SS_gas q := rfl
theorem SS_pressure_set_pumpTrips (q : SS) (v : Nat → Int32) : SS_pressure (SS_set_pumpTrips q v) = SS_pressure q := rfl
theorem SS_outgassing_set_pumpTrips (q : SS) (v : Nat → Int32) : SS_outgassing (SS_set_pumpTrips q v) = SS_outgassing q := rfl
theorem SS_leakSum_set_pumpTrips (q : SS) (v : Nat → Int32) : SS_leakSum (SS_set_pumpTrips q v) = SS_leakSum q := rfl
theorem SS_rule_set_pumpTrips (q : SS) (v : Nat → Int32) : SS_rule (SS_set_pumpTrips q v) = SS_rule q := rfl
theorem SS_valveTrips_set_pumpTrips (q : SS) (v : Nat → Int32) : SS_valveTrips (SS_set_pumpTrips q v) = SS_valveTrips q := rfl
theorem SS_pumpTrips_set_pumpTrips (q : SS) (v : Nat → Int32) : SS_pumpTrips (SS_set_pumpTrips q v) = v := rfl
theorem SS_leak_set_pumpTrips (q : SS) (v : Nat → Int32) : SS_leak (SS_set_pumpTrips q v) = SS_leak q := rfl
theorem SS_kept_set_pumpTrips (q : SS) (v : Nat → Int32) : SS_kept (SS_set_pumpTrips q v) = SS_kept q := rfl
theorem SS_next_set_pumpTrips (q : SS) (v : Nat → Int32) : SS_next (SS_set_pumpTrips q v) = SS_next q := rfl
theorem SS_facts_set_pumpTrips (q : SS) (v : Nat → Int32) : SS_facts (SS_set_pumpTrips q v) = SS_facts q := rfl
theorem SS_rises_set_pumpTrips (q : SS) (v : Nat → Int32) : SS_rises (SS_set_pumpTrips q v) = SS_rises q := rfl
theorem SS_time_set_leak (q : SS) (v : Nat → Int32) : SS_time (SS_set_leak q v) = SS_time q := rfl
theorem SS_openValves_set_leak (q : SS) (v : Nat → Int32) : SS_openValves (SS_set_leak q v) = SS_openValves q := rfl
theorem SS_runningPumps_set_leak (q : SS) (v : Nat → Int32) : SS_runningPumps (SS_set_leak q v) = SS_runningPumps q := rfl
theorem SS_gas_set_leak (q : SS) (v : Nat → Int32) : SS_gas (SS_set_leak q v) = SS_gas q := rfl
theorem SS_pressure_set_leak (q : SS) (v : Nat → Int32) : SS_pressure (SS_set_leak q v) = SS_pressure q := rfl
theorem SS_outgassing_set_leak (q : SS) (v : Nat → Int32) : SS_outgassing (SS_set_leak q v) = SS_outgassing q := rfl
theorem SS_leakSum_set_leak (q : SS) (v : Nat → Int32) : SS_leakSum (SS_set_leak q v) = SS_leakSum q := rfl
theorem SS_rule_set_leak (q : SS) (v : Nat → Int32) : SS_rule (SS_set_leak q v) = SS_rule q := rfl
theorem SS_valveTrips_set_leak (q : SS) (v : Nat → Int32) : SS_valveTrips (SS_set_leak q v) = SS_valveTrips q := rfl
theorem SS_pumpTrips_set_leak (q : SS) (v : Nat → Int32) : SS_pumpTrips (SS_set_leak q v) = SS_pumpTrips q := rfl
theorem SS_leak_set_leak (q : SS) (v : Nat → Int32) : SS_leak (SS_set_leak q v) = v := rfl
theorem SS_kept_set_leak (q : SS) (v : Nat → Int32) : SS_kept (SS_set_leak q v) = SS_kept q := rfl
theorem SS_next_set_leak (q : SS) (v : Nat → Int32) : SS_next (SS_set_leak q v) = SS_next q := rfl
theorem SS_facts_set_leak (q : SS) (v : Nat → Int32) : SS_facts (SS_set_leak q v) = SS_facts q := rfl
theorem SS_rises_set_leak (q : SS) (v : Nat → Int32) : SS_rises (SS_set_leak q v) = SS_rises q := rfl
theorem SS_time_set_kept (q : SS) (v : Int32) : SS_time (SS_set_kept q v) = SS_time q := rfl
theorem SS_openValves_set_kept (q : SS) (v : Int32) : SS_openValves (SS_set_kept q v) = SS_openValves q := rfl
theorem SS_runningPumps_set_kept (q : SS) (v : Int32) : SS_runningPumps (SS_set_kept q v) = SS_runningPumps q := rfl
theorem SS_gas_set_kept (q : SS) (v : Int32) : SS_gas (SS_set_kept q v) = SS_gas q := rfl
theorem SS_pressure_set_kept (q : SS) (v : Int32) : SS_pressure (SS_set_kept q v) = SS_pressure q := rfl
theorem SS_outgassing_set_kept (q : SS) (v : Int32) : SS_outgassing (SS_set_kept q v) = SS_outgassing q := rfl
theorem SS_leakSum_set_kept (q : SS) (v : Int32) : SS_leakSum (SS_set_kept q v) = SS_leakSum q := rfl
theorem SS_rule_set_kept (q : SS) (v : Int32) : SS_rule (SS_set_kept q v) = SS_rule q := rfl
theorem SS_valveTrips_set_kept (q : SS) (v : Int32) : SS_valveTrips (SS_set_kept q v) = SS_valveTrips q := rfl
theorem SS_pumpTrips_set_kept (q : SS) (v : Int32) : SS_pumpTrips (SS_set_kept q v) = SS_pumpTrips q := rfl
theorem SS_leak_set_kept (q : SS) (v : Int32) : SS_leak (SS_set_kept q v) = SS_leak q := rfl
theorem SS_kept_set_kept (q : SS) (v : Int32) : SS_kept (SS_set_kept q v) = v := rfl
theorem SS_next_set_kept (q : SS) (v : Int32) : SS_next (SS_set_kept q v) = SS_next q := rfl
theorem SS_facts_set_kept (q : SS) (v : Int32) : SS_facts (SS_set_kept q v) = SS_facts q := rfl
theorem SS_rises_set_kept (q : SS) (v : Int32) : SS_rises (SS_set_kept q v) = SS_rises q := rfl
theorem SS_time_set_next (q : SS) (v : Int32) : SS_time (SS_set_next q v) = SS_time q := rfl
theorem SS_openValves_set_next (q : SS) (v : Int32) : SS_openValves (SS_set_next q v) = SS_openValves q := rfl
theorem SS_runningPumps_set_next (q : SS) (v : Int32) : SS_runningPumps (SS_set_next q v) = SS_runningPumps q := rfl
theorem SS_gas_set_next (q : SS) (v : Int32) : SS_gas (SS_set_next q v) = SS_gas q := rfl
theorem SS_pressure_set_next (q : SS) (v : Int32) : SS_pressure (SS_set_next q v) = SS_pressure q := rfl
theorem SS_outgassing_set_next (q : SS) (v : Int32) : SS_outgassing (SS_set_next q v) = SS_outgassing q := rfl
theorem SS_leakSum_set_next (q : SS) (v : Int32) : SS_leakSum (SS_set_next q v) = SS_leakSum q := rfl
theorem SS_rule_set_next (q : SS) (v : Int32) : SS_rule (SS_set_next q v) = SS_rule q := rfl
theorem SS_valveTrips_set_next (q : SS) (v : Int32) : SS_valveTrips (SS_set_next q v) = SS_valveTrips q := rfl
theorem SS_pumpTrips_set_next (q : SS) (v : Int32) : SS_pumpTrips (SS_set_next q v) = SS_pumpTrips q := rfl
theorem SS_leak_set_next (q : SS) (v : Int32) : SS_leak (SS_set_next q v) = SS_leak q := rfl
theorem SS_kept_set_next (q : SS) (v : Int32) : SS_kept (SS_set_next q v) = SS_kept q := rfl
theorem SS_next_set_next (q : SS) (v : Int32) : SS_next (SS_set_next q v) = v := rfl
theorem SS_facts_set_next (q : SS) (v : Int32) : SS_facts (SS_set_next q v) = SS_facts q := rfl
theorem SS_rises_set_next (q : SS) (v : Int32) : SS_rises (SS_set_next q v) = SS_rises q := rfl
theorem SS_time_set_facts (q : SS) (v : Nat → Int32) : SS_time (SS_set_facts q v) = SS_time q := rfl
theorem SS_openValves_set_facts (q : SS) (v : Nat → Int32) : SS_openValves (SS_set_facts q v) = SS_openValves q := rfl
theorem SS_runningPumps_set_facts (q : SS) (v : Nat → Int32) : SS_runningPumps (SS_set_facts q v) = SS_runningPumps q := rfl
theorem SS_gas_set_facts (q : SS) (v : Nat → Int32) : SS_gas (SS_set_facts q v) = SS_gas q := rfl
theorem SS_pressure_set_facts (q : SS) (v : Nat → Int32) : SS_pressure (SS_set_facts q v) = SS_pressure q := rfl
theorem SS_outgassing_set_facts (q : SS) (v : Nat → Int32) : SS_outgassing (SS_set_facts q v) = SS_outgassing q := rfl
theorem SS_leakSum_set_facts (q : SS) (v : Nat → Int32) : SS_leakSum (SS_set_facts q v) = SS_leakSum q := rfl
theorem SS_rule_set_facts (q : SS) (v : Nat → Int32) : SS_rule (SS_set_facts q v) = SS_rule q := rfl
theorem SS_valveTrips_set_facts (q : SS) (v : Nat → Int32) : SS_valveTrips (SS_set_facts q v) = SS_valveTrips q := rfl
theorem SS_pumpTrips_set_facts (q : SS) (v : Nat → Int32) : SS_pumpTrips (SS_set_facts q v) = SS_pumpTrips q := rfl
theorem SS_leak_set_facts (q : SS) (v : Nat → Int32) : SS_leak (SS_set_facts q v) = SS_leak q := rfl
theorem SS_kept_set_facts (q : SS) (v : Nat → Int32) : SS_kept (SS_set_facts q v) = SS_kept q := rfl
theorem SS_next_set_facts (q : SS) (v : Nat → Int32) : SS_next (SS_set_facts q v) = SS_next q := rfl
theorem SS_facts_set_facts (q : SS) (v : Nat → Int32) : SS_facts (SS_set_facts q v) = v := rfl
theorem SS_rises_set_facts (q : SS) (v : Nat → Int32) : SS_rises (SS_set_facts q v) = SS_rises q := rfl
theorem SS_time_set_rises (q : SS) (v : Nat → Int64) : SS_time (SS_set_rises q v) = SS_time q := rfl
theorem SS_openValves_set_rises (q : SS) (v : Nat → Int64) : SS_openValves (SS_set_rises q v) = SS_openValves q := rfl
theorem SS_runningPumps_set_rises (q : SS) (v : Nat → Int64) : SS_runningPumps (SS_set_rises q v) = SS_runningPumps q := rfl
theorem SS_gas_set_rises (q : SS) (v : Nat → Int64) : SS_gas (SS_set_rises q v) = SS_gas q := rfl
theorem SS_pressure_set_rises (q : SS) (v : Nat → Int64) : SS_pressure (SS_set_rises q v) = SS_pressure q := rfl
theorem SS_outgassing_set_rises (q : SS) (v : Nat → Int64) : SS_outgassing (SS_set_rises q v) = SS_outgassing q := rfl
theorem SS_leakSum_set_rises (q : SS) (v : Nat → Int64) : SS_leakSum (SS_set_rises q v) = SS_leakSum q := rfl
theorem SS_rule_set_rises (q : SS) (v : Nat → Int64) : SS_rule (SS_set_rises q v) = SS_rule q := rfl
theorem SS_valveTrips_set_rises (q : SS) (v : Nat → Int64) : SS_valveTrips (SS_set_rises q v) = SS_valveTrips q := rfl
theorem SS_pumpTrips_set_rises (q : SS) (v : Nat → Int64) : SS_pumpTrips (SS_set_rises q v) = SS_pumpTrips q := rfl
theorem SS_leak_set_rises (q : SS) (v : Nat → Int64) : SS_leak (SS_set_rises q v) = SS_leak q := rfl
theorem SS_kept_set_rises (q : SS) (v : Nat → Int64) : SS_kept (SS_set_rises q v) = SS_kept q := rfl
theorem SS_next_set_rises (q : SS) (v : Nat → Int64) : SS_next (SS_set_rises q v) = SS_next q := rfl
theorem SS_facts_set_rises (q : SS) (v : Nat → Int64) : SS_facts (SS_set_rises q v) = SS_facts q := rfl
theorem SS_rises_set_rises (q : SS) (v : Nat → Int64) : SS_rises (SS_set_rises q v) = v := rfl
def updF {n : Nat} {α : Type} (f : Fin n → α) (j : Fin n) (x : α) : Fin n → α := fun i => if i = j then x else f i
theorem updF_same {n : Nat} {α : Type} (f : Fin n → α) (j : Fin n) (x : α) : updF f j x j = x := if_pos rfl
theorem updF_ne {n : Nat} {α : Type} (f : Fin n → α) {i j : Fin n} (x : α) (h : i ≠ j) : updF f j x i = f i := if_neg h
theorem updF_self {n : Nat} {α : Type} (f : Fin n → α) (j : Fin n) : updF f j (f j) = f := by
  funext i
  unfold updF
  split
  · rename_i h; rw [h]
  · rfl
theorem updF_upd {n : Nat} {α : Type} (f : Fin n → α) (j : Fin n) (x y : α) : updF (updF f j x) j y = updF f j y := by
  funext i
  unfold updF
  split <;> rfl
theorem fin2 {P : Fin 2 → Prop} (h0 : P 0) (h1 : P 1) : ∀ i, P i := fun i => match i with
  | ⟨0, _⟩ => h0
  | ⟨1, _⟩ => h1
theorem fin12 {P : Fin 12 → Prop} (h0 : P 0) (h1 : P 1) (h2 : P 2) (h3 : P 3) (h4 : P 4) (h5 : P 5) (h6 : P 6) (h7 : P 7) (h8 : P 8) (h9 : P 9) (h10 : P 10) (h11 : P 11) : ∀ i, P i := fun i => match i with
  | ⟨0, _⟩ => h0
  | ⟨1, _⟩ => h1
  | ⟨2, _⟩ => h2
  | ⟨3, _⟩ => h3
  | ⟨4, _⟩ => h4
  | ⟨5, _⟩ => h5
  | ⟨6, _⟩ => h6
  | ⟨7, _⟩ => h7
  | ⟨8, _⟩ => h8
  | ⟨9, _⟩ => h9
  | ⟨10, _⟩ => h10
  | ⟨11, _⟩ => h11
def fLay (k : KT) (i : Fin 2) (L : LL) : List Value := [.int (LL_chambers L), .int (LL_pumps L), .int (LL_valves L), .int (LL_flanges L), .ref (k.b + (4 + 17 * i.val + 1)), .ref (k.b + (4 + 17 * i.val + 2)), .ref (k.b + (4 + 17 * i.val + 3)), .ref (k.b + (4 + 17 * i.val + 4)), .ref (k.b + (4 + 17 * i.val + 5)), .ref (k.b + (4 + 17 * i.val + 6)), .ref (k.b + (4 + 17 * i.val + 7)), .ref (k.b + (4 + 17 * i.val + 8)), .ref (k.b + (4 + 17 * i.val + 9)), .ref (k.b + (4 + 17 * i.val + 10)), .ref (k.b + (4 + 17 * i.val + 11)), .ref (k.b + (4 + 17 * i.val + 12)), .ref (k.b + (4 + 17 * i.val + 13)), .ref (k.b + (4 + 17 * i.val + 14)), .ref (k.b + (4 + 17 * i.val + 15))]
def cLay (k : KT) (i : Fin 2) (L : LL) : va_W := [(k.b + (4 + 17 * i.val), .inr (1, fLay k i L)), (k.b + (4 + 17 * i.val + 1), .inl (k.c 0, (8, .inl (LL_volume L)))), (k.b + (4 + 17 * i.val + 2), .inl (k.c 0, (8, .inl (LL_firstOutgassing L)))), (k.b + (4 + 17 * i.val + 3), .inl (k.c 0, (8, .inl (LL_decay L)))), (k.b + (4 + 17 * i.val + 4), .inl (k.c 0, (6, .inl (LL_pumpChamber L)))), (k.b + (4 + 17 * i.val + 5), .inl (k.c 0, (6, .inl (LL_exhaust L)))), (k.b + (4 + 17 * i.val + 6), .inl (k.c 0, (6, .inl (LL_speed L)))), (k.b + (4 + 17 * i.val + 7), .inl (k.c 0, (6, .inl (LL_low L)))), (k.b + (4 + 17 * i.val + 8), .inl (k.c 0, (6, .inl (LL_high L)))), (k.b + (4 + 17 * i.val + 9), .inl (k.c 0, (6, .inl (LL_backing L)))), (k.b + (4 + 17 * i.val + 10), .inl (k.c 0, (10, .inl (LL_valveChamber L)))), (k.b + (4 + 17 * i.val + 11), .inl (k.c 0, (10, .inl (LL_otherSide L)))), (k.b + (4 + 17 * i.val + 12), .inl (k.c 0, (10, .inl (LL_conductance L)))), (k.b + (4 + 17 * i.val + 13), .inl (k.c 0, (10, .inl (LL_firstRule L)))), (k.b + (4 + 17 * i.val + 14), .inl (k.c 0, (24, .inl (LL_flangeChamber L)))), (k.b + (4 + 17 * i.val + 15), .inl (k.c 0, (24, .inl (LL_firstLeak L))))]
def fSt (k : KT) (j : Fin 12) (S : SS) : List Value := [.ref (k.b + (4)), .int (SS_time S), .int (SS_openValves S), .int (SS_runningPumps S), .ref (k.b + (45 + 12 * j.val + 1)), .ref (k.b + (45 + 12 * j.val + 2)), .ref (k.b + (45 + 12 * j.val + 3)), .ref (k.b + (45 + 12 * j.val + 4)), .ref (k.b + (45 + 12 * j.val + 5)), .ref (k.b + (45 + 12 * j.val + 6)), .ref (k.b + (45 + 12 * j.val + 7)), .ref (k.b + (45 + 12 * j.val + 8)), .ref (k.b + (45 + 12 * j.val + 9))]
def fTl (k : KT) (j : Fin 12) (S : SS) : List Value := [.int (SS_kept S), .int (SS_next S), .ref (k.b + (45 + 12 * j.val + 10)), .ref (k.b + (45 + 12 * j.val + 11))]
def cSt (k : KT) (j : Fin 12) (S : SS) : va_W := [(k.b + (45 + 12 * j.val), .inr (5, fSt k j S)), (k.b + (45 + 12 * j.val + 1), .inl (k.c 1, (8, .inr (.inl (SS_gas S))))), (k.b + (45 + 12 * j.val + 2), .inl (k.c 0, (9, .inl (SS_pressure S)))), (k.b + (45 + 12 * j.val + 3), .inl (k.c 0, (8, .inl (SS_outgassing S)))), (k.b + (45 + 12 * j.val + 4), .inl (k.c 0, (8, .inl (SS_leakSum S)))), (k.b + (45 + 12 * j.val + 5), .inl (k.c 0, (10, .inl (SS_rule S)))), (k.b + (45 + 12 * j.val + 6), .inl (k.c 0, (10, .inl (SS_valveTrips S)))), (k.b + (45 + 12 * j.val + 7), .inl (k.c 0, (6, .inl (SS_pumpTrips S)))), (k.b + (45 + 12 * j.val + 8), .inl (k.c 0, (24, .inl (SS_leak S)))), (k.b + (45 + 12 * j.val + 9), .inr (7, fTl k j S)), (k.b + (45 + 12 * j.val + 10), .inl (k.c 0, (40, .inl (SS_facts S)))), (k.b + (45 + 12 * j.val + 11), .inl (k.c 1, (20, .inr (.inl (SS_rises S)))))]
def fMain (k : KT) (tp : TP) (ee : EE) : List Value := [.ref (k.b + (1)), .ref (k.b + (3)), .ref (k.b + (4)), .ref (k.b + (20)), .ref (k.b + (37)), .ref (k.b + (38)), .ref (k.b + (42)), .ref (k.b + (44)), .ref (k.b + (45 + 12 * (TP_pr tp).val)), .ref (k.b + (45 + 12 * (TP_tr tp).val)), .int (TP_nextPast tp), .int (TP_undoable tp), .int (EE_code ee), .int (EE_pos ee)]
def fText (k : KT) (T : TT) : List Value := [.ref (k.b + (2)), .int (TT_length T)]
def fReader (k : KT) (R : RR) : List Value := [.ref (k.b + (1)), .int (RR_kind R), .int (RR_start R), .int (RR_end_ R), .int (RR_value R), .int (RR_errorCode R), .int (RR_errorPosition R)]
def fParser (k : KT) : List Value := [.ref (k.b + (3)), .ref (k.b + (21))]
def fRecipe (k : KT) (rc : RC) : List Value := [.ref (k.b + (3)), .ref (k.b + (4)), .int (RC_first rc), .int (RC_second rc)]
def fHunt (k : KT) (hn : HN) : List Value := [.ref (k.b + (39)), .ref (k.b + (40)), .ref (k.b + (41)), .int (HN_groups hn), .int (HN_sprayed hn), .int (HN_foundSet hn)]
def fReport (k : KT) (rp : RP) : List Value := [.ref (k.b + (43)), .int (RP_length rp)]
def wAll (k : KT) (T : TT) (R : RR) (ly : Fin 2 → LL) (rc : RC) (hn : HN) (rp : RP) (tp : TP) (ee : EE) (st : Fin 12 → SS) : va_W := [(k.b + (0), .inr (9, fMain k tp ee)), (k.b + (1), .inr (8, fText k T)), (k.b + (2), .inl (k.c 2, (900, .inl (TT_bytes T)))), (k.b + (3), .inr (2, fReader k R))] ++ (cLay k 0 (ly 0) ++ ([(k.b + (20), .inr (6, fParser k))] ++ (cLay k 1 (ly 1) ++ ([(k.b + (37), .inr (3, fRecipe k rc)), (k.b + (38), .inr (0, fHunt k hn)), (k.b + (39), .inl (k.c 0, (24, .inl (HN_numbers hn)))), (k.b + (40), .inl (k.c 0, (47, .inl (HN_froms hn)))), (k.b + (41), .inl (k.c 0, (47, .inl (HN_sizes hn)))), (k.b + (42), .inr (4, fReport k rp)), (k.b + (43), .inl (k.c 2, (246, .inl (RP_bytes rp)))), (k.b + (44), .inl (k.c 4, (10, .inr (.inr (.inr (.inr (fun i => some (k.b + (45 + 12 * (TP_past tp i).val)))))))))] ++ (cSt k 0 (st 0) ++ (cSt k 1 (st 1) ++ (cSt k 2 (st 2) ++ (cSt k 3 (st 3) ++ (cSt k 4 (st 4) ++ (cSt k 5 (st 5) ++ (cSt k 6 (st 6) ++ (cSt k 7 (st 7) ++ (cSt k 8 (st 8) ++ (cSt k 9 (st 9) ++ (cSt k 10 (st 10) ++ (cSt k 11 (st 11)))))))))))))))))
section WORLD
variable {k : KT} {T : TT} {R : RR} {ly : Fin 2 → LL} {rc : RC} {hn : HN} {rp : RP} {tp : TP} {ee : EE} {st : Fin 12 → SS}
theorem o_main : (wAll k T R ly rc hn rp tp ee st)[0]? = some (k.b + (0), .inr (9, fMain k tp ee)) := rfl
theorem o_text : (wAll k T R ly rc hn rp tp ee st)[1]? = some (k.b + (1), .inr (8, fText k T)) := rfl
theorem a_T_bytes : (wAll k T R ly rc hn rp tp ee st)[2]? = some (k.b + (2), .inl (k.c 2, (900, .inl (TT_bytes T)))) := rfl
theorem o_reader : (wAll k T R ly rc hn rp tp ee st)[3]? = some (k.b + (3), .inr (2, fReader k R)) := rfl
theorem o_parser : (wAll k T R ly rc hn rp tp ee st)[20]? = some (k.b + (20), .inr (6, fParser k)) := rfl
theorem o_recipe : (wAll k T R ly rc hn rp tp ee st)[37]? = some (k.b + (37), .inr (3, fRecipe k rc)) := rfl
theorem o_hunt : (wAll k T R ly rc hn rp tp ee st)[38]? = some (k.b + (38), .inr (0, fHunt k hn)) := rfl
theorem a_hn_numbers : (wAll k T R ly rc hn rp tp ee st)[39]? = some (k.b + (39), .inl (k.c 0, (24, .inl (HN_numbers hn)))) := rfl
theorem a_hn_froms : (wAll k T R ly rc hn rp tp ee st)[40]? = some (k.b + (40), .inl (k.c 0, (47, .inl (HN_froms hn)))) := rfl
theorem a_hn_sizes : (wAll k T R ly rc hn rp tp ee st)[41]? = some (k.b + (41), .inl (k.c 0, (47, .inl (HN_sizes hn)))) := rfl
theorem o_report : (wAll k T R ly rc hn rp tp ee st)[42]? = some (k.b + (42), .inr (4, fReport k rp)) := rfl
theorem a_rp_bytes : (wAll k T R ly rc hn rp tp ee st)[43]? = some (k.b + (43), .inl (k.c 2, (246, .inl (RP_bytes rp)))) := rfl
theorem a_past : (wAll k T R ly rc hn rp tp ee st)[44]? = some (k.b + (44), .inl (k.c 4, (10, .inr (.inr (.inr (.inr (fun i => some (k.b + (45 + 12 * (TP_past tp i).val))))))))) := rfl
theorem o_lay (i : Fin 2) : (wAll k T R ly rc hn rp tp ee st)[4 + 17 * i.val]? = some (k.b + (4 + 17 * i.val), .inr (1, fLay k i (ly i))) := by
  revert i
  exact fin2 rfl rfl
theorem a_lay_volume (i : Fin 2) : (wAll k T R ly rc hn rp tp ee st)[4 + 17 * i.val + 1]? = some (k.b + (4 + 17 * i.val + 1), .inl (k.c 0, (8, .inl (LL_volume (ly i))))) := by
  revert i
  exact fin2 rfl rfl
theorem a_lay_firstOutgassing (i : Fin 2) : (wAll k T R ly rc hn rp tp ee st)[4 + 17 * i.val + 2]? = some (k.b + (4 + 17 * i.val + 2), .inl (k.c 0, (8, .inl (LL_firstOutgassing (ly i))))) := by
  revert i
  exact fin2 rfl rfl
theorem a_lay_decay (i : Fin 2) : (wAll k T R ly rc hn rp tp ee st)[4 + 17 * i.val + 3]? = some (k.b + (4 + 17 * i.val + 3), .inl (k.c 0, (8, .inl (LL_decay (ly i))))) := by
  revert i
  exact fin2 rfl rfl
theorem a_lay_pumpChamber (i : Fin 2) : (wAll k T R ly rc hn rp tp ee st)[4 + 17 * i.val + 4]? = some (k.b + (4 + 17 * i.val + 4), .inl (k.c 0, (6, .inl (LL_pumpChamber (ly i))))) := by
  revert i
  exact fin2 rfl rfl
theorem a_lay_exhaust (i : Fin 2) : (wAll k T R ly rc hn rp tp ee st)[4 + 17 * i.val + 5]? = some (k.b + (4 + 17 * i.val + 5), .inl (k.c 0, (6, .inl (LL_exhaust (ly i))))) := by
  revert i
  exact fin2 rfl rfl
theorem a_lay_speed (i : Fin 2) : (wAll k T R ly rc hn rp tp ee st)[4 + 17 * i.val + 6]? = some (k.b + (4 + 17 * i.val + 6), .inl (k.c 0, (6, .inl (LL_speed (ly i))))) := by
  revert i
  exact fin2 rfl rfl
theorem a_lay_low (i : Fin 2) : (wAll k T R ly rc hn rp tp ee st)[4 + 17 * i.val + 7]? = some (k.b + (4 + 17 * i.val + 7), .inl (k.c 0, (6, .inl (LL_low (ly i))))) := by
  revert i
  exact fin2 rfl rfl
theorem a_lay_high (i : Fin 2) : (wAll k T R ly rc hn rp tp ee st)[4 + 17 * i.val + 8]? = some (k.b + (4 + 17 * i.val + 8), .inl (k.c 0, (6, .inl (LL_high (ly i))))) := by
  revert i
  exact fin2 rfl rfl
theorem a_lay_backing (i : Fin 2) : (wAll k T R ly rc hn rp tp ee st)[4 + 17 * i.val + 9]? = some (k.b + (4 + 17 * i.val + 9), .inl (k.c 0, (6, .inl (LL_backing (ly i))))) := by
  revert i
  exact fin2 rfl rfl
theorem a_lay_valveChamber (i : Fin 2) : (wAll k T R ly rc hn rp tp ee st)[4 + 17 * i.val + 10]? = some (k.b + (4 + 17 * i.val + 10), .inl (k.c 0, (10, .inl (LL_valveChamber (ly i))))) := by
  revert i
  exact fin2 rfl rfl
theorem a_lay_otherSide (i : Fin 2) : (wAll k T R ly rc hn rp tp ee st)[4 + 17 * i.val + 11]? = some (k.b + (4 + 17 * i.val + 11), .inl (k.c 0, (10, .inl (LL_otherSide (ly i))))) := by
  revert i
  exact fin2 rfl rfl
theorem a_lay_conductance (i : Fin 2) : (wAll k T R ly rc hn rp tp ee st)[4 + 17 * i.val + 12]? = some (k.b + (4 + 17 * i.val + 12), .inl (k.c 0, (10, .inl (LL_conductance (ly i))))) := by
  revert i
  exact fin2 rfl rfl
theorem a_lay_firstRule (i : Fin 2) : (wAll k T R ly rc hn rp tp ee st)[4 + 17 * i.val + 13]? = some (k.b + (4 + 17 * i.val + 13), .inl (k.c 0, (10, .inl (LL_firstRule (ly i))))) := by
  revert i
  exact fin2 rfl rfl
theorem a_lay_flangeChamber (i : Fin 2) : (wAll k T R ly rc hn rp tp ee st)[4 + 17 * i.val + 14]? = some (k.b + (4 + 17 * i.val + 14), .inl (k.c 0, (24, .inl (LL_flangeChamber (ly i))))) := by
  revert i
  exact fin2 rfl rfl
theorem a_lay_firstLeak (i : Fin 2) : (wAll k T R ly rc hn rp tp ee st)[4 + 17 * i.val + 15]? = some (k.b + (4 + 17 * i.val + 15), .inl (k.c 0, (24, .inl (LL_firstLeak (ly i))))) := by
  revert i
  exact fin2 rfl rfl
theorem o_st (j : Fin 12) : (wAll k T R ly rc hn rp tp ee st)[45 + 12 * j.val]? = some (k.b + (45 + 12 * j.val), .inr (5, fSt k j (st j))) := by
  revert j
  exact fin12 rfl rfl rfl rfl rfl rfl rfl rfl rfl rfl rfl rfl
theorem o_tl (j : Fin 12) : (wAll k T R ly rc hn rp tp ee st)[45 + 12 * j.val + 9]? = some (k.b + (45 + 12 * j.val + 9), .inr (7, fTl k j (st j))) := by
  revert j
  exact fin12 rfl rfl rfl rfl rfl rfl rfl rfl rfl rfl rfl rfl
theorem a_st_gas (j : Fin 12) : (wAll k T R ly rc hn rp tp ee st)[45 + 12 * j.val + 1]? = some (k.b + (45 + 12 * j.val + 1), .inl (k.c 1, (8, .inr (.inl (SS_gas (st j)))))) := by
  revert j
  exact fin12 rfl rfl rfl rfl rfl rfl rfl rfl rfl rfl rfl rfl
theorem a_st_pressure (j : Fin 12) : (wAll k T R ly rc hn rp tp ee st)[45 + 12 * j.val + 2]? = some (k.b + (45 + 12 * j.val + 2), .inl (k.c 0, (9, .inl (SS_pressure (st j))))) := by
  revert j
  exact fin12 rfl rfl rfl rfl rfl rfl rfl rfl rfl rfl rfl rfl
theorem a_st_outgassing (j : Fin 12) : (wAll k T R ly rc hn rp tp ee st)[45 + 12 * j.val + 3]? = some (k.b + (45 + 12 * j.val + 3), .inl (k.c 0, (8, .inl (SS_outgassing (st j))))) := by
  revert j
  exact fin12 rfl rfl rfl rfl rfl rfl rfl rfl rfl rfl rfl rfl
theorem a_st_leakSum (j : Fin 12) : (wAll k T R ly rc hn rp tp ee st)[45 + 12 * j.val + 4]? = some (k.b + (45 + 12 * j.val + 4), .inl (k.c 0, (8, .inl (SS_leakSum (st j))))) := by
  revert j
  exact fin12 rfl rfl rfl rfl rfl rfl rfl rfl rfl rfl rfl rfl
theorem a_st_rule (j : Fin 12) : (wAll k T R ly rc hn rp tp ee st)[45 + 12 * j.val + 5]? = some (k.b + (45 + 12 * j.val + 5), .inl (k.c 0, (10, .inl (SS_rule (st j))))) := by
  revert j
  exact fin12 rfl rfl rfl rfl rfl rfl rfl rfl rfl rfl rfl rfl
theorem a_st_valveTrips (j : Fin 12) : (wAll k T R ly rc hn rp tp ee st)[45 + 12 * j.val + 6]? = some (k.b + (45 + 12 * j.val + 6), .inl (k.c 0, (10, .inl (SS_valveTrips (st j))))) := by
  revert j
  exact fin12 rfl rfl rfl rfl rfl rfl rfl rfl rfl rfl rfl rfl
theorem a_st_pumpTrips (j : Fin 12) : (wAll k T R ly rc hn rp tp ee st)[45 + 12 * j.val + 7]? = some (k.b + (45 + 12 * j.val + 7), .inl (k.c 0, (6, .inl (SS_pumpTrips (st j))))) := by
  revert j
  exact fin12 rfl rfl rfl rfl rfl rfl rfl rfl rfl rfl rfl rfl
theorem a_st_leak (j : Fin 12) : (wAll k T R ly rc hn rp tp ee st)[45 + 12 * j.val + 8]? = some (k.b + (45 + 12 * j.val + 8), .inl (k.c 0, (24, .inl (SS_leak (st j))))) := by
  revert j
  exact fin12 rfl rfl rfl rfl rfl rfl rfl rfl rfl rfl rfl rfl
theorem a_st_facts (j : Fin 12) : (wAll k T R ly rc hn rp tp ee st)[45 + 12 * j.val + 10]? = some (k.b + (45 + 12 * j.val + 10), .inl (k.c 0, (40, .inl (SS_facts (st j))))) := by
  revert j
  exact fin12 rfl rfl rfl rfl rfl rfl rfl rfl rfl rfl rfl rfl
theorem a_st_rises (j : Fin 12) : (wAll k T R ly rc hn rp tp ee st)[45 + 12 * j.val + 11]? = some (k.b + (45 + 12 * j.val + 11), .inl (k.c 1, (20, .inr (.inl (SS_rises (st j)))))) := by
  revert j
  exact fin12 rfl rfl rfl rfl rfl rfl rfl rfl rfl rfl rfl rfl
theorem o_st1 (j : Fin 12) (S : SS) : (wAll k T R ly rc hn rp tp ee (updF st j S))[45 + 12 * j.val]? = some (k.b + (45 + 12 * j.val), .inr (5, fSt k j S)) := by
  have h := o_st (k := k) (st := updF st j S) j (T := T) (R := R) (ly := ly) (rc := rc) (hn := hn) (rp := rp) (tp := tp) (ee := ee)
  rw [updF_same] at h
  exact h
theorem o_tl1 (j : Fin 12) (S : SS) : (wAll k T R ly rc hn rp tp ee (updF st j S))[45 + 12 * j.val + 9]? = some (k.b + (45 + 12 * j.val + 9), .inr (7, fTl k j S)) := by
  have h := o_tl (k := k) (st := updF st j S) j (T := T) (R := R) (ly := ly) (rc := rc) (hn := hn) (rp := rp) (tp := tp) (ee := ee)
  rw [updF_same] at h
  exact h
theorem a_st1_gas (j : Fin 12) (S : SS) : (wAll k T R ly rc hn rp tp ee (updF st j S))[45 + 12 * j.val + 1]? = some (k.b + (45 + 12 * j.val + 1), .inl (k.c 1, (8, .inr (.inl (SS_gas S))))) := by
  have h := a_st_gas (k := k) (st := updF st j S) j (T := T) (R := R) (ly := ly) (rc := rc) (hn := hn) (rp := rp) (tp := tp) (ee := ee)
  rw [updF_same] at h
  exact h
theorem a_st1_pressure (j : Fin 12) (S : SS) : (wAll k T R ly rc hn rp tp ee (updF st j S))[45 + 12 * j.val + 2]? = some (k.b + (45 + 12 * j.val + 2), .inl (k.c 0, (9, .inl (SS_pressure S)))) := by
  have h := a_st_pressure (k := k) (st := updF st j S) j (T := T) (R := R) (ly := ly) (rc := rc) (hn := hn) (rp := rp) (tp := tp) (ee := ee)
  rw [updF_same] at h
  exact h
theorem a_st1_outgassing (j : Fin 12) (S : SS) : (wAll k T R ly rc hn rp tp ee (updF st j S))[45 + 12 * j.val + 3]? = some (k.b + (45 + 12 * j.val + 3), .inl (k.c 0, (8, .inl (SS_outgassing S)))) := by
  have h := a_st_outgassing (k := k) (st := updF st j S) j (T := T) (R := R) (ly := ly) (rc := rc) (hn := hn) (rp := rp) (tp := tp) (ee := ee)
  rw [updF_same] at h
  exact h
theorem a_st1_leakSum (j : Fin 12) (S : SS) : (wAll k T R ly rc hn rp tp ee (updF st j S))[45 + 12 * j.val + 4]? = some (k.b + (45 + 12 * j.val + 4), .inl (k.c 0, (8, .inl (SS_leakSum S)))) := by
  have h := a_st_leakSum (k := k) (st := updF st j S) j (T := T) (R := R) (ly := ly) (rc := rc) (hn := hn) (rp := rp) (tp := tp) (ee := ee)
  rw [updF_same] at h
  exact h
theorem a_st1_rule (j : Fin 12) (S : SS) : (wAll k T R ly rc hn rp tp ee (updF st j S))[45 + 12 * j.val + 5]? = some (k.b + (45 + 12 * j.val + 5), .inl (k.c 0, (10, .inl (SS_rule S)))) := by
  have h := a_st_rule (k := k) (st := updF st j S) j (T := T) (R := R) (ly := ly) (rc := rc) (hn := hn) (rp := rp) (tp := tp) (ee := ee)
  rw [updF_same] at h
  exact h
theorem a_st1_valveTrips (j : Fin 12) (S : SS) : (wAll k T R ly rc hn rp tp ee (updF st j S))[45 + 12 * j.val + 6]? = some (k.b + (45 + 12 * j.val + 6), .inl (k.c 0, (10, .inl (SS_valveTrips S)))) := by
  have h := a_st_valveTrips (k := k) (st := updF st j S) j (T := T) (R := R) (ly := ly) (rc := rc) (hn := hn) (rp := rp) (tp := tp) (ee := ee)
  rw [updF_same] at h
  exact h
theorem a_st1_pumpTrips (j : Fin 12) (S : SS) : (wAll k T R ly rc hn rp tp ee (updF st j S))[45 + 12 * j.val + 7]? = some (k.b + (45 + 12 * j.val + 7), .inl (k.c 0, (6, .inl (SS_pumpTrips S)))) := by
  have h := a_st_pumpTrips (k := k) (st := updF st j S) j (T := T) (R := R) (ly := ly) (rc := rc) (hn := hn) (rp := rp) (tp := tp) (ee := ee)
  rw [updF_same] at h
  exact h
theorem a_st1_leak (j : Fin 12) (S : SS) : (wAll k T R ly rc hn rp tp ee (updF st j S))[45 + 12 * j.val + 8]? = some (k.b + (45 + 12 * j.val + 8), .inl (k.c 0, (24, .inl (SS_leak S)))) := by
  have h := a_st_leak (k := k) (st := updF st j S) j (T := T) (R := R) (ly := ly) (rc := rc) (hn := hn) (rp := rp) (tp := tp) (ee := ee)
  rw [updF_same] at h
  exact h
theorem a_st1_facts (j : Fin 12) (S : SS) : (wAll k T R ly rc hn rp tp ee (updF st j S))[45 + 12 * j.val + 10]? = some (k.b + (45 + 12 * j.val + 10), .inl (k.c 0, (40, .inl (SS_facts S)))) := by
  have h := a_st_facts (k := k) (st := updF st j S) j (T := T) (R := R) (ly := ly) (rc := rc) (hn := hn) (rp := rp) (tp := tp) (ee := ee)
  rw [updF_same] at h
  exact h
theorem a_st1_rises (j : Fin 12) (S : SS) : (wAll k T R ly rc hn rp tp ee (updF st j S))[45 + 12 * j.val + 11]? = some (k.b + (45 + 12 * j.val + 11), .inl (k.c 1, (20, .inr (.inl (SS_rises S))))) := by
  have h := a_st_rises (k := k) (st := updF st j S) j (T := T) (R := R) (ly := ly) (rc := rc) (hn := hn) (rp := rp) (tp := tp) (ee := ee)
  rw [updF_same] at h
  exact h
theorem o_lay1 (i : Fin 2) (L : LL) : (wAll k T R (updF ly i L) rc hn rp tp ee st)[4 + 17 * i.val]? = some (k.b + (4 + 17 * i.val), .inr (1, fLay k i L)) := by
  have h := o_lay (k := k) (ly := updF ly i L) i (T := T) (R := R) (rc := rc) (hn := hn) (rp := rp) (tp := tp) (ee := ee) (st := st)
  rw [updF_same] at h
  exact h
theorem a_lay1_volume (i : Fin 2) (L : LL) : (wAll k T R (updF ly i L) rc hn rp tp ee st)[4 + 17 * i.val + 1]? = some (k.b + (4 + 17 * i.val + 1), .inl (k.c 0, (8, .inl (LL_volume L)))) := by
  have h := a_lay_volume (k := k) (ly := updF ly i L) i (T := T) (R := R) (rc := rc) (hn := hn) (rp := rp) (tp := tp) (ee := ee) (st := st)
  rw [updF_same] at h
  exact h
theorem a_lay1_firstOutgassing (i : Fin 2) (L : LL) : (wAll k T R (updF ly i L) rc hn rp tp ee st)[4 + 17 * i.val + 2]? = some (k.b + (4 + 17 * i.val + 2), .inl (k.c 0, (8, .inl (LL_firstOutgassing L)))) := by
  have h := a_lay_firstOutgassing (k := k) (ly := updF ly i L) i (T := T) (R := R) (rc := rc) (hn := hn) (rp := rp) (tp := tp) (ee := ee) (st := st)
  rw [updF_same] at h
  exact h
theorem a_lay1_decay (i : Fin 2) (L : LL) : (wAll k T R (updF ly i L) rc hn rp tp ee st)[4 + 17 * i.val + 3]? = some (k.b + (4 + 17 * i.val + 3), .inl (k.c 0, (8, .inl (LL_decay L)))) := by
  have h := a_lay_decay (k := k) (ly := updF ly i L) i (T := T) (R := R) (rc := rc) (hn := hn) (rp := rp) (tp := tp) (ee := ee) (st := st)
  rw [updF_same] at h
  exact h
theorem a_lay1_pumpChamber (i : Fin 2) (L : LL) : (wAll k T R (updF ly i L) rc hn rp tp ee st)[4 + 17 * i.val + 4]? = some (k.b + (4 + 17 * i.val + 4), .inl (k.c 0, (6, .inl (LL_pumpChamber L)))) := by
  have h := a_lay_pumpChamber (k := k) (ly := updF ly i L) i (T := T) (R := R) (rc := rc) (hn := hn) (rp := rp) (tp := tp) (ee := ee) (st := st)
  rw [updF_same] at h
  exact h
theorem a_lay1_exhaust (i : Fin 2) (L : LL) : (wAll k T R (updF ly i L) rc hn rp tp ee st)[4 + 17 * i.val + 5]? = some (k.b + (4 + 17 * i.val + 5), .inl (k.c 0, (6, .inl (LL_exhaust L)))) := by
  have h := a_lay_exhaust (k := k) (ly := updF ly i L) i (T := T) (R := R) (rc := rc) (hn := hn) (rp := rp) (tp := tp) (ee := ee) (st := st)
  rw [updF_same] at h
  exact h
theorem a_lay1_speed (i : Fin 2) (L : LL) : (wAll k T R (updF ly i L) rc hn rp tp ee st)[4 + 17 * i.val + 6]? = some (k.b + (4 + 17 * i.val + 6), .inl (k.c 0, (6, .inl (LL_speed L)))) := by
  have h := a_lay_speed (k := k) (ly := updF ly i L) i (T := T) (R := R) (rc := rc) (hn := hn) (rp := rp) (tp := tp) (ee := ee) (st := st)
  rw [updF_same] at h
  exact h
theorem a_lay1_low (i : Fin 2) (L : LL) : (wAll k T R (updF ly i L) rc hn rp tp ee st)[4 + 17 * i.val + 7]? = some (k.b + (4 + 17 * i.val + 7), .inl (k.c 0, (6, .inl (LL_low L)))) := by
  have h := a_lay_low (k := k) (ly := updF ly i L) i (T := T) (R := R) (rc := rc) (hn := hn) (rp := rp) (tp := tp) (ee := ee) (st := st)
  rw [updF_same] at h
  exact h
theorem a_lay1_high (i : Fin 2) (L : LL) : (wAll k T R (updF ly i L) rc hn rp tp ee st)[4 + 17 * i.val + 8]? = some (k.b + (4 + 17 * i.val + 8), .inl (k.c 0, (6, .inl (LL_high L)))) := by
  have h := a_lay_high (k := k) (ly := updF ly i L) i (T := T) (R := R) (rc := rc) (hn := hn) (rp := rp) (tp := tp) (ee := ee) (st := st)
  rw [updF_same] at h
  exact h
theorem a_lay1_backing (i : Fin 2) (L : LL) : (wAll k T R (updF ly i L) rc hn rp tp ee st)[4 + 17 * i.val + 9]? = some (k.b + (4 + 17 * i.val + 9), .inl (k.c 0, (6, .inl (LL_backing L)))) := by
  have h := a_lay_backing (k := k) (ly := updF ly i L) i (T := T) (R := R) (rc := rc) (hn := hn) (rp := rp) (tp := tp) (ee := ee) (st := st)
  rw [updF_same] at h
  exact h
theorem a_lay1_valveChamber (i : Fin 2) (L : LL) : (wAll k T R (updF ly i L) rc hn rp tp ee st)[4 + 17 * i.val + 10]? = some (k.b + (4 + 17 * i.val + 10), .inl (k.c 0, (10, .inl (LL_valveChamber L)))) := by
  have h := a_lay_valveChamber (k := k) (ly := updF ly i L) i (T := T) (R := R) (rc := rc) (hn := hn) (rp := rp) (tp := tp) (ee := ee) (st := st)
  rw [updF_same] at h
  exact h
theorem a_lay1_otherSide (i : Fin 2) (L : LL) : (wAll k T R (updF ly i L) rc hn rp tp ee st)[4 + 17 * i.val + 11]? = some (k.b + (4 + 17 * i.val + 11), .inl (k.c 0, (10, .inl (LL_otherSide L)))) := by
  have h := a_lay_otherSide (k := k) (ly := updF ly i L) i (T := T) (R := R) (rc := rc) (hn := hn) (rp := rp) (tp := tp) (ee := ee) (st := st)
  rw [updF_same] at h
  exact h
theorem a_lay1_conductance (i : Fin 2) (L : LL) : (wAll k T R (updF ly i L) rc hn rp tp ee st)[4 + 17 * i.val + 12]? = some (k.b + (4 + 17 * i.val + 12), .inl (k.c 0, (10, .inl (LL_conductance L)))) := by
  have h := a_lay_conductance (k := k) (ly := updF ly i L) i (T := T) (R := R) (rc := rc) (hn := hn) (rp := rp) (tp := tp) (ee := ee) (st := st)
  rw [updF_same] at h
  exact h
theorem a_lay1_firstRule (i : Fin 2) (L : LL) : (wAll k T R (updF ly i L) rc hn rp tp ee st)[4 + 17 * i.val + 13]? = some (k.b + (4 + 17 * i.val + 13), .inl (k.c 0, (10, .inl (LL_firstRule L)))) := by
  have h := a_lay_firstRule (k := k) (ly := updF ly i L) i (T := T) (R := R) (rc := rc) (hn := hn) (rp := rp) (tp := tp) (ee := ee) (st := st)
  rw [updF_same] at h
  exact h
theorem a_lay1_flangeChamber (i : Fin 2) (L : LL) : (wAll k T R (updF ly i L) rc hn rp tp ee st)[4 + 17 * i.val + 14]? = some (k.b + (4 + 17 * i.val + 14), .inl (k.c 0, (24, .inl (LL_flangeChamber L)))) := by
  have h := a_lay_flangeChamber (k := k) (ly := updF ly i L) i (T := T) (R := R) (rc := rc) (hn := hn) (rp := rp) (tp := tp) (ee := ee) (st := st)
  rw [updF_same] at h
  exact h
theorem a_lay1_firstLeak (i : Fin 2) (L : LL) : (wAll k T R (updF ly i L) rc hn rp tp ee st)[4 + 17 * i.val + 15]? = some (k.b + (4 + 17 * i.val + 15), .inl (k.c 0, (24, .inl (LL_firstLeak L)))) := by
  have h := a_lay_firstLeak (k := k) (ly := updF ly i L) i (T := T) (R := R) (rc := rc) (hn := hn) (rp := rp) (tp := tp) (ee := ee) (st := st)
  rw [updF_same] at h
  exact h
set_option maxRecDepth 100000 in
theorem s_tp_nextPast (v : Int32) : (wAll k T R ly rc hn rp tp ee st).set (0) (k.b + (0), .inr (9, (fMain k tp ee).set 10 (.int v))) = wAll k T R ly rc hn rp (TP_set_nextPast tp v) ee st := rfl
set_option maxRecDepth 100000 in
theorem s_tp_undoable (v : Int32) : (wAll k T R ly rc hn rp tp ee st).set (0) (k.b + (0), .inr (9, (fMain k tp ee).set 11 (.int v))) = wAll k T R ly rc hn rp (TP_set_undoable tp v) ee st := rfl
set_option maxRecDepth 100000 in
theorem s_tp_pr (v : Fin 12) : (wAll k T R ly rc hn rp tp ee st).set (0) (k.b + (0), .inr (9, (fMain k tp ee).set 8 (.ref (k.b + (45 + 12 * v.val))))) = wAll k T R ly rc hn rp (TP_set_pr tp v) ee st := rfl
set_option maxRecDepth 100000 in
theorem s_tp_tr (v : Fin 12) : (wAll k T R ly rc hn rp tp ee st).set (0) (k.b + (0), .inr (9, (fMain k tp ee).set 9 (.ref (k.b + (45 + 12 * v.val))))) = wAll k T R ly rc hn rp (TP_set_tr tp v) ee st := rfl
set_option maxRecDepth 100000 in
theorem s_ee_code (v : Int32) : (wAll k T R ly rc hn rp tp ee st).set (0) (k.b + (0), .inr (9, (fMain k tp ee).set 12 (.int v))) = wAll k T R ly rc hn rp tp (EE_set_code ee v) st := rfl
set_option maxRecDepth 100000 in
theorem s_ee_pos (v : Int32) : (wAll k T R ly rc hn rp tp ee st).set (0) (k.b + (0), .inr (9, (fMain k tp ee).set 13 (.int v))) = wAll k T R ly rc hn rp tp (EE_set_pos ee v) st := rfl
set_option maxRecDepth 100000 in
theorem s_T_length (v : Int32) : (wAll k T R ly rc hn rp tp ee st).set (1) (k.b + (1), .inr (8, (fText k T).set 1 (.int v))) = wAll k (TT_set_length T v) R ly rc hn rp tp ee st := rfl
set_option maxRecDepth 100000 in
theorem s_R_kind (v : Int32) : (wAll k T R ly rc hn rp tp ee st).set (3) (k.b + (3), .inr (2, (fReader k R).set 1 (.int v))) = wAll k T (RR_set_kind R v) ly rc hn rp tp ee st := rfl
set_option maxRecDepth 100000 in
theorem s_R_start (v : Int32) : (wAll k T R ly rc hn rp tp ee st).set (3) (k.b + (3), .inr (2, (fReader k R).set 2 (.int v))) = wAll k T (RR_set_start R v) ly rc hn rp tp ee st := rfl
set_option maxRecDepth 100000 in
theorem s_R_end_ (v : Int32) : (wAll k T R ly rc hn rp tp ee st).set (3) (k.b + (3), .inr (2, (fReader k R).set 3 (.int v))) = wAll k T (RR_set_end_ R v) ly rc hn rp tp ee st := rfl
set_option maxRecDepth 100000 in
theorem s_R_value (v : Int32) : (wAll k T R ly rc hn rp tp ee st).set (3) (k.b + (3), .inr (2, (fReader k R).set 4 (.int v))) = wAll k T (RR_set_value R v) ly rc hn rp tp ee st := rfl
set_option maxRecDepth 100000 in
theorem s_R_errorCode (v : Int32) : (wAll k T R ly rc hn rp tp ee st).set (3) (k.b + (3), .inr (2, (fReader k R).set 5 (.int v))) = wAll k T (RR_set_errorCode R v) ly rc hn rp tp ee st := rfl
set_option maxRecDepth 100000 in
theorem s_R_errorPosition (v : Int32) : (wAll k T R ly rc hn rp tp ee st).set (3) (k.b + (3), .inr (2, (fReader k R).set 6 (.int v))) = wAll k T (RR_set_errorPosition R v) ly rc hn rp tp ee st := rfl
set_option maxRecDepth 100000 in
theorem s_rc_first (v : Int32) : (wAll k T R ly rc hn rp tp ee st).set (37) (k.b + (37), .inr (3, (fRecipe k rc).set 2 (.int v))) = wAll k T R ly (RC_set_first rc v) hn rp tp ee st := rfl
set_option maxRecDepth 100000 in
theorem s_rc_second (v : Int32) : (wAll k T R ly rc hn rp tp ee st).set (37) (k.b + (37), .inr (3, (fRecipe k rc).set 3 (.int v))) = wAll k T R ly (RC_set_second rc v) hn rp tp ee st := rfl
set_option maxRecDepth 100000 in
theorem s_hn_groups (v : Int32) : (wAll k T R ly rc hn rp tp ee st).set (38) (k.b + (38), .inr (0, (fHunt k hn).set 3 (.int v))) = wAll k T R ly rc (HN_set_groups hn v) rp tp ee st := rfl
set_option maxRecDepth 100000 in
theorem s_hn_sprayed (v : Int32) : (wAll k T R ly rc hn rp tp ee st).set (38) (k.b + (38), .inr (0, (fHunt k hn).set 4 (.int v))) = wAll k T R ly rc (HN_set_sprayed hn v) rp tp ee st := rfl
set_option maxRecDepth 100000 in
theorem s_hn_foundSet (v : Int32) : (wAll k T R ly rc hn rp tp ee st).set (38) (k.b + (38), .inr (0, (fHunt k hn).set 5 (.int v))) = wAll k T R ly rc (HN_set_foundSet hn v) rp tp ee st := rfl
set_option maxRecDepth 100000 in
theorem s_rp_length (v : Int32) : (wAll k T R ly rc hn rp tp ee st).set (42) (k.b + (42), .inr (4, (fReport k rp).set 1 (.int v))) = wAll k T R ly rc hn (RP_set_length rp v) tp ee st := rfl
set_option maxRecDepth 100000 in
theorem s_T_bytes (v : Nat → Int32) : (wAll k T R ly rc hn rp tp ee st).set (2) (k.b + (2), .inl (k.c 2, (900, .inl (v)))) = wAll k (TT_set_bytes T v) R ly rc hn rp tp ee st := rfl
set_option maxRecDepth 100000 in
theorem s_hn_numbers (v : Nat → Int32) : (wAll k T R ly rc hn rp tp ee st).set (39) (k.b + (39), .inl (k.c 0, (24, .inl (v)))) = wAll k T R ly rc (HN_set_numbers hn v) rp tp ee st := rfl
set_option maxRecDepth 100000 in
theorem s_hn_froms (v : Nat → Int32) : (wAll k T R ly rc hn rp tp ee st).set (40) (k.b + (40), .inl (k.c 0, (47, .inl (v)))) = wAll k T R ly rc (HN_set_froms hn v) rp tp ee st := rfl
set_option maxRecDepth 100000 in
theorem s_hn_sizes (v : Nat → Int32) : (wAll k T R ly rc hn rp tp ee st).set (41) (k.b + (41), .inl (k.c 0, (47, .inl (v)))) = wAll k T R ly rc (HN_set_sizes hn v) rp tp ee st := rfl
set_option maxRecDepth 100000 in
theorem s_rp_bytes (v : Nat → Int32) : (wAll k T R ly rc hn rp tp ee st).set (43) (k.b + (43), .inl (k.c 2, (246, .inl (v)))) = wAll k T R ly rc hn (RP_set_bytes rp v) tp ee st := rfl
set_option maxRecDepth 100000 in
theorem s_past (v : Nat → Fin 12) : (wAll k T R ly rc hn rp tp ee st).set (44) (k.b + (44), .inl (k.c 4, (10, .inr (.inr (.inr (.inr (fun i => some (k.b + (45 + 12 * (v i).val))))))))) = wAll k T R ly rc hn rp (TP_set_past tp v) ee st := rfl
set_option maxRecDepth 100000 in
theorem s_st_time (j : Fin 12) (S : SS) (v : Int32) : (wAll k T R ly rc hn rp tp ee (updF st j S)).set (45 + 12 * j.val) (k.b + (45 + 12 * j.val), .inr (5, (fSt k j S).set 1 (.int v))) = wAll k T R ly rc hn rp tp ee (updF st j (SS_set_time S v)) := by
  revert j
  exact fin12 rfl rfl rfl rfl rfl rfl rfl rfl rfl rfl rfl rfl
set_option maxRecDepth 100000 in
theorem s_st_openValves (j : Fin 12) (S : SS) (v : Int32) : (wAll k T R ly rc hn rp tp ee (updF st j S)).set (45 + 12 * j.val) (k.b + (45 + 12 * j.val), .inr (5, (fSt k j S).set 2 (.int v))) = wAll k T R ly rc hn rp tp ee (updF st j (SS_set_openValves S v)) := by
  revert j
  exact fin12 rfl rfl rfl rfl rfl rfl rfl rfl rfl rfl rfl rfl
set_option maxRecDepth 100000 in
theorem s_st_runningPumps (j : Fin 12) (S : SS) (v : Int32) : (wAll k T R ly rc hn rp tp ee (updF st j S)).set (45 + 12 * j.val) (k.b + (45 + 12 * j.val), .inr (5, (fSt k j S).set 3 (.int v))) = wAll k T R ly rc hn rp tp ee (updF st j (SS_set_runningPumps S v)) := by
  revert j
  exact fin12 rfl rfl rfl rfl rfl rfl rfl rfl rfl rfl rfl rfl
set_option maxRecDepth 100000 in
theorem s_st_kept (j : Fin 12) (S : SS) (v : Int32) : (wAll k T R ly rc hn rp tp ee (updF st j S)).set (45 + 12 * j.val + 9) (k.b + (45 + 12 * j.val + 9), .inr (7, (fTl k j S).set 0 (.int v))) = wAll k T R ly rc hn rp tp ee (updF st j (SS_set_kept S v)) := by
  revert j
  exact fin12 rfl rfl rfl rfl rfl rfl rfl rfl rfl rfl rfl rfl
set_option maxRecDepth 100000 in
theorem s_st_next (j : Fin 12) (S : SS) (v : Int32) : (wAll k T R ly rc hn rp tp ee (updF st j S)).set (45 + 12 * j.val + 9) (k.b + (45 + 12 * j.val + 9), .inr (7, (fTl k j S).set 1 (.int v))) = wAll k T R ly rc hn rp tp ee (updF st j (SS_set_next S v)) := by
  revert j
  exact fin12 rfl rfl rfl rfl rfl rfl rfl rfl rfl rfl rfl rfl
set_option maxRecDepth 100000 in
theorem s_st_gas (j : Fin 12) (S : SS) (v : Nat → Int64) : (wAll k T R ly rc hn rp tp ee (updF st j S)).set (45 + 12 * j.val + 1) (k.b + (45 + 12 * j.val + 1), .inl (k.c 1, (8, .inr (.inl (v))))) = wAll k T R ly rc hn rp tp ee (updF st j (SS_set_gas S v)) := by
  revert j
  exact fin12 rfl rfl rfl rfl rfl rfl rfl rfl rfl rfl rfl rfl
set_option maxRecDepth 100000 in
theorem s_st_pressure (j : Fin 12) (S : SS) (v : Nat → Int32) : (wAll k T R ly rc hn rp tp ee (updF st j S)).set (45 + 12 * j.val + 2) (k.b + (45 + 12 * j.val + 2), .inl (k.c 0, (9, .inl (v)))) = wAll k T R ly rc hn rp tp ee (updF st j (SS_set_pressure S v)) := by
  revert j
  exact fin12 rfl rfl rfl rfl rfl rfl rfl rfl rfl rfl rfl rfl
set_option maxRecDepth 100000 in
theorem s_st_outgassing (j : Fin 12) (S : SS) (v : Nat → Int32) : (wAll k T R ly rc hn rp tp ee (updF st j S)).set (45 + 12 * j.val + 3) (k.b + (45 + 12 * j.val + 3), .inl (k.c 0, (8, .inl (v)))) = wAll k T R ly rc hn rp tp ee (updF st j (SS_set_outgassing S v)) := by
  revert j
  exact fin12 rfl rfl rfl rfl rfl rfl rfl rfl rfl rfl rfl rfl
set_option maxRecDepth 100000 in
theorem s_st_leakSum (j : Fin 12) (S : SS) (v : Nat → Int32) : (wAll k T R ly rc hn rp tp ee (updF st j S)).set (45 + 12 * j.val + 4) (k.b + (45 + 12 * j.val + 4), .inl (k.c 0, (8, .inl (v)))) = wAll k T R ly rc hn rp tp ee (updF st j (SS_set_leakSum S v)) := by
  revert j
  exact fin12 rfl rfl rfl rfl rfl rfl rfl rfl rfl rfl rfl rfl
set_option maxRecDepth 100000 in
theorem s_st_rule (j : Fin 12) (S : SS) (v : Nat → Int32) : (wAll k T R ly rc hn rp tp ee (updF st j S)).set (45 + 12 * j.val + 5) (k.b + (45 + 12 * j.val + 5), .inl (k.c 0, (10, .inl (v)))) = wAll k T R ly rc hn rp tp ee (updF st j (SS_set_rule S v)) := by
  revert j
  exact fin12 rfl rfl rfl rfl rfl rfl rfl rfl rfl rfl rfl rfl
set_option maxRecDepth 100000 in
theorem s_st_valveTrips (j : Fin 12) (S : SS) (v : Nat → Int32) : (wAll k T R ly rc hn rp tp ee (updF st j S)).set (45 + 12 * j.val + 6) (k.b + (45 + 12 * j.val + 6), .inl (k.c 0, (10, .inl (v)))) = wAll k T R ly rc hn rp tp ee (updF st j (SS_set_valveTrips S v)) := by
  revert j
  exact fin12 rfl rfl rfl rfl rfl rfl rfl rfl rfl rfl rfl rfl
set_option maxRecDepth 100000 in
theorem s_st_pumpTrips (j : Fin 12) (S : SS) (v : Nat → Int32) : (wAll k T R ly rc hn rp tp ee (updF st j S)).set (45 + 12 * j.val + 7) (k.b + (45 + 12 * j.val + 7), .inl (k.c 0, (6, .inl (v)))) = wAll k T R ly rc hn rp tp ee (updF st j (SS_set_pumpTrips S v)) := by
  revert j
  exact fin12 rfl rfl rfl rfl rfl rfl rfl rfl rfl rfl rfl rfl
set_option maxRecDepth 100000 in
theorem s_st_leak (j : Fin 12) (S : SS) (v : Nat → Int32) : (wAll k T R ly rc hn rp tp ee (updF st j S)).set (45 + 12 * j.val + 8) (k.b + (45 + 12 * j.val + 8), .inl (k.c 0, (24, .inl (v)))) = wAll k T R ly rc hn rp tp ee (updF st j (SS_set_leak S v)) := by
  revert j
  exact fin12 rfl rfl rfl rfl rfl rfl rfl rfl rfl rfl rfl rfl
set_option maxRecDepth 100000 in
theorem s_st_facts (j : Fin 12) (S : SS) (v : Nat → Int32) : (wAll k T R ly rc hn rp tp ee (updF st j S)).set (45 + 12 * j.val + 10) (k.b + (45 + 12 * j.val + 10), .inl (k.c 0, (40, .inl (v)))) = wAll k T R ly rc hn rp tp ee (updF st j (SS_set_facts S v)) := by
  revert j
  exact fin12 rfl rfl rfl rfl rfl rfl rfl rfl rfl rfl rfl rfl
set_option maxRecDepth 100000 in
theorem s_st_rises (j : Fin 12) (S : SS) (v : Nat → Int64) : (wAll k T R ly rc hn rp tp ee (updF st j S)).set (45 + 12 * j.val + 11) (k.b + (45 + 12 * j.val + 11), .inl (k.c 1, (20, .inr (.inl (v))))) = wAll k T R ly rc hn rp tp ee (updF st j (SS_set_rises S v)) := by
  revert j
  exact fin12 rfl rfl rfl rfl rfl rfl rfl rfl rfl rfl rfl rfl
set_option maxRecDepth 100000 in
theorem s_lay_chambers (i : Fin 2) (L : LL) (v : Int32) : (wAll k T R (updF ly i L) rc hn rp tp ee st).set (4 + 17 * i.val) (k.b + (4 + 17 * i.val), .inr (1, (fLay k i L).set 0 (.int v))) = wAll k T R (updF ly i (LL_set_chambers L v)) rc hn rp tp ee st := by
  revert i
  exact fin2 rfl rfl
set_option maxRecDepth 100000 in
theorem s_lay_pumps (i : Fin 2) (L : LL) (v : Int32) : (wAll k T R (updF ly i L) rc hn rp tp ee st).set (4 + 17 * i.val) (k.b + (4 + 17 * i.val), .inr (1, (fLay k i L).set 1 (.int v))) = wAll k T R (updF ly i (LL_set_pumps L v)) rc hn rp tp ee st := by
  revert i
  exact fin2 rfl rfl
set_option maxRecDepth 100000 in
theorem s_lay_valves (i : Fin 2) (L : LL) (v : Int32) : (wAll k T R (updF ly i L) rc hn rp tp ee st).set (4 + 17 * i.val) (k.b + (4 + 17 * i.val), .inr (1, (fLay k i L).set 2 (.int v))) = wAll k T R (updF ly i (LL_set_valves L v)) rc hn rp tp ee st := by
  revert i
  exact fin2 rfl rfl
set_option maxRecDepth 100000 in
theorem s_lay_flanges (i : Fin 2) (L : LL) (v : Int32) : (wAll k T R (updF ly i L) rc hn rp tp ee st).set (4 + 17 * i.val) (k.b + (4 + 17 * i.val), .inr (1, (fLay k i L).set 3 (.int v))) = wAll k T R (updF ly i (LL_set_flanges L v)) rc hn rp tp ee st := by
  revert i
  exact fin2 rfl rfl
set_option maxRecDepth 100000 in
theorem s_lay_volume (i : Fin 2) (L : LL) (v : Nat → Int32) : (wAll k T R (updF ly i L) rc hn rp tp ee st).set (4 + 17 * i.val + 1) (k.b + (4 + 17 * i.val + 1), .inl (k.c 0, (8, .inl (v)))) = wAll k T R (updF ly i (LL_set_volume L v)) rc hn rp tp ee st := by
  revert i
  exact fin2 rfl rfl
set_option maxRecDepth 100000 in
theorem s_lay_firstOutgassing (i : Fin 2) (L : LL) (v : Nat → Int32) : (wAll k T R (updF ly i L) rc hn rp tp ee st).set (4 + 17 * i.val + 2) (k.b + (4 + 17 * i.val + 2), .inl (k.c 0, (8, .inl (v)))) = wAll k T R (updF ly i (LL_set_firstOutgassing L v)) rc hn rp tp ee st := by
  revert i
  exact fin2 rfl rfl
set_option maxRecDepth 100000 in
theorem s_lay_decay (i : Fin 2) (L : LL) (v : Nat → Int32) : (wAll k T R (updF ly i L) rc hn rp tp ee st).set (4 + 17 * i.val + 3) (k.b + (4 + 17 * i.val + 3), .inl (k.c 0, (8, .inl (v)))) = wAll k T R (updF ly i (LL_set_decay L v)) rc hn rp tp ee st := by
  revert i
  exact fin2 rfl rfl
set_option maxRecDepth 100000 in
theorem s_lay_pumpChamber (i : Fin 2) (L : LL) (v : Nat → Int32) : (wAll k T R (updF ly i L) rc hn rp tp ee st).set (4 + 17 * i.val + 4) (k.b + (4 + 17 * i.val + 4), .inl (k.c 0, (6, .inl (v)))) = wAll k T R (updF ly i (LL_set_pumpChamber L v)) rc hn rp tp ee st := by
  revert i
  exact fin2 rfl rfl
set_option maxRecDepth 100000 in
theorem s_lay_exhaust (i : Fin 2) (L : LL) (v : Nat → Int32) : (wAll k T R (updF ly i L) rc hn rp tp ee st).set (4 + 17 * i.val + 5) (k.b + (4 + 17 * i.val + 5), .inl (k.c 0, (6, .inl (v)))) = wAll k T R (updF ly i (LL_set_exhaust L v)) rc hn rp tp ee st := by
  revert i
  exact fin2 rfl rfl
set_option maxRecDepth 100000 in
theorem s_lay_speed (i : Fin 2) (L : LL) (v : Nat → Int32) : (wAll k T R (updF ly i L) rc hn rp tp ee st).set (4 + 17 * i.val + 6) (k.b + (4 + 17 * i.val + 6), .inl (k.c 0, (6, .inl (v)))) = wAll k T R (updF ly i (LL_set_speed L v)) rc hn rp tp ee st := by
  revert i
  exact fin2 rfl rfl
set_option maxRecDepth 100000 in
theorem s_lay_low (i : Fin 2) (L : LL) (v : Nat → Int32) : (wAll k T R (updF ly i L) rc hn rp tp ee st).set (4 + 17 * i.val + 7) (k.b + (4 + 17 * i.val + 7), .inl (k.c 0, (6, .inl (v)))) = wAll k T R (updF ly i (LL_set_low L v)) rc hn rp tp ee st := by
  revert i
  exact fin2 rfl rfl
set_option maxRecDepth 100000 in
theorem s_lay_high (i : Fin 2) (L : LL) (v : Nat → Int32) : (wAll k T R (updF ly i L) rc hn rp tp ee st).set (4 + 17 * i.val + 8) (k.b + (4 + 17 * i.val + 8), .inl (k.c 0, (6, .inl (v)))) = wAll k T R (updF ly i (LL_set_high L v)) rc hn rp tp ee st := by
  revert i
  exact fin2 rfl rfl
set_option maxRecDepth 100000 in
theorem s_lay_backing (i : Fin 2) (L : LL) (v : Nat → Int32) : (wAll k T R (updF ly i L) rc hn rp tp ee st).set (4 + 17 * i.val + 9) (k.b + (4 + 17 * i.val + 9), .inl (k.c 0, (6, .inl (v)))) = wAll k T R (updF ly i (LL_set_backing L v)) rc hn rp tp ee st := by
  revert i
  exact fin2 rfl rfl
set_option maxRecDepth 100000 in
theorem s_lay_valveChamber (i : Fin 2) (L : LL) (v : Nat → Int32) : (wAll k T R (updF ly i L) rc hn rp tp ee st).set (4 + 17 * i.val + 10) (k.b + (4 + 17 * i.val + 10), .inl (k.c 0, (10, .inl (v)))) = wAll k T R (updF ly i (LL_set_valveChamber L v)) rc hn rp tp ee st := by
  revert i
  exact fin2 rfl rfl
set_option maxRecDepth 100000 in
theorem s_lay_otherSide (i : Fin 2) (L : LL) (v : Nat → Int32) : (wAll k T R (updF ly i L) rc hn rp tp ee st).set (4 + 17 * i.val + 11) (k.b + (4 + 17 * i.val + 11), .inl (k.c 0, (10, .inl (v)))) = wAll k T R (updF ly i (LL_set_otherSide L v)) rc hn rp tp ee st := by
  revert i
  exact fin2 rfl rfl
set_option maxRecDepth 100000 in
theorem s_lay_conductance (i : Fin 2) (L : LL) (v : Nat → Int32) : (wAll k T R (updF ly i L) rc hn rp tp ee st).set (4 + 17 * i.val + 12) (k.b + (4 + 17 * i.val + 12), .inl (k.c 0, (10, .inl (v)))) = wAll k T R (updF ly i (LL_set_conductance L v)) rc hn rp tp ee st := by
  revert i
  exact fin2 rfl rfl
set_option maxRecDepth 100000 in
theorem s_lay_firstRule (i : Fin 2) (L : LL) (v : Nat → Int32) : (wAll k T R (updF ly i L) rc hn rp tp ee st).set (4 + 17 * i.val + 13) (k.b + (4 + 17 * i.val + 13), .inl (k.c 0, (10, .inl (v)))) = wAll k T R (updF ly i (LL_set_firstRule L v)) rc hn rp tp ee st := by
  revert i
  exact fin2 rfl rfl
set_option maxRecDepth 100000 in
theorem s_lay_flangeChamber (i : Fin 2) (L : LL) (v : Nat → Int32) : (wAll k T R (updF ly i L) rc hn rp tp ee st).set (4 + 17 * i.val + 14) (k.b + (4 + 17 * i.val + 14), .inl (k.c 0, (24, .inl (v)))) = wAll k T R (updF ly i (LL_set_flangeChamber L v)) rc hn rp tp ee st := by
  revert i
  exact fin2 rfl rfl
set_option maxRecDepth 100000 in
theorem s_lay_firstLeak (i : Fin 2) (L : LL) (v : Nat → Int32) : (wAll k T R (updF ly i L) rc hn rp tp ee st).set (4 + 17 * i.val + 15) (k.b + (4 + 17 * i.val + 15), .inl (k.c 0, (24, .inl (v)))) = wAll k T R (updF ly i (LL_set_firstLeak L v)) rc hn rp tp ee st := by
  revert i
  exact fin2 rfl rfl
set_option maxRecDepth 100000 in
theorem wAll_len : (wAll k T R ly rc hn rp tp ee st).length = 189 := rfl
set_option maxRecDepth 100000 in
theorem wAll_ads : (wAll k T R ly rc hn rp tp ee st).map Prod.fst = (List.range 189).map (fun i => k.b + i) := rfl
theorem wAll_D : va_D (kA k) (wAll k T R ly rc hn rp tp ee st) := by
  have key : ∀ (i : Nat) (q : Nat × va_E), (wAll k T R ly rc hn rp tp ee st)[i]? = some q → q.1 = k.b + i := by
    intro i q hq
    have h1 : ((wAll k T R ly rc hn rp tp ee st).map Prod.fst)[i]? = some q.1 := by rw [List.getElem?_map, hq]; rfl
    rw [wAll_ads, List.getElem?_map] at h1
    cases hr : (List.range 189)[i]? with
    | none => rw [hr] at h1; cases h1
    | some z =>
      rw [hr] at h1
      have h2 := (List.getElem?_eq_some_iff.mp hr)
      obtain ⟨h3, h4⟩ := h2
      rw [List.getElem_range] at h4
      subst h4
      exact (Option.some.inj h1).symm
  refine ⟨fun i j p q hp hq h => ?_, fun i q hq => ?_⟩
  · rw [key i p hp, key j q hq] at h
    omega
  · show k.b ≤ q.1
    rw [key i q hq]
    omega
end WORLD
