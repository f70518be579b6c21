/-! writes -/
/-- places of the reference's row that a text settles -/
def stat (k : Nat) : Prop := k < 4 ∨ (8 ≤ k ∧ k < 40 ∧ (k % 4 = 0 ∨ k % 4 = 2)) ∨ (40 ≤ k ∧ k < 88 ∧ k % 8 < 6) ∨ (88 ≤ k ∧ k < 148 ∧ (k - 88) % 6 < 3) ∨ (148 ≤ k ∧ k < 196 ∧ k % 2 = 0)
/-! the class's state -/
section RCW
variable {a : AS} {d : AD} {ly : LL} {S : SS}
theorem RC_gas (h : RCd a d S) {c0 : Nat} (h0 : c0 < 8) (x : Nat) : RCd a (AD_set_gas d (setN (AD_gas d) c0 x)) (SS_set_pressure (SS_set_gas S (vp_updL (SS_gas S) c0 (i8 x))) (upd (SS_pressure S) c0 (i4 (x / AS_vol a c0)))) := by
  refine ⟨h.1, ⟨fun c hc => ⟨?_, ?_⟩, ?_⟩, h.2.2.1, h.2.2.2.1, h.2.2.2.2.1, h.2.2.2.2.2.1, h.2.2.2.2.2.2.1, h.2.2.2.2.2.2.2⟩
  · show vp_updL (SS_gas S) c0 (i8 x) c = i8 (setN (AD_gas d) c0 x c)
    by_cases hk : c = c0
    · rw [hk, updL_self, setN_self]
    · rw [updL_ne _ _ hk, setN_ne _ _ hk]; exact (h.2.1.1 c hc).1
  · show upd (SS_pressure S) c0 (i4 (x / AS_vol a c0)) c = i4 (setN (AD_gas d) c0 x c / AS_vol a c)
    by_cases hk : c = c0
    · rw [hk, upd_self, setN_self]
    · rw [upd_ne _ _ hk, setN_ne _ _ hk]; exact (h.2.1.1 c hc).2
  · show upd (SS_pressure S) c0 (i4 (x / AS_vol a c0)) 8 = i4 1000000
    rw [upd_ne _ _ (by omega)]; exact h.2.1.2
theorem RC_oug (h : RCd a d S) {c0 : Nat} (x : Nat) : RCd a (AD_set_oug d (setN (AD_oug d) c0 x)) (SS_set_outgassing S (upd (SS_outgassing S) c0 (i4 x))) := by
  refine ⟨h.1, h.2.1, fun c hc => ?_, h.2.2.2.1, h.2.2.2.2.1, h.2.2.2.2.2.1, h.2.2.2.2.2.2.1, h.2.2.2.2.2.2.2⟩
  show upd (SS_outgassing S) c0 (i4 x) c = i4 (setN (AD_oug d) c0 x c)
  by_cases hk : c = c0
  · rw [hk, upd_self, setN_self]
  · rw [upd_ne _ _ hk, setN_ne _ _ hk]; exact h.2.2.1 c hc
theorem RC_rul (h : RCd a d S) {c0 : Nat} (x : Nat) : RCd a (AD_set_rul d (setN (AD_rul d) c0 x)) (SS_set_rule S (upd (SS_rule S) c0 (i4 x))) := by
  refine ⟨h.1, h.2.1, h.2.2.1, h.2.2.2.1, fun c hc => ?_, h.2.2.2.2.2.1, h.2.2.2.2.2.2.1, h.2.2.2.2.2.2.2⟩
  show upd (SS_rule S) c0 (i4 x) c = i4 (setN (AD_rul d) c0 x c)
  by_cases hk : c = c0
  · rw [hk, upd_self, setN_self]
  · rw [upd_ne _ _ hk, setN_ne _ _ hk]; exact h.2.2.2.2.1 c hc
theorem bit_set {x : Int32} {v j : Nat} (hv : v < 32) : bit (x ||| (1 <<< (i4 v &&& 31))) j = if j = v then true else bit x j := by
  rw [bit_or, bit_one_shl hv]
  by_cases h : j = v
  · simp [h]
  · simp [h]
theorem bit_clr {x : Int32} {v j : Nat} (hv : v < 32) (hj : j < 32) : bit (x &&& ((1 <<< (i4 v &&& 31)) ^^^ (-1))) j = if j = v then false else bit x j := by
  rw [bit_and, bit_not _ hj, bit_one_shl hv]
  by_cases h : j = v
  · simp [h]
  · simp [h]
theorem RC_opn1 (hW : WFs a) (h : RCd a d S) {v0 : Nat} (h0 : v0 < AS_nV a) : RCd a (AD_set_opn d (setN (AD_opn d) v0 true)) (SS_set_openValves S (SS_openValves S ||| (1 <<< (i4 v0 &&& 31)))) := by
  have hN := hW.1
  refine ⟨h.1, h.2.1, h.2.2.1, h.2.2.2.1, h.2.2.2.2.1, fun c hc => ⟨?_, (h.2.2.2.2.2.1 c hc).2⟩, h.2.2.2.2.2.2.1, h.2.2.2.2.2.2.2⟩
  show bit (SS_openValves S ||| (1 <<< (i4 v0 &&& 31))) c = setN (AD_opn d) v0 true c
  rw [bit_set (by omega), (h.2.2.2.2.2.1 c hc).1]
  rfl
theorem RC_opn0 (hW : WFs a) (h : RCd a d S) {v0 : Nat} (h0 : v0 < AS_nV a) : RCd a (AD_set_opn d (setN (AD_opn d) v0 false)) (SS_set_openValves S (SS_openValves S &&& ((1 <<< (i4 v0 &&& 31)) ^^^ (-1)))) := by
  have hN := hW.1
  refine ⟨h.1, h.2.1, h.2.2.1, h.2.2.2.1, h.2.2.2.2.1, fun c hc => ⟨?_, (h.2.2.2.2.2.1 c hc).2⟩, h.2.2.2.2.2.2.1, h.2.2.2.2.2.2.2⟩
  show bit (SS_openValves S &&& ((1 <<< (i4 v0 &&& 31)) ^^^ (-1))) c = setN (AD_opn d) v0 false c
  rw [bit_clr (by omega) (by omega), (h.2.2.2.2.2.1 c hc).1]
  rfl
theorem RC_run1 (hW : WFs a) (h : RCd a d S) {v0 : Nat} (h0 : v0 < AS_nP a) : RCd a (AD_set_run d (setN (AD_run d) v0 true)) (SS_set_runningPumps S (SS_runningPumps S ||| (1 <<< (i4 v0 &&& 31)))) := by
  have hN := hW.1
  refine ⟨h.1, h.2.1, h.2.2.1, h.2.2.2.1, h.2.2.2.2.1, h.2.2.2.2.2.1, fun c hc => ⟨?_, (h.2.2.2.2.2.2.1 c hc).2⟩, h.2.2.2.2.2.2.2⟩
  show bit (SS_runningPumps S ||| (1 <<< (i4 v0 &&& 31))) c = setN (AD_run d) v0 true c
  rw [bit_set (by omega), (h.2.2.2.2.2.2.1 c hc).1]
  rfl
theorem RC_run0 (hW : WFs a) (h : RCd a d S) {v0 : Nat} (h0 : v0 < AS_nP a) : RCd a (AD_set_run d (setN (AD_run d) v0 false)) (SS_set_runningPumps S (SS_runningPumps S &&& ((1 <<< (i4 v0 &&& 31)) ^^^ (-1)))) := by
  have hN := hW.1
  refine ⟨h.1, h.2.1, h.2.2.1, h.2.2.2.1, h.2.2.2.2.1, h.2.2.2.2.2.1, fun c hc => ⟨?_, (h.2.2.2.2.2.2.1 c hc).2⟩, h.2.2.2.2.2.2.2⟩
  show bit (SS_runningPumps S &&& ((1 <<< (i4 v0 &&& 31)) ^^^ (-1))) c = setN (AD_run d) v0 false c
  rw [bit_clr (by omega) (by omega), (h.2.2.2.2.2.2.1 c hc).1]
  rfl
theorem RC_vT (h : RCd a d S) {v0 : Nat} (x : Int64) (s : Int64) : RCd a (AD_set_vTs (AD_set_vT d (setN (AD_vT d) v0 x)) s) (SS_set_valveTrips S (upd (SS_valveTrips S) v0 x.toInt32)) := by
  refine ⟨h.1, h.2.1, h.2.2.1, h.2.2.2.1, h.2.2.2.2.1, fun c hc => ⟨(h.2.2.2.2.2.1 c hc).1, ?_⟩, h.2.2.2.2.2.2.1, h.2.2.2.2.2.2.2⟩
  show upd (SS_valveTrips S) v0 x.toInt32 c = (setN (AD_vT d) v0 x c).toInt32
  by_cases hk : c = v0
  · rw [hk, upd_self, setN_self]
  · rw [upd_ne _ _ hk, setN_ne _ _ hk]; exact (h.2.2.2.2.2.1 c hc).2
theorem RC_pT (h : RCd a d S) {v0 : Nat} (x : Int64) (s : Int64) : RCd a (AD_set_pTs (AD_set_pT d (setN (AD_pT d) v0 x)) s) (SS_set_pumpTrips S (upd (SS_pumpTrips S) v0 x.toInt32)) := by
  refine ⟨h.1, h.2.1, h.2.2.1, h.2.2.2.1, h.2.2.2.2.1, h.2.2.2.2.2.1, fun c hc => ⟨(h.2.2.2.2.2.2.1 c hc).1, ?_⟩, h.2.2.2.2.2.2.2⟩
  show upd (SS_pumpTrips S) v0 x.toInt32 c = (setN (AD_pT d) v0 x c).toInt32
  by_cases hk : c = v0
  · rw [hk, upd_self, setN_self]
  · rw [upd_ne _ _ hk, setN_ne _ _ hk]; exact (h.2.2.2.2.2.2.1 c hc).2
theorem RC_tm (h : RCd a d S) : RCd a (AD_set_tm d (AD_tm d + 1)) (SS_set_time S (SS_time S + 1)) := by
  refine ⟨?_, h.2.1, h.2.2.1, h.2.2.2.1, h.2.2.2.2.1, h.2.2.2.2.2.1, h.2.2.2.2.2.2.1, h.2.2.2.2.2.2.2⟩
  show SS_time S + 1 = (AD_tm d + 1).toInt32
  rw [Int64.toInt32_add, h.1]
  rfl
theorem sum8_setN {g : Nat → Int64} {v : Nat} : ∀ {n : Nat}, v < n → sum8 (setN g v (g v + 1)) n = sum8 g n + 1
  | 0, h => by omega
  | n + 1, h => by
    unfold sum8
    by_cases hv : v = n
    · subst hv
      rw [setN_self]
      have e : ∀ m, m ≤ v → sum8 (setN g v (g v + 1)) m = sum8 g m := by
        intro m
        induction m with
        | zero => intro _; rfl
        | succ m ih =>
          intro hm
          unfold sum8
          rw [ih (by omega), setN_ne _ _ (by omega)]
      rw [e v (Nat.le_refl v), Int64.add_assoc]
    · rw [sum8_setN (n := n) (by omega), setN_ne _ _ (Ne.symm hv), Int64.add_assoc, Int64.add_comm 1, ← Int64.add_assoc]
end RCW

