/-! VALUES: an int, nothing, or the thing in the reference's place k -/
def vv_y : Int32 ⊕ Option Nat → Int64
  | .inl i => lN i.toBitVec.toNat
  | .inr none => 4294967296
  | .inr (some k) => lN (8589934592 + k)
def vv_x (sh : Nat → Int64) : Int32 ⊕ Option Nat → Int64
  | .inl i => i.toInt64
  | .inr none => 10000000000
  | .inr (some k) => sh k
theorem vv_w (i : Int32) : i.toInt64 &&& 4294967295 = lN i.toBitVec.toNat := by
  have hl := i.toBitVec.isLt
  apply Int64.toBitVec_inj.mp
  apply BitVec.eq_of_toNat_eq
  rw [wb_tn (by omega), Int64.toBitVec_and, BitVec.toNat_and, Int32.toBitVec_toInt64, show (4294967295 : Int64).toBitVec.toNat = 2 ^ 32 - 1 from by decide, Nat.and_two_pow_sub_one_eq_mod, BitVec.toNat_signExtend, BitVec.toNat_setWidth]
  split <;> omega
theorem vv_i (i : Int32) : (lN i.toBitVec.toNat).toInt32 = i := by
  rw [lN_i]
  apply Int32.toBitVec_inj.mp
  apply BitVec.eq_of_toNat_eq
  exact pk_tn i.toBitVec.isLt
theorem vv_t {k : Nat} (h : k < 2 ^ 31) : (lN (8589934592 + k)).toInt32 = nI k := by
  rw [lN_i]
  apply Int32.toBitVec_inj.mp
  apply BitVec.eq_of_toNat_eq
  rw [pk_tn (show k < 2 ^ 32 by omega)]
  show (8589934592 + k) % 2 ^ 32 = k
  omega
theorem vv_inj {a b : Int32 ⊕ Option Nat} (ha : ∀ k, a = .inr (some k) → k < 32) (hb : ∀ k, b = .inr (some k) → k < 32) (h : vv_y a = vv_y b) : a = b := by
  have e0 : (4294967296 : Int64) = lN 4294967296 := by decide
  rcases a with i | _ | k <;> rcases b with j | _ | l <;> simp only [vv_y] at h
  · have hi := i.toBitVec.isLt
    have hj := j.toBitVec.isLt
    rw [pk_lEQ (by omega) (by omega)] at h
    rw [Int32.toBitVec_inj.mp (BitVec.eq_of_toNat_eq h)]
  · have hi := i.toBitVec.isLt
    rw [e0, pk_lEQ (by omega) (by omega)] at h
    omega
  · have hi := i.toBitVec.isLt
    have := hb l rfl
    rw [pk_lEQ (by omega) (by omega)] at h
    omega
  · have hi := j.toBitVec.isLt
    rw [e0, pk_lEQ (by omega) (by omega)] at h
    omega
  · rfl
  · have := hb l rfl
    rw [e0, pk_lEQ (by omega) (by omega)] at h
    omega
  · have hi := j.toBitVec.isLt
    have := ha k rfl
    rw [pk_lEQ (by omega) (by omega)] at h
    omega
  · have := ha k rfl
    rw [e0, pk_lEQ (by omega) (by omega)] at h
    omega
  · have := ha k rfl
    have := hb l rfl
    rw [pk_lEQ (by omega) (by omega)] at h
    rw [show k = l by omega]
def vv_V (y : Int64) : Prop := ∃ a : Int32 ⊕ Option Nat, (∀ k, a = .inr (some k) → k < 32) ∧ y = vv_y a
def vv_T (y : Int64) (k : Nat) : Prop := k < 32 ∧ y = lN (8589934592 + k)
theorem vv_cases {y : Int64} (h : vv_V y) : (∃ i : Int32, y = lN i.toBitVec.toNat ∧ y < 8589934592 ∧ ¬ ∃ k, vv_T y k) ∨ (y = 4294967296 ∧ ¬ ∃ k, vv_T y k) ∨ (∃ k, k < 32 ∧ y = lN (8589934592 + k) ∧ ¬ y < 8589934592 ∧ ∀ j, vv_T y j ↔ j = k) := by
  have e0 : (4294967296 : Int64) = lN 4294967296 := by decide
  have e1 : (8589934592 : Int64) = lN 8589934592 := by decide
  obtain ⟨a, ha, rfl⟩ := h
  rcases a with i | _ | k
  · have hi := i.toBitVec.isLt
    refine Or.inl ⟨i, rfl, ?_, fun ⟨k, h1, h2⟩ => ?_⟩
    · show lN _ < _
      rw [e1, pk_lLT (by omega) (by omega)]; omega
    · have h2 : lN _ = lN _ := h2
      rw [pk_lEQ (by omega) (by omega)] at h2; omega
  · refine Or.inr (Or.inl ⟨rfl, fun ⟨k, h1, h2⟩ => ?_⟩)
    have h2 : (4294967296 : Int64) = lN _ := h2
    rw [e0, pk_lEQ (by omega) (by omega)] at h2; omega
  · have hk := ha k rfl
    refine Or.inr (Or.inr ⟨k, hk, rfl, ?_, fun j => ⟨fun ⟨h1, h2⟩ => ?_, fun e => by subst e; exact ⟨hk, rfl⟩⟩⟩)
    · show ¬ lN _ < _
      rw [e1, pk_lLT (by omega) (by omega)]; omega
    · have h2 : lN _ = lN _ := h2
      rw [pk_lEQ (by omega) (by omega)] at h2; omega
