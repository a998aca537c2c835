/-! BITS of a whole int; small ints of either sign -/
def ib (x : Int32) (s : Nat) : Bool := x.toBitVec.getLsbD s
theorem ib_amt : ∀ s, s < 32 → (((nI s).toUInt32 &&& Int32.toUInt32 31).toBitVec % 32#32).toNat = s := by decide +kernel
theorem ib_and1 (y : BitVec 32) : (y &&& 1#32 = 0#32) = (y.getLsbD 0 = false) := by
  refine propext ⟨fun h => ?_, fun h => ?_⟩
  · have := congrArg (fun z => BitVec.getLsbD z 0) h
    simpa using this
  · apply BitVec.eq_of_getLsbD_eq
    intro i hi
    rw [BitVec.getLsbD_and, BitVec.getLsbD_one]
    by_cases e : i = 0
    · subst e; rw [h]; simp
    · simp [e]
theorem ib_has (x : Int32) {s : Nat} (hs : s < 32) : fX10_has x (nI s) = if ib x s then 1 else 0 := by
  unfold fX10_has ib
  have e : (((Int32.toUInt32 x) >>> ((Int32.toUInt32 (nI s)) &&& Int32.toUInt32 31)).toInt32 &&& 1 = (0 : Int32)) = (x.toBitVec.getLsbD s = false) := by
    have h1 : (((Int32.toUInt32 x) >>> ((Int32.toUInt32 (nI s)) &&& Int32.toUInt32 31)).toInt32 &&& 1).toBitVec = (x.toBitVec >>> s) &&& 1#32 := by
      show (x.toBitVec >>> (((nI s).toUInt32 &&& Int32.toUInt32 31).toBitVec % 32#32).toNat) &&& 1#32 = _
      rw [ib_amt s hs]
    rw [← Int32.toBitVec_inj, h1]
    show ((x.toBitVec >>> s) &&& 1#32 = 0#32) = _
    rw [ib_and1, BitVec.getLsbD_ushiftRight, Nat.add_zero]
  simp only [e]
  cases x.toBitVec.getLsbD s <;> rfl
theorem ib_and (x y : Int32) (s : Nat) : ib (x &&& y) s = (ib x s && ib y s) := by
  unfold ib; rw [Int32.toBitVec_and, BitVec.getLsbD_and]
theorem ib_zero (s : Nat) : ib 0 s = false := by
  unfold ib
  show (0#32).getLsbD s = false
  simp
theorem ib_one : ∀ s, s < 32 → ∀ j, j < 32 → ib (1 <<< (nI s &&& 31)) j = decide (j = s) := by decide +kernel
theorem ib_or (x y : Int32) (s : Nat) : ib (x ||| y) s = (ib x s || ib y s) := by
  unfold ib; rw [Int32.toBitVec_or, BitVec.getLsbD_or]
theorem ib_eq0 (x : Int32) : (x = 0) = (∀ s, s < 32 → ib x s = false) := by
  refine propext ⟨fun h s _ => by rw [h]; exact ib_zero s, fun h => ?_⟩
  apply Int32.toBitVec_inj.mp
  apply BitVec.eq_of_getLsbD_eq
  intro i hi
  have := h i hi
  unfold ib at this
  rw [this]
  show false = (0#32).getLsbD i
  simp
theorem ib_apart : ∀ b, b < 32 → ∀ s, s < 32 → ib (kp_T.getD b 0) s = decide (s &&& b = 0) := by decide +kernel
/-- a small number of either sign -/
def iI (z : Int) : Int32 := Int32.ofInt z
theorem iI_int {z : Int} (h1 : -2147483648 ≤ z) (h2 : z < 2147483648) : (iI z).toInt = z := by
  unfold iI
  exact Int32.toInt_ofInt_of_le (by omega) (by omega)
theorem iI_nat (n : Nat) : iI n = nI n := rfl
theorem iI_m1 : iI (-1) = -1 := rfl
theorem kn_any (x : Int32) : x = nI x.toUInt32.toNat := by
  unfold nI
  apply Int32.toBitVec_inj.mp
  rw [Int32.toBitVec_ofNat']
  show x.toBitVec = BitVec.ofNat 32 x.toBitVec.toNat
  rw [BitVec.ofNat_toNat, BitVec.setWidth_eq]
