/-! numbers of loops -/
theorem jI1 {i : Int32} (h : i < 2147483647) : (i + 1).toInt = i.toInt + 1 := by
  have h1 := Int32.lt_iff_toInt_lt.mp h
  have h2 : (2147483647 : Int32).toInt = 2147483647 := by decide
  rw [h2] at h1
  have h3 := Int32.minValue_le_toInt i
  have h4 : Int32.minValue.toInt = -2147483648 := by decide
  have h5 : (1 : Int32).toInt = 1 := by decide
  rw [Int32.toInt_add, h5]
  rw [Int.bmod_eq_of_le] <;> omega
theorem jN1 {i : Int32} (h0 : 0 ≤ i) (h : i < 2147483647) : (i + 1).toNatClampNeg = i.toNatClampNeg + 1 := by
  have h1 := jI1 h
  have h2 : (0 : Int) ≤ i.toInt := by simpa using Int32.le_iff_toInt_le.mp h0
  show (i + 1).toInt.toNat = i.toInt.toNat + 1
  omega
theorem jNI {i : Int32} (h0 : 0 ≤ i) : (i.toNatClampNeg : Int) = i.toInt := by
  have h2 : (0 : Int) ≤ i.toInt := by simpa using Int32.le_iff_toInt_le.mp h0
  show ((i.toInt.toNat : Nat) : Int) = i.toInt
  omega
theorem jlt {a b : Int32} : a < b ↔ a.toInt < b.toInt := Int32.lt_iff_toInt_lt
theorem jle {a b : Int32} : a ≤ b ↔ a.toInt ≤ b.toInt := Int32.le_iff_toInt_le
/-- what is left of a loop up to n -/
theorem jmeas {i n : Int32} {m : Nat} (h : i < n) (hm : n.toInt - i.toInt ≤ (m : Int) + 1) : n.toInt - (i + 1).toInt ≤ (m : Int) := by
  have h1 : i < 2147483647 := by
    rw [jlt] at h ⊢
    have h2 : (2147483647 : Int32).toInt = 2147483647 := by decide
    have h3 := Int32.toInt_le n
    have h4 : Int32.maxValue.toInt = 2147483647 := by decide
    omega
  rw [jI1 h1]
  omega
theorem jmeas0 {i n : Int32} (hm : n.toInt - i.toInt ≤ ((0 : Nat) : Int)) : n ≤ i := by
  rw [jle]
  omega
def jc_zr {β : Type} (f : jc_L → Nat → β) (q : jc_L) (n : Nat) (v : β) : jc_L → Nat → β := fun q' k' => if q' = q ∧ k' < n then v else f q' k'
theorem jc_zr_0 {β : Type} (f : jc_L → Nat → β) (q : jc_L) (v : β) : jc_zr f q 0 v = f := by
  funext q' k'
  simp [jc_zr]
theorem jc_zr_s {β : Type} (f : jc_L → Nat → β) (q : jc_L) (n : Nat) (v : β) : jc_up (jc_zr f q n v) q n v = jc_zr f q (n + 1) v := by
  funext q' k'
  unfold jc_up jc_zr
  by_cases h : q' = q
  · by_cases h2 : k' = n
    · simp [h, h2]
    · have : k' < n + 1 ↔ k' < n := by omega
      simp [h, h2, this]
  · simp [h]
theorem jinc1 {x : Int32} : x + Int32.ofInt 1 = x + 1 := by rw [show Int32.ofInt 1 = 1 from by decide]
theorem jincm1 {x : Int32} : x + Int32.ofInt (-1) = x - 1 := by rw [show Int32.ofInt (-1) = -1 from by decide, Int32.sub_eq_add_neg]
theorem jme {i n : Int32} {m : Nat} (h : i < n) (hm : n.toInt - i.toInt < (m : Int) + 1) : n.toInt - (i + 1).toInt < (m : Int) := by
  have h1 : i < 2147483647 := by
    rw [jlt] at h ⊢
    have h2 : (2147483647 : Int32).toInt = 2147483647 := by decide
    have h3 := Int32.toInt_le n
    have h4 : Int32.maxValue.toInt = 2147483647 := by decide
    omega
  rw [jI1 h1]
  omega
theorem jm0 {i n : Int32} (h : i ≤ n) (hm : n.toInt - i.toInt < ((0 : Nat) : Int)) : False := by
  rw [jle] at h
  omega
theorem j00 : (0 : Int32).toNatClampNeg = 0 := by decide
