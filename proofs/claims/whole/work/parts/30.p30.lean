/-! the pure part: values, memory, options -/
theorem nI_lit (n : Nat) : (OfNat.ofNat n : Int32) = nI n := rfl
theorem nI_ltE {a b : Nat} (ha : a < 2147483648) (hb : b < 2147483648) : (nI a < nI b) = (a < b) := by
  rw [Int32.lt_iff_toInt_lt, nI_toInt (by omega : a < 2 ^ 31), nI_toInt (by omega : b < 2 ^ 31)]
  simp
theorem nI_leE {a b : Nat} (ha : a < 2147483648) (hb : b < 2147483648) : (nI a ≤ nI b) = (a ≤ b) := by
  rw [Int32.le_iff_toInt_le, nI_toInt (by omega : a < 2 ^ 31), nI_toInt (by omega : b < 2 ^ 31)]
  simp
theorem nI_eqE {a b : Nat} (ha : a < 2147483648) (hb : b < 2147483648) : (nI a = nI b) = (a = b) := by
  apply propext
  constructor
  · intro h
    have := congrArg Int32.toInt h
    rw [nI_toInt (by omega : a < 2 ^ 31), nI_toInt (by omega : b < 2 ^ 31)] at this
    omega
  · rintro rfl
    rfl
theorem nI_addE (a b : Nat) : nI a + nI b = nI (a + b) := by
  unfold nI
  exact (Int32.ofNat_add a b).symm
theorem nI_mulE (a b : Nat) : nI a * nI b = nI (a * b) := by
  unfold nI
  exact (Int32.ofNat_mul a b).symm
theorem gI_pI (σ : Mem) (k i : Nat) (v : Int32) (k' i' : Nat) : gI (pI σ k i v) k' i' = if k' = k ∧ i' = i then v else gI σ k' i' := by
  unfold gI pI pC upd
  by_cases h : k' = k
  · subst h
    by_cases h2 : i' = i <;> simp [h2]
  · simp [h]
def Ok {α : Type} (x : Option α) (P : α → Prop) : Prop := ∃ r, x = some r ∧ P r
