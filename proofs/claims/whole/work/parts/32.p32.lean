/-! more of values, memory, loops -/
theorem nI_divE {a b : Nat} (ha : a < 2147483648) (hb : b < 2147483648) (hp : 0 < b) : nI a / nI b = nI (a / b) := by
  have hq : a / b ≤ a := Nat.div_le_self a b
  apply Int32.toInt_inj.mp
  rw [Int32.toInt_div, nI_toInt (by omega : a < 2 ^ 31), nI_toInt (by omega : b < 2 ^ 31), nI_toInt (by omega : a / b < 2 ^ 31), Int.tdiv_eq_ediv_of_nonneg (by omega), ← Int.natCast_ediv]
  have h2 : a / b < 2147483648 := by omega
  generalize a / b = c at h2
  rw [Int.bmod_eq_of_le (by omega) (by omega)]
theorem nI_subE {a b : Nat} (h : b ≤ a) : nI a - nI b = nI (a - b) := by
  have e : nI a = nI (a - b) + nI b := by rw [nI_addE]; congr 1; omega
  rw [e, Int32.add_sub_cancel]
theorem nI_subI {a b : Nat} (ha : a < 2147483648) (hb : b < 2147483648) : (nI a - nI b).toInt = (a : Int) - b := by
  rw [Int32.toInt_sub, nI_toInt (by omega : a < 2 ^ 31), nI_toInt (by omega : b < 2 ^ 31)]
  rw [Int.bmod_eq_of_le (by omega) (by omega)]
theorem nI_sub_lt0 {a b : Nat} (ha : a < 2147483648) (hb : b < 2147483648) : (nI a - nI b < nI 0) = (a < b) := by
  rw [Int32.lt_iff_toInt_lt, nI_subI ha hb, nI_toInt (by omega : 0 < 2 ^ 31)]
  apply propext; omega
theorem nI_sub_ge0 {a b : Nat} (ha : a < 2147483648) (hb : b < 2147483648) : (nI 0 ≤ nI a - nI b) = (b ≤ a) := by
  rw [Int32.le_iff_toInt_le, nI_subI ha hb, nI_toInt (by omega : 0 < 2 ^ 31)]
  apply propext; omega
theorem nI_negI {b : Nat} (hb : b < 2147483648) : (-nI b).toInt = -(b : Int) := by
  rw [Int32.toInt_neg, nI_toInt (by omega : b < 2 ^ 31)]
  rw [Int.bmod_eq_of_le (by omega) (by omega)]
theorem nI_eqN {a b : Nat} (ha : a < 2147483648) (hb : b < 2147483648) (h0 : 0 < b) : (nI a = -nI b) = False := by
  apply eq_false
  intro h
  have := congrArg Int32.toInt h
  rw [nI_negI hb, nI_toInt (by omega : a < 2 ^ 31)] at this
  omega
theorem nI_Neq {a b : Nat} (ha : a < 2147483648) (hb : b < 2147483648) (h0 : 0 < b) : (-nI b = nI a) = False := by
  apply eq_false
  intro h
  have := congrArg Int32.toInt h
  rw [nI_negI hb, nI_toInt (by omega : a < 2 ^ 31)] at this
  omega
theorem nI_ltN {a b : Nat} (ha : a < 2147483648) (hb : b < 2147483648) (h0 : 0 < b) : (nI a < -nI b) = False := by
  apply eq_false
  rw [Int32.lt_iff_toInt_lt, nI_negI hb, nI_toInt (by omega : a < 2 ^ 31)]
  omega
theorem nI_Nlt {a b : Nat} (ha : a < 2147483648) (hb : b < 2147483648) (h0 : 0 < b) : (-nI b < nI a) = True := by
  apply eq_true
  rw [Int32.lt_iff_toInt_lt, nI_negI hb, nI_toInt (by omega : a < 2 ^ 31)]
  omega
theorem nI_leN {a b : Nat} (ha : a < 2147483648) (hb : b < 2147483648) (h0 : 0 < b) : (nI a ≤ -nI b) = False := by
  apply eq_false
  rw [Int32.le_iff_toInt_le, nI_negI hb, nI_toInt (by omega : a < 2 ^ 31)]
  omega
theorem nI_Nle {a b : Nat} (ha : a < 2147483648) (hb : b < 2147483648) (h0 : 0 < b) : (-nI b ≤ nI a) = True := by
  apply eq_true
  rw [Int32.le_iff_toInt_le, nI_negI hb, nI_toInt (by omega : a < 2 ^ 31)]
  omega
theorem nI_NeN {a b : Nat} (ha : a < 2147483648) (hb : b < 2147483648) : (-nI a = -nI b) = (a = b) := by
  apply propext
  constructor
  · intro h
    have := congrArg Int32.toInt h
    rw [nI_negI hb, nI_negI ha] at this
    omega
  · rintro rfl; rfl
theorem bd1_s {α β : Type} (a : α) (f : α → Option β) : bd1 (some a) f = f a := rfl
theorem bd2_s {α β γ : Type} (a : α) (b : β) (f : α → β → Option γ) : bd2 (some (a, b)) f = f a b := rfl
theorem grd_t {β : Type} {c : Prop} [Decidable c] (h : c) (x : Option β) : grd c x = x := if_pos h
theorem onrN {β : Type} (a : Option β) (f : Nat → Option β) : onr none a f = a := rfl
theorem onrS {β : Type} (k : Nat) (a : Option β) (f : Nat → Option β) : onr (some k) a f = f k := rfl
theorem grd_T {β : Type} (x : Option β) (d : Decidable True) : @grd β True d x = x := if_pos trivial
theorem gI_eq {k i k' i' : Nat} (σ : Mem) (v : Int32) (h : k' = k ∧ i' = i) : gI (pI σ k i v) k' i' = v := by rw [gI_pI, if_pos h]
theorem gI_ne {k i k' i' : Nat} (σ : Mem) (v : Int32) (h : ¬ (k' = k ∧ i' = i)) : gI (pI σ k i v) k' i' = gI σ k' i' := by rw [gI_pI, if_neg h]
theorem gL_pI (σ : Mem) (k i : Nat) (v : Int32) (k' i' : Nat) : gL (pI σ k i v) k' i' = gL σ k' i' := rfl
theorem gI_pL (σ : Mem) (k i : Nat) (v : Int64) (k' i' : Nat) : gI (pL σ k i v) k' i' = gI σ k' i' := rfl
/-- what is written at most -/
def Fr (W : Nat → Nat → Prop) (σ σ' : Mem) : Prop := (∀ k i, ¬ W k i → gI σ' k i = gI σ k i) ∧ σ'.2 = σ.2
theorem Fr_rfl (W : Nat → Nat → Prop) (σ : Mem) : Fr W σ σ := ⟨fun _ _ _ => rfl, rfl⟩
theorem Fr_tr {W : Nat → Nat → Prop} {a b c : Mem} (h : Fr W a b) (g : Fr W b c) : Fr W a c := ⟨fun k i n => (g.1 k i n).trans (h.1 k i n), g.2.trans h.2⟩
theorem Fr_pI {W : Nat → Nat → Prop} {a b : Mem} {k i : Nat} (v : Int32) (h : Fr W a b) (w : W k i) : Fr W a (pI b k i v) := ⟨fun k' i' n => by rw [gI_ne _ _ (by rintro ⟨rfl, rfl⟩; exact n w)]; exact h.1 k' i' n, h.2⟩
theorem Fr_mono {W V : Nat → Nat → Prop} {a b : Mem} (h : Fr W a b) (w : ∀ k i, W k i → V k i) : Fr V a b := ⟨fun k i n => h.1 k i (fun c => n (w k i c)), h.2⟩
theorem iter_ind {τ S β : Type} (F : τ → τ) (bot : τ) (app : τ → S → Option β) (I : Nat → S → Prop) (Q : β → Prop)
    (step : ∀ d s, I d s → (∃ r, Q r ∧ ∀ rec, app (F rec) s = some r) ∨ (∃ d' s', d' < d ∧ I d' s' ∧ ∀ rec, app (F rec) s = app rec s')) :
    ∀ (n d : Nat) (s : S), d < n → I d s → ∃ r, app (iterF F bot n) s = some r ∧ Q r := by
  intro n
  induction n with
  | zero => intro d s h; omega
  | succ n ih =>
    intro d s hd hI
    rcases step d s hI with ⟨r, hr, h⟩ | ⟨d', s', hd', hI', h⟩
    · exact ⟨r, h _, hr⟩
    · obtain ⟨r, h1, h2⟩ := ih d' s' (by omega) hI'
      exact ⟨r, (h _).trans h1, h2⟩
theorem FU_lt {d : Nat} (h : d < 1000) : d < FU := h
/-- an argument within its bounds, or not -/
theorem arg (x : Int32) (lo hi : Nat) (hb : hi < 2147483648) (hl : lo ≤ hi) : (∃ n, lo ≤ n ∧ n ≤ hi ∧ x = nI n) ∨ (x < nI lo) ∨ (¬ x < nI lo ∧ nI hi < x) := by
  by_cases h1 : x < nI lo
  · exact .inr (.inl h1)
  · by_cases h2 : nI hi < x
    · exact .inr (.inr ⟨h1, h2⟩)
    · refine .inl ⟨x.toNatClampNeg, ?_⟩
      rw [Int32.lt_iff_toInt_lt, nI_toInt (by omega : lo < 2 ^ 31)] at h1
      rw [Int32.lt_iff_toInt_lt, nI_toInt (by omega : hi < 2 ^ 31)] at h2
      have e : x.toNatClampNeg = x.toInt.toNat := rfl
      have e2 : x = nI x.toInt.toNat := by
        apply Int32.toInt_inj.mp
        rw [nI_toInt (by omega : x.toInt.toNat < 2 ^ 31)]
        omega
      refine ⟨by omega, by omega, ?_⟩
      rw [e]; exact e2
