/-! a hall, by Nat values; 9 stands for nobody and for no lot -/
structure HQ where
  n : Nat
  wax : Nat → Nat
  worth : Nat → Nat
  sold : Nat → Nat
  price : Nat → Nat
  buyer : Nat → Nat
  m : Nat
  kind : Nat → Nat
  a : Nat → Nat
  val : Nat → Nat
  purse : Nat → Nat
  dr : Nat → Nat
  step : Nat
  z : Int32
  lit : Nat
  tick : Nat
  burnt : Nat
  high : Nat
  holder : Nat
/-- within the document's bounds -/
structure HQ.Ok (q : HQ) : Prop where
  n : q.n ≤ 5
  wax : ∀ i, i < q.n → 1 ≤ q.wax i ∧ q.wax i ≤ 60
  worth : ∀ i, i < q.n → 1 ≤ q.worth i ∧ q.worth i ≤ 99
  sold : ∀ i, i < q.n → q.sold i ≤ 1
  price : ∀ i, i < q.n → q.price i ≤ 9999
  buyer : ∀ i, i < q.n → q.buyer i < q.m ∨ q.buyer i = 9
  m : q.m ≤ 6
  kind : ∀ b, b < q.m → q.kind b ≤ 5
  a : ∀ b, b < q.m → q.a b ≤ 9
  val : ∀ b, b < q.m → q.val b ≤ 999
  purse : ∀ b, b < q.m → q.purse b ≤ 9999
  dr : ∀ p, p < 12 → q.dr p ≤ 3
  step : 1 ≤ q.step ∧ q.step ≤ 20
  lit : q.lit < q.n ∨ q.lit = 9
  tick : q.tick ≤ q.burnt
  burnt : q.lit < q.n → q.burnt < q.wax q.lit
  high : q.high ≤ 9999
  holder : q.holder < q.m ∨ (q.holder = 9 ∧ q.high = 0)
def cE (x : Nat) : Int32 := if x = 9 then -9 else nI x
def mE (x : Nat) : Int32 := if x = 9 then -1 else nI x
/-- the class's hall at cell h holds q -/
structure CH (h : Nat) (q : HQ) (σ : Mem) : Prop where
  n : gI σ h 1 = nI q.n
  m : gI σ h 3 = nI q.m
  step : gI σ h 5 = nI q.step
  z : gI σ h 6 = q.z
  lit : gI σ h 7 = cE q.lit
  cand : q.lit ≠ 9 → gI σ h 8 = nI q.tick ∧ gI σ h 9 = nI q.burnt ∧ gI σ h 10 = nI q.high ∧ gI σ h 11 = cE q.holder
  dr : ∀ p, p < 12 → gI σ (h + 3) p = nI (q.dr p)
  lot : ∀ i, i < q.n → gI σ (h + 4 + i) 0 = nI (q.wax i) ∧ gI σ (h + 4 + i) 1 = nI (q.worth i) ∧ gI σ (h + 4 + i) 2 = nI (q.sold i)
  told : ∀ i, i < q.n → gI σ (h + 4 + i) 3 = (if q.sold i = 1 then nI (q.price i) else -9) ∧ gI σ (h + 4 + i) 4 = (if q.sold i = 1 then cE (q.buyer i) else -9)
  flag : ∀ i, i < 5 → gI σ (h + 4 + i) 2 = 0 ∨ gI σ (h + 4 + i) 2 = 1
  bid : ∀ b, b < q.m → gI σ (h + 9 + b) 0 = nI (q.kind b) ∧ gI σ (h + 9 + b) 1 = nI (q.a b) ∧ gI σ (h + 9 + b) 2 = nI (q.val b) ∧ gI σ (h + 9 + b) 3 = nI (q.purse b)
/-- the model holds q, its row at offset o (0 or 11) -/
structure MH (o : Nat) (q : HQ) (σ : Mem) : Prop where
  n : gI σ 94 0 = nI q.n
  m : gI σ 94 8 = nI q.m
  step : gI σ 94 7 = nI q.step
  z : gI σ 94 14 = q.z
  row0 : gI σ 104 o = mE q.lit
  row : gI σ 104 (o + 1) = nI q.tick ∧ gI σ 104 (o + 2) = nI q.burnt ∧ gI σ 104 (o + 3) = nI q.high ∧ gI σ 104 (o + 4) = mE q.holder
  purse : ∀ b, b < q.m → gI σ 104 (o + 5 + b) = nI (q.purse b)
  dr : ∀ p, p < 12 → gI σ 100 p = nI (q.dr p)
  lot : ∀ i, i < q.n → gI σ 95 i = nI (q.wax i) ∧ gI σ 96 i = nI (q.worth i) ∧ gI σ 97 i = nI (q.sold i)
  told : ∀ i, i < q.n → q.sold i = 1 → gI σ 98 i = nI (q.price i) ∧ gI σ 99 i = mE (q.buyer i)
  bid : ∀ b, b < q.m → gI σ 101 b = nI (q.kind b) ∧ gI σ 102 b = nI (q.a b) ∧ gI σ 103 b = nI (q.val b)
theorem al_lots {h : Nat} (hh : h = 1 ∨ h = 16 ∨ h = 31 ∨ h = 49) : al (h + 1) = 5 ∧ al (h + 2) = 6 ∧ al (h + 3) = 12 := by
  rcases hh with rfl | rfl | rfl | rfl <;> decide
theorem ixo_nI {a i : Nat} (h : i < al a) (hb : i < 2147483648) : ixo a (nI i) = some i := by
  unfold ixo
  rw [nI_clamp (by omega)]
  have h1 : ¬ (nI i < 0) := nI_pos (by omega)
  rw [if_neg (by rintro (c | c); exact h1 c; omega)]
