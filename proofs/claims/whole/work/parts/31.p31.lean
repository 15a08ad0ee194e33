/-! a hall, by Nat values: a function of field and index, and z; 9 stands for nobody and for no lot -/
abbrev HQ : Type := (Nat → Nat → Nat) × Int32
def HQ.n (q : HQ) : Nat := q.1 0 0
def HQ.wax (q : HQ) (i : Nat) : Nat := q.1 1 i
def HQ.worth (q : HQ) (i : Nat) : Nat := q.1 2 i
def HQ.sold (q : HQ) (i : Nat) : Nat := q.1 3 i
def HQ.price (q : HQ) (i : Nat) : Nat := q.1 4 i
def HQ.buyer (q : HQ) (i : Nat) : Nat := q.1 5 i
def HQ.m (q : HQ) : Nat := q.1 6 0
def HQ.kind (q : HQ) (i : Nat) : Nat := q.1 7 i
def HQ.a (q : HQ) (i : Nat) : Nat := q.1 8 i
def HQ.val (q : HQ) (i : Nat) : Nat := q.1 9 i
def HQ.purse (q : HQ) (i : Nat) : Nat := q.1 10 i
def HQ.dr (q : HQ) (i : Nat) : Nat := q.1 11 i
def HQ.step (q : HQ) : Nat := q.1 12 0
def HQ.lit (q : HQ) : Nat := q.1 13 0
def HQ.tick (q : HQ) : Nat := q.1 14 0
def HQ.burnt (q : HQ) : Nat := q.1 15 0
def HQ.high (q : HQ) : Nat := q.1 16 0
def HQ.holder (q : HQ) : Nat := q.1 17 0
def qs (q : HQ) (f i v : Nat) : HQ := (fun g j => if g = f ∧ j = i then v else q.1 g j, q.2)
/-- within the document's bounds -/
def HQ.Okl (q : HQ) : Prop := q.n ≤ 5 ∧ ∀ i, i < q.n → (1 ≤ q.wax i ∧ q.wax i ≤ 60) ∧ (1 ≤ q.worth i ∧ q.worth i ≤ 99) ∧ q.sold i ≤ 1 ∧ (q.sold i = 1 → q.price i ≤ 9999 ∧ (q.buyer i < q.m ∨ q.buyer i = 9))
def HQ.Okb (q : HQ) : Prop := q.m ≤ 6 ∧ ∀ b, b < q.m → q.kind b ≤ 5 ∧ q.a b ≤ 9 ∧ q.val b ≤ 999 ∧ q.purse b ≤ 9999
def HQ.Okc (q : HQ) : Prop := (∀ p, p < 12 → q.dr p ≤ 3) ∧ (1 ≤ q.step ∧ q.step ≤ 20) ∧ (q.lit < q.n ∨ q.lit = 9) ∧ q.tick ≤ q.burnt ∧ (q.lit < q.n → q.burnt < q.wax q.lit) ∧ q.high ≤ 9999 ∧ (q.holder < q.m ∨ (q.holder = 9 ∧ q.high = 0)) ∧ (q.lit = 9 → q.tick = 0 ∧ q.burnt = 0 ∧ q.high = 0 ∧ q.holder = 9)
def HQ.Ok (q : HQ) : Prop := q.Okl ∧ q.Okb ∧ q.Okc
def cE (x : Nat) : Int32 := if x = 9 then -9 else nI x
def mE (x : Nat) : Int32 := if x = 9 then -1 else nI x
/-- a hall of ours at cell h holds q -/
def CHs (h : Nat) (q : HQ) (σ : Mem) : Prop := gI σ h 1 = nI q.n ∧ gI σ h 3 = nI q.m ∧ gI σ h 5 = nI q.step ∧ gI σ h 6 = q.2 ∧ gI σ h 7 = cE q.lit ∧ (q.lit ≠ 9 → gI σ h 8 = nI q.tick ∧ gI σ h 9 = nI q.burnt ∧ gI σ h 10 = nI q.high ∧ gI σ h 11 = cE q.holder)
def CHd (h : Nat) (q : HQ) (σ : Mem) : Prop := ∀ p, p < 12 → gI σ (h + 3) p = nI (q.dr p)
def CHl (h : Nat) (q : HQ) (σ : Mem) : Prop := (∀ i, i < q.n → gI σ (h + 4 + i) 0 = nI (q.wax i) ∧ gI σ (h + 4 + i) 1 = nI (q.worth i) ∧ gI σ (h + 4 + i) 2 = nI (q.sold i) ∧ gI σ (h + 4 + i) 3 = (if q.sold i = 1 then nI (q.price i) else -9) ∧ gI σ (h + 4 + i) 4 = (if q.sold i = 1 then cE (q.buyer i) else -9)) ∧ ∀ i, i < 5 → gI σ (h + 4 + i) 2 = 0 ∨ gI σ (h + 4 + i) 2 = 1
def CHb (h : Nat) (q : HQ) (σ : Mem) : Prop := ∀ b, b < q.m → gI σ (h + 9 + b) 0 = nI (q.kind b) ∧ gI σ (h + 9 + b) 1 = nI (q.a b) ∧ gI σ (h + 9 + b) 2 = nI (q.val b) ∧ gI σ (h + 9 + b) 3 = nI (q.purse b)
def CH (h : Nat) (q : HQ) (σ : Mem) : Prop := CHs h q σ ∧ CHd h q σ ∧ CHl h q σ ∧ CHb h q σ
/-- the model holds q, its row at offset o (0 or 11) -/
def MHs (q : HQ) (σ : Mem) : Prop := gI σ 94 0 = nI q.n ∧ gI σ 94 8 = nI q.m ∧ gI σ 94 7 = nI q.step ∧ gI σ 94 14 = q.2
def MHr (o : Nat) (q : HQ) (σ : Mem) : Prop := gI σ 104 o = mE q.lit ∧ gI σ 104 (o + 1) = nI q.tick ∧ gI σ 104 (o + 2) = nI q.burnt ∧ gI σ 104 (o + 3) = nI q.high ∧ gI σ 104 (o + 4) = mE q.holder ∧ ∀ b, b < q.m → gI σ 104 (o + 5 + b) = nI (q.purse b)
def MHd (q : HQ) (σ : Mem) : Prop := ∀ p, p < 12 → gI σ 100 p = nI (q.dr p)
def MHl (q : HQ) (σ : Mem) : Prop := ∀ i, i < q.n → gI σ 95 i = nI (q.wax i) ∧ gI σ 96 i = nI (q.worth i) ∧ gI σ 97 i = nI (q.sold i) ∧ (q.sold i = 1 → gI σ 98 i = nI (q.price i) ∧ gI σ 99 i = mE (q.buyer i))
def MHb (q : HQ) (σ : Mem) : Prop := ∀ b, b < q.m → gI σ 101 b = nI (q.kind b) ∧ gI σ 102 b = nI (q.a b) ∧ gI σ 103 b = nI (q.val b)
def MH (o : Nat) (q : HQ) (σ : Mem) : Prop := MHs q σ ∧ MHr o q σ ∧ MHd q σ ∧ MHl q σ ∧ MHb q σ
theorem al_lots {h : Nat} (hh : h = 1 ∨ h = 16 ∨ h = 31 ∨ h = 49) : al (h + 1) = 5 ∧ al (h + 2) = 6 ∧ al (h + 3) = 12 := by
  rcases hh with rfl | rfl | rfl | rfl <;> decide
theorem ixo_nI {a i : Nat} (h : i < al a) (hb : i < 2147483648) : ixo a (nI i) = some i := by
  unfold ixo
  rw [nI_clamp (by omega)]
  have h1 : ¬ (nI i < 0) := nI_pos (by omega)
  rw [if_neg (by rintro (c | c); exact h1 c; omega)]
