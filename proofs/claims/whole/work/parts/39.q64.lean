/-! a run looks at no sold lot -/
def forg (x : HQ) : HQ := (fun f i => if 3 ≤ f ∧ f ≤ 5 then 0 else if 13 ≤ f ∧ 0 < i then 0 else x.1 f i, x.2)
section
variable {q : HQ} {σ : Mem} {h o b v l s : Nat}
theorem forg_qs (x : HQ) {f : Nat} (h1 : ¬ (3 ≤ f ∧ f ≤ 5)) (v : Nat) : forg (qs x f 0 v) = qs (forg x) f 0 v := by
  unfold forg qs
  refine Prod.ext ?_ rfl
  funext g j
  show (if 3 ≤ g ∧ g ≤ 5 then 0 else if 13 ≤ g ∧ 0 < j then 0 else if g = f ∧ j = 0 then v else x.1 g j) = if g = f ∧ j = 0 then v else if 3 ≤ g ∧ g ≤ 5 then 0 else if 13 ≤ g ∧ 0 < j then 0 else x.1 g j
  by_cases e : g = f ∧ j = 0
  · rw [if_neg (by omega), if_neg (by omega), if_pos e, if_pos e]
  · rw [if_neg e, if_neg e]
theorem callv_forg (x : HQ) (b : Nat) : callv (forg x) b = callv x b := rfl
theorem bid1_E {x y : HQ × Lg} (e : forg x.1 = forg y.1) (b : Nat) : forg (bid1 s x b).1 = forg (bid1 s y b).1 := by
  have c : callv x.1 b = callv y.1 b := by rw [← callv_forg, e, callv_forg]
  unfold bid1
  by_cases g : b = s
  · rw [if_pos g, if_pos g]; exact e
  · rw [if_neg g, if_neg g, c]
    by_cases z : callv y.1 b = 0
    · rw [if_pos z, if_pos z]; exact e
    · rw [if_neg z, if_neg z]
      show forg (takes x.1 b (callv y.1 b)) = forg (takes y.1 b (callv y.1 b))
      unfold takes
      rw [forg_qs _ (by omega), forg_qs _ (by omega), forg_qs _ (by omega), forg_qs _ (by omega), e]
theorem bids_E : ∀ (d i : Nat) (x y : HQ × Lg), forg x.1 = forg y.1 → forg (bidsR s d i x).1 = forg (bidsR s d i y).1 := by
  intro d
  induction d with
  | zero => intro i x y e; exact e
  | succ d ih => intro i x y e; exact ih (i + 1) _ _ (bid1_E e i)
theorem forg_f {x y : HQ} (e : forg x = forg y) : x.m = y.m ∧ x.n = y.n ∧ x.lit = y.lit ∧ x.burnt = y.burnt ∧ x.tick = y.tick ∧ x.high = y.high ∧ x.holder = y.holder ∧ burns x = burns y ∧ (∀ i, x.wax i = y.wax i) ∧ ∀ i, x.purse i = y.purse i := by
  have g : ∀ f i, (forg x).1 f i = (forg y).1 f i := fun f i => by rw [e]
  refine ⟨g 6 0, g 0 0, g 13 0, g 15 0, g 14 0, g 16 0, g 17 0, ?_, fun i => g 1 i, fun i => g 10 i⟩
  have h1 : burns (forg x) = burns (forg y) := by rw [e]
  exact h1
theorem tick_E {x y : HQ × Lg} (e : forg x.1 = forg y.1) : forg (tickq s x).1 = forg (tickq s y).1 := by
  have f := forg_f e
  unfold tickq
  rw [f.1]
  have B := bids_E (s := s) y.1.m 0 x y e
  generalize bidsR s y.1.m 0 x = a at B ⊢
  generalize bidsR s y.1.m 0 y = c at B ⊢
  have g := forg_f B
  show forg (burnq a.1) = forg (burnq c.1)
  unfold burnq
  rw [forg_qs _ (by omega), forg_qs _ (by omega), forg_qs _ (by omega), forg_qs _ (by omega), B, g.2.2.2.1, g.2.2.2.2.1, g.2.2.2.2.2.2.2.1]
theorem run_E : ∀ (d : Nat) (x y : HQ × Lg), forg x.1 = forg y.1 → (runR s d x).1 = (runR s d y).1 ∧ forg (runR s d x).2.1 = forg (runR s d y).2.1 := by
  intro d
  induction d with
  | zero => intro x y e; exact ⟨rfl, e⟩
  | succ d ih =>
    intro x y e
    have T := tick_E (s := s) e
    have f := forg_f T
    unfold runR
    have ew : (tickq s x).1.wax (tickq s x).1.lit = (tickq s y).1.wax (tickq s y).1.lit := by rw [f.2.2.1, f.2.2.2.2.2.2.2.2.1]
    rw [ew, f.2.2.2.1]
    by_cases z : (tickq s y).1.wax (tickq s y).1.lit ≤ (tickq s y).1.burnt
    · rw [if_pos z, if_pos z]; exact ⟨rfl, T⟩
    · rw [if_neg z, if_neg z]
      obtain ⟨r1, r2⟩ := ih (tickq s x) (tickq s y) T
      exact ⟨by rw [r1], r2⟩
/-- q, its purses being P -/
def wiP (q : HQ) (P : Nat → Nat) : HQ := (fun f i => if f = 10 then P i else q.1 f i, q.2)
def Stg (q : HQ) (P : Nat → Nat) (x : HQ) : Prop := (∀ f i, ¬ (3 ≤ f ∧ f ≤ 5) → f ≠ 10 → ¬ (13 ≤ f) → x.1 f i = q.1 f i) ∧ x.2 = q.2 ∧ ∀ i, x.purse i = P i
theorem stg_lits {P : Nat → Nat} {x y : HQ} (hx : Stg q P x) (hy : Stg q P y) (l : Nat) (hx18 : ∀ f, 18 ≤ f → x.1 f 0 = y.1 f 0) : forg (lits x l) = forg (lits y l) := by
  unfold lits
  rw [forg_qs _ (by omega), forg_qs _ (by omega), forg_qs _ (by omega), forg_qs _ (by omega), forg_qs _ (by omega), forg_qs _ (by omega), forg_qs _ (by omega), forg_qs _ (by omega), forg_qs _ (by omega), forg_qs _ (by omega)]
  unfold qs forg
  refine Prod.ext ?_ (hx.2.1.trans hy.2.1.symm)
  funext f i
  show (if f = 17 ∧ i = 0 then 9 else if f = 16 ∧ i = 0 then 0 else if f = 15 ∧ i = 0 then 0 else if f = 14 ∧ i = 0 then 0 else if f = 13 ∧ i = 0 then l else if 3 ≤ f ∧ f ≤ 5 then 0 else if 13 ≤ f ∧ 0 < i then 0 else x.1 f i) = (if f = 17 ∧ i = 0 then 9 else if f = 16 ∧ i = 0 then 0 else if f = 15 ∧ i = 0 then 0 else if f = 14 ∧ i = 0 then 0 else if f = 13 ∧ i = 0 then l else if 3 ≤ f ∧ f ≤ 5 then 0 else if 13 ≤ f ∧ 0 < i then 0 else y.1 f i)
  by_cases h1 : f = 17 ∧ i = 0
  · rw [if_pos h1, if_pos h1]
  rw [if_neg h1, if_neg h1]
  by_cases h2 : f = 16 ∧ i = 0
  · rw [if_pos h2, if_pos h2]
  rw [if_neg h2, if_neg h2]
  by_cases h3 : f = 15 ∧ i = 0
  · rw [if_pos h3, if_pos h3]
  rw [if_neg h3, if_neg h3]
  by_cases h4 : f = 14 ∧ i = 0
  · rw [if_pos h4, if_pos h4]
  rw [if_neg h4, if_neg h4]
  by_cases h5 : f = 13 ∧ i = 0
  · rw [if_pos h5, if_pos h5]
  rw [if_neg h5, if_neg h5]
  by_cases h6 : 3 ≤ f ∧ f ≤ 5
  · rw [if_pos h6, if_pos h6]
  rw [if_neg h6, if_neg h6]
  by_cases h7 : 13 ≤ f ∧ 0 < i
  · rw [if_pos h7, if_pos h7]
  rw [if_neg h7, if_neg h7]
  by_cases h8 : f = 10
  · subst h8
    exact (hx.2.2 i).trans (hy.2.2 i).symm
  by_cases h9 : 13 ≤ f
  · have : i = 0 := by omega
    subst this
    exact hx18 f (by omega)
  · rw [hx.1 f i h6 h8 h9, hy.1 f i h6 h8 h9]
/-- how a lot goes at purses P: for how much, and the purses then -/
def hiP (q : HQ) (P : Nat → Nat) (l : Nat) : Nat := (fin (wiP q P) 9 l).high
def nxP (q : HQ) (P : Nat → Nat) (l : Nat) : Nat → Nat := (payq (fin (wiP q P) 9 l)).purse
def playN (q : HQ) (A : Nat → Nat) : Nat → (Nat → Nat) × Nat
  | 0 => (q.purse, 0)
  | i + 1 => (nxP q (playN q A i).1 (A i), (playN q A i).2 + hiP q (playN q A i).1 (A i))
theorem playN_c {A B : Nat → Nat} : ∀ (i : Nat), (∀ j, j < i → A j = B j) → playN q A i = playN q B i := by
  intro i
  induction i with
  | zero => intro _; rfl
  | succ i ih =>
    intro e
    show (nxP q (playN q A i).1 (A i), _) = (nxP q (playN q B i).1 (B i), _)
    rw [ih (fun j hj => e j (by omega)), e i (by omega)]
theorem wiP_ok {P : Nat → Nat} (ok : q.Okx) (hP : ∀ b, b < q.m → P b ≤ 9999) : (wiP q P).Okx := by
  obtain ⟨ol, ⟨hm, hob⟩, o1, o2, o6, o7⟩ := ok
  exact ⟨ol, ⟨hm, fun b hb => ⟨(hob b hb).1, (hob b hb).2.1, (hob b hb).2.2.1, hP b hb⟩⟩, o1, o2, o6, o7⟩
theorem payq_purse {x y : HQ} (e1 : x.holder = y.holder) (e2 : x.high = y.high) (e3 : ∀ i, x.purse i = y.purse i) (i : Nat) : (payq x).purse i = (payq y).purse i := by
  unfold payq
  rw [e1]
  by_cases g : y.holder = 9
  · rw [if_pos g, if_pos g]; exact e3 i
  · rw [if_neg g, if_neg g]
    by_cases z : i = y.holder
    · rw [purse_qt _ z, purse_qt _ z, e2, e3]
    · rw [purse_qs _ (by omega), purse_qs _ (by omega)]; exact e3 i
theorem nxP_le {P : Nat → Nat} (ok : q.Okx) (hl : l < q.n) (hP : ∀ b, b < q.m → P b ≤ 9999) : ∀ b, b < q.m → nxP q P l b ≤ 9999 := by
  intro b hb
  have R := run_ok (s := 9) (wiP_ok ok hP) (show l < (wiP q P).n from hl)
  have K := payq_ok R.1
  have hm : (payq (run (wiP q P) 9 l).2.1).m = q.m := by
    have : (run (wiP q P) 9 l).2.1.m = q.m := R.2.2.2.2.2.2
    unfold payq
    split
    · exact this
    · exact this
  exact (K.2.1.2 b (by rw [hm]; exact hb)).2.2.2
theorem hiP_le {P : Nat → Nat} (ok : q.Okx) (hl : l < q.n) (hP : ∀ b, b < q.m → P b ≤ 9999) : hiP q P l ≤ 9999 :=
  (fin_ok (s := 9) (wiP_ok ok hP) (show l < (wiP q P).n from hl)).1
theorem playN_le {A : Nat → Nat} (ok : q.Okx) : ∀ (i : Nat), (∀ j, j < i → A j < q.n) → (∀ b, b < q.m → (playN q A i).1 b ≤ 9999) ∧ (playN q A i).2 ≤ 9999 * i := by
  intro i
  induction i with
  | zero => intro _; exact ⟨fun b hb => (ok.2.1.2 b hb).2.2.2, Nat.zero_le _⟩
  | succ i ih =>
    intro e
    obtain ⟨h1, h2⟩ := ih (fun j hj => e j (by omega))
    refine ⟨nxP_le ok (e i (by omega)) h1, ?_⟩
    have := hiP_le ok (e i (by omega)) h1
    show (playN q A i).2 + hiP q (playN q A i).1 (A i) ≤ 9999 * (i + 1)
    omega
/-- any run from a like state ends alike -/
theorem like_run {P : Nat → Nat} {x : HQ} (hx : Stg q P x) (h18 : ∀ f, 18 ≤ f → x.1 f 0 = q.1 f 0) (l : Nat) (g : Lg) : forg (runR 9 60 (lits x l, g)).2.1 = forg (fin (wiP q P) 9 l) := by
  have hy : Stg q P (wiP q P) := ⟨fun f i h1 h2 h3 => if_neg h2, rfl, fun i => by show (if (10 : Nat) = 10 then P i else q.1 10 i) = P i; rw [if_pos rfl]⟩
  have e := stg_lits hx hy l (fun f hf => (h18 f hf).trans (if_neg (by omega : ¬ f = 10)).symm)
  exact (run_E 60 (lits x l, g) (lits (wiP q P) l, lg0) e).2
theorem bid1_k {s : Nat} {x : HQ × Lg} {b f i : Nat} (hf : f ≠ 16 ∧ f ≠ 17) : (bid1 s x b).1.1 f i = x.1.1 f i := by
  unfold bid1
  split
  · rfl
  · split
    · rfl
    · exact (takes_same x.1 b (callv x.1 b)).2.2.2.2.2.2.2 f i hf.1 hf.2
theorem bids_k {s f i : Nat} (hf : f ≠ 16 ∧ f ≠ 17) : ∀ (d j : Nat) (x : HQ × Lg), (bidsR s d j x).1.1 f i = x.1.1 f i ∧ (bidsR s d j x).1.2 = x.1.2 := by
  intro d
  induction d with
  | zero => intro j x; exact ⟨rfl, rfl⟩
  | succ d ih =>
    intro j x
    obtain ⟨h1, h2⟩ := ih (j + 1) (bid1 s x j)
    refine ⟨h1.trans (bid1_k hf), h2.trans ?_⟩
    unfold bid1
    split
    · rfl
    · split <;> rfl
theorem run_k {s f i : Nat} (hf : f < 14 ∨ 17 < f) : ∀ (d : Nat) (x : HQ × Lg), (runR s d x).2.1.1 f i = x.1.1 f i ∧ (runR s d x).2.1.2 = x.1.2 := by
  have T : ∀ x : HQ × Lg, (tickq s x).1.1 f i = x.1.1 f i ∧ (tickq s x).1.2 = x.1.2 := fun x => by
    obtain ⟨h1, h2⟩ := bids_k (s := s) (f := f) (i := i) (by omega) x.1.m 0 x
    refine ⟨?_, h2⟩
    show (if f = 14 ∧ i = 0 then _ else if f = 15 ∧ i = 0 then _ else (bidsR s x.1.m 0 x).1.1 f i) = _
    rw [if_neg (by omega), if_neg (by omega)]
    exact h1
  intro d
  induction d with
  | zero => intro x; exact ⟨rfl, rfl⟩
  | succ d ih =>
    intro x
    unfold runR
    split
    · exact T x
    · obtain ⟨h1, h2⟩ := ih (tickq s x)
      exact ⟨h1.trans (T x).1, h2.trans (T x).2⟩
end
