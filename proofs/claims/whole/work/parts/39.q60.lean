def telV (k : Nat) (x : Int32) (n a : Nat) : Int32 := if k = 2 ∨ k = 4 then (herV k x (nI n) (nI a) ^^^ nI a) + shaV k (nI n) n a else if k = 5 then (herV k x (nI n) (nI a) ^^^ nI a) * nI 2 else herV k x (nI n) (nI a) ^^^ nI a
def telB (k n a : Nat) (t : List Nat) : List Nat := if k = 2 ∨ k = 4 then shaB k n a (herB k (push 0 (push 0 t 31) 13)) else if k = 5 then herB k (push 0 (push 0 t 60) 13) else herB k (push 0 t 13)
def telP (k n a : Nat) : Nat := if k = 2 ∨ k = 4 then quoP n a else 0
theorem telBe {k : Nat} (e : k = 2 ∨ k = 4) (n a : Nat) (t : List Nat) : telB k n a t = shaB k n a (herB k (push 0 (push 0 t 31) 13)) := if_pos e
theorem telVe {k : Nat} (e : k = 2 ∨ k = 4) (x : Int32) (n a : Nat) : telV k x n a = (herV k x (nI n) (nI a) ^^^ nI a) + shaV k (nI n) n a := if_pos e
theorem telPe {k : Nat} (e : k = 2 ∨ k = 4) (n a : Nat) : telP k n a = quoP n a := if_pos e
theorem telPz {k : Nat} (e : k ≠ 2 ∧ k ≠ 4) (n a : Nat) : telP k n a = 0 := if_neg (by omega)
theorem telB5 (n a : Nat) (t : List Nat) : telB 5 n a t = herB 5 (push 0 (push 0 t 60) 13) := by
  unfold telB
  rw [if_neg (by omega), if_pos rfl]
theorem telV5 (x : Int32) (n a : Nat) : telV 5 x n a = (herV 5 x (nI n) (nI a) ^^^ nI a) * nI 2 := by
  unfold telV
  rw [if_neg (by omega), if_pos rfl]
theorem telBz {k : Nat} (e : k = 0 ∨ k = 1 ∨ k = 3) (n a : Nat) (t : List Nat) : telB k n a t = herB k (push 0 t 13) := by
  unfold telB
  rw [if_neg (by omega), if_neg (by omega)]
theorem telVz {k : Nat} (e : k = 0 ∨ k = 1 ∨ k = 3) (x : Int32) (n a : Nat) : telV k x n a = herV k x (nI n) (nI a) ^^^ nI a := by
  unfold telV
  rw [if_neg (by omega), if_neg (by omega)]
section
variable {q : HQ} {σ σ' : Mem} {h o b v l s : Nat}
theorem quoP_le (n a : Nat) : quoP n a ≤ 1 := by unfold quoP; split <;> omega
theorem sub0 {n a : Nat} (hn : n < 2147483648) (ha : a < 2147483648) : (nI a - nI n = nI 0) = (a = n) := by
  apply propext
  constructor
  · intro h
    have := congrArg Int32.toInt h
    rw [nI_subI ha hn, nI_toInt (by omega : 0 < 2 ^ 31)] at this
    omega
  · rintro rfl
    rw [nI_subE (Nat.le_refl _), Nat.sub_self]
theorem sC0 {k n a f e : Nat} {t : List Nat} (he : e ≤ 39) (hn : n ≤ 9) (ha : a ≤ 9) (T : TC 0 t k n a σ) (x : Int32) : ∃ σ', f_X1_shares (f + 1) 80 (nI 0) x (nI e) σ = some (quoV x n a, σ') ∧ TC (quoP n a) (push 0 t 12) k n a σ' ∧ Fr WC σ σ' := by
  obtain ⟨σ0, b1, b2, b3⟩ := bgC (by omega) T 12
  obtain ⟨h0, h1, h2, h3, h4, h5, h6⟩ := id b2
  have z := sub0 (n := n) (a := a) (by omega) (by omega)
  unfold quoV quoP
  by_cases g : a = n
  · rw [if_pos g, if_pos g]
    refine ⟨pI σ0 80 2 (nI 1), ?_, ⟨h0, ?_, ?_, ?_, ?_, ?_, fun j hj => ?_⟩, Fr_pI _ b3 (by unfold WC; omega)⟩
    · show F_X1_shares (f_X1_shares f) 80 (nI 0) x (nI e) σ = _
      unfold F_X1_shares f_X1_quotient
      rw [if_pos (dep_lt he), if_pos (show nI 0 = (0 : Int32) from rfl), nI_lit 12, b1, bd1_s, h5, h4, if_pos (by rw [nI_lit 0, z]; exact g)]
      rfl
    · simp (disch := omega) only [gI_eq, gI_ne, gL_pI, gI_pL]; exact h1
    · simp (disch := omega) only [gI_eq, gI_ne, gL_pI, gI_pL]
    · simp (disch := omega) only [gI_eq, gI_ne, gL_pI, gI_pL]; exact h3
    · simp (disch := omega) only [gI_eq, gI_ne, gL_pI, gI_pL]; exact h4
    · simp (disch := omega) only [gI_eq, gI_ne, gL_pI, gI_pL]; exact h5
    · simp (disch := omega) only [gI_eq, gI_ne, gL_pI, gI_pL]; exact h6 j hj
  · rw [if_neg g, if_neg g]
    refine ⟨σ0, ?_, b2, b3⟩
    show F_X1_shares (f_X1_shares f) 80 (nI 0) x (nI e) σ = _
    unfold F_X1_shares f_X1_quotient
    have nz : ¬ (nI a - nI n = (0 : Int32)) := by rw [nI_lit 0, z]; exact g
    rw [if_pos (dep_lt he), if_pos (show nI 0 = (0 : Int32) from rfl), nI_lit 12, b1, bd1_s, h5, h4, if_neg nz, grd_t nz, bd2_s]
theorem sC {k n a e : Nat} {t : List Nat} (he : e ≤ 25) (hk : k ≤ 5) (hn : n ≤ 9) (ha : a ≤ 9) (T : TC 0 t k n a σ) (x : Int32) : ∃ w σ', f_X1_shares 8 80 (nI k) x (nI e) σ = some (w, σ') ∧ (quoP n a = 0 → w = shaV k x n a) ∧ TC (quoP n a) (shaB k n a t) k n a σ' ∧ Fr WC σ σ' := by
  have c1 : ∀ {f e : Nat} {t : List Nat} {σ : Mem} (y : Int32), e ≤ 35 → TC 0 t k n a σ → ∃ σ', f_X1_shares (f + 2) 80 (nI 1) y (nI e) σ = some (quoV y n a, σ') ∧ TC (quoP n a) (push 0 t 12) k n a σ' ∧ Fr WC σ σ' := fun {f e t σ} y he T => by
    obtain ⟨σ1, a1, a2, a3⟩ := sC0 (f := f) (e := e + 1) (by omega) hn ha T y
    refine ⟨σ1, ?_, a2, a3⟩
    show F_X1_shares (f_X1_shares (f + 1)) 80 (nI 1) y (nI e) σ = _
    simp (disch := omega) only [F_X1_shares, f_X9_kindAbove, nI_lit, nI_eqE, nI_ltE, nI_addE, bd1_s, bd2_s, onrN, onrS, grd_t, grd_T, ltT, ltF, leT, leF, eqT, eqF, ↓reduceIte, a1]
  have c2 : ∀ {f e : Nat} {t : List Nat} {σ : Mem} (y : Int32), e ≤ 35 → TC 0 t k n a σ → ∃ σ', f_X1_shares (f + 2) 80 (nI 2) y (nI e) σ = some (quoV y n a, σ') ∧ TC (quoP n a) (push 0 t 12) k n a σ' ∧ Fr WC σ σ' := fun {f e t σ} y he T => by
    obtain ⟨σ1, a1, a2, a3⟩ := sC0 (f := f) (e := e + 1) (by omega) hn ha T y
    refine ⟨σ1, ?_, a2, a3⟩
    show F_X1_shares (f_X1_shares (f + 1)) 80 (nI 2) y (nI e) σ = _
    simp (disch := omega) only [F_X1_shares, f_X9_kindAbove, nI_lit, nI_eqE, nI_ltE, nI_addE, bd1_s, bd2_s, onrN, onrS, grd_t, grd_T, ltT, ltF, leT, leF, eqT, eqF, ↓reduceIte, a1]
  have hk' : k = 0 ∨ k = 1 ∨ k = 2 ∨ k = 3 ∨ k = 4 ∨ k = 5 := by omega
  rcases hk' with rfl | rfl | rfl | rfl | rfl | rfl
  · rw [shaBz (by omega), shaVz (by omega)]
    obtain ⟨σ1, a1, a2, a3⟩ := sC0 (f := 7) (e := e) (by omega) hn ha T x
    exact ⟨_, σ1, a1, fun _ => rfl, a2, a3⟩
  · rw [shaBz (by omega), shaVz (by omega)]
    obtain ⟨σ1, a1, a2, a3⟩ := c1 (f := 6) (e := e) x (by omega) T
    exact ⟨_, σ1, a1, fun _ => rfl, a2, a3⟩
  · rw [shaBz (by omega), shaVz (by omega)]
    obtain ⟨σ1, a1, a2, a3⟩ := c2 (f := 6) (e := e) x (by omega) T
    exact ⟨_, σ1, a1, fun _ => rfl, a2, a3⟩
  · rw [shaB3, shaV3]
    obtain ⟨σ0, b1, b2, b3⟩ := bgC (by omega) T 50
    obtain ⟨σ1, a1, a2, a3⟩ := c1 (f := 5) (e := e + 1) (x + nI 2) (by omega) b2
    refine ⟨quoV (x + nI 2) n a ^^^ nI 1, σ1, ?_, fun _ => rfl, a2, Fr_tr b3 a3⟩
    show F_X1_shares (f_X1_shares (5 + 2)) 80 (nI 3) x (nI e) σ = _
    simp (disch := omega) only [F_X1_shares, nI_lit, nI_eqE, nI_ltE, nI_addE, bd1_s, bd2_s, onrN, onrS, grd_t, grd_T, ltT, ltF, leT, leF, eqT, eqF, ↓reduceIte, a1, b1]
  · rw [shaBz (by omega), shaVz (by omega)]
    obtain ⟨σ1, a1, a2, a3⟩ := c2 (f := 5) (e := e + 1) x (by omega) T
    refine ⟨_, σ1, ?_, fun _ => rfl, a2, a3⟩
    show F_X1_shares (f_X1_shares (5 + 2)) 80 (nI 4) x (nI e) σ = _
    simp (disch := omega) only [F_X1_shares, f_X9_kindAbove, nI_lit, nI_eqE, nI_ltE, nI_addE, bd1_s, bd2_s, onrN, onrS, grd_t, grd_T, ltT, ltF, leT, leF, eqT, eqF, ↓reduceIte, a1]
  · rw [shaB5, shaV5]
    obtain ⟨σ0, b1, b2, b3⟩ := bgC (by omega) T 61
    obtain ⟨σ1, a1, a2, a3⟩ := c1 (f := 5) (e := e + 1) x (by omega) b2
    have y3 := a2.2.2.2.1
    have y5 := a2.2.2.2.2.2.1
    obtain ⟨σ2, d1, d2, d3⟩ := cC (f := 4) (e := e + 1) (by omega) hk (quoP_le n a) a2 (nI a)
    have d1 : f_X1_calls 8 80 (nI 5) (nI a) (nI (e + 1)) σ1 = _ := d1
    refine ⟨quoV x n a + kalV 5 (nI a) (nI n), σ2, ?_, fun _ => rfl, d2, Fr_tr b3 (Fr_tr a3 d3)⟩
    show F_X1_shares (f_X1_shares (5 + 2)) 80 (nI 5) x (nI e) σ = _
    simp (disch := omega) only [F_X1_shares, nI_lit, nI_eqE, nI_ltE, nI_addE, bd1_s, bd2_s, onrN, onrS, grd_t, grd_T, ltT, ltF, leT, leF, eqT, eqF, ↓reduceIte, a1, b1, y3, y5, d1]
theorem tC0 {k n a f e : Nat} {t : List Nat} (he : e ≤ 15) (hk : k ≤ 5) (T : TC 0 t k n a σ) (x : Int32) : ∃ σ', f_X1_tells (f + 1) 80 (nI 0) x (nI e) σ = some (herV k x (nI n) (nI a) ^^^ nI a, σ') ∧ TC 0 (herB k (push 0 t 13)) k n a σ' ∧ Fr WC σ σ' := by
  obtain ⟨σ0, b1, b2, b3⟩ := bgC (by omega) T 13
  obtain ⟨σ1, a1, a2, a3⟩ := hC (e := e + 1) (by omega) hk b2 x
  have y := b2.2.2.2.1
  have y5 := a2.2.2.2.2.2.1
  refine ⟨σ1, ?_, a2, Fr_tr b3 a3⟩
  show F_X1_tells (f_X1_tells f) 80 (nI 0) x (nI e) σ = _
  unfold F_X1_tells
  rw [if_pos (dep_lt (by omega)), if_pos (show nI 0 = (0 : Int32) from rfl), nI_lit 13, b1, bd1_s, nI_lit 1, nI_addE, y, a1, bd2_s, y5]
theorem tC {k n a e : Nat} {t : List Nat} (he : e ≤ 10) (hk : k ≤ 5) (hn : n ≤ 9) (ha : a ≤ 9) (T : TC 0 t k n a σ) (x : Int32) : ∃ w σ', f_X1_tells 8 80 (nI k) x (nI e) σ = some (w, σ') ∧ (telP k n a = 0 → w = telV k x n a) ∧ TC (telP k n a) (telB k n a t) k n a σ' ∧ Fr WC σ σ' := by
  have c1 : ∀ {f e : Nat} {t : List Nat} {σ : Mem}, e ≤ 12 → TC 0 t k n a σ → ∃ σ', f_X1_tells (f + 2) 80 (nI 1) x (nI e) σ = some (herV k x (nI n) (nI a) ^^^ nI a, σ') ∧ TC 0 (herB k (push 0 t 13)) k n a σ' ∧ Fr WC σ σ' := fun {f e t σ} he T => by
    obtain ⟨σ1, a1, a2, a3⟩ := tC0 (f := f) (e := e + 1) (by omega) hk T x
    refine ⟨σ1, ?_, a2, a3⟩
    show F_X1_tells (f_X1_tells (f + 1)) 80 (nI 1) x (nI e) σ = _
    simp (disch := omega) only [F_X1_tells, f_X9_kindAbove, nI_lit, nI_eqE, nI_ltE, nI_addE, bd1_s, bd2_s, onrN, onrS, grd_t, grd_T, ltT, ltF, leT, leF, eqT, eqF, ↓reduceIte, a1]
  have c2 : ∀ {f e : Nat} {t : List Nat} {σ : Mem}, e ≤ 12 → TC 0 t k n a σ → ∃ w σ', f_X1_tells (f + 2) 80 (nI 2) x (nI e) σ = some (w, σ') ∧ (quoP n a = 0 → w = (herV k x (nI n) (nI a) ^^^ nI a) + shaV k (nI n) n a) ∧ TC (quoP n a) (shaB k n a (herB k (push 0 (push 0 t 31) 13))) k n a σ' ∧ Fr WC σ σ' := fun {f e t σ} he T => by
    obtain ⟨σ0, b1, b2, b3⟩ := bgC (by omega) T 31
    obtain ⟨σ1, a1, a2, a3⟩ := tC0 (f := f) (e := e + 1) (by omega) hk b2 x
    have y3 := a2.2.2.2.1
    have y4 := a2.2.2.2.2.1
    obtain ⟨w, σ2, d1, d2, d3, d4⟩ := sC (e := e + 1) (by omega) hk hn ha a2 (nI n)
    refine ⟨(herV k x (nI n) (nI a) ^^^ nI a) + w, σ2, ?_, fun z => by rw [d2 z], d3, Fr_tr b3 (Fr_tr a3 d4)⟩
    show F_X1_tells (f_X1_tells (f + 1)) 80 (nI 2) x (nI e) σ = _
    simp (disch := omega) only [F_X1_tells, nI_lit, nI_eqE, nI_ltE, nI_addE, bd1_s, bd2_s, onrN, onrS, grd_t, grd_T, ltT, ltF, leT, leF, eqT, eqF, ↓reduceIte, a1, b1, y3, y4, d1]
  have hk' : k = 0 ∨ k = 1 ∨ k = 2 ∨ k = 3 ∨ k = 4 ∨ k = 5 := by omega
  rcases hk' with rfl | rfl | rfl | rfl | rfl | rfl
  · rw [telBz (by omega), telVz (by omega), telPz (by omega)]
    obtain ⟨σ1, a1, a2, a3⟩ := tC0 (f := 7) (e := e) (by omega) hk T x
    exact ⟨_, σ1, a1, fun _ => rfl, a2, a3⟩
  · rw [telBz (by omega), telVz (by omega), telPz (by omega)]
    obtain ⟨σ1, a1, a2, a3⟩ := c1 (f := 6) (e := e) (by omega) T
    exact ⟨_, σ1, a1, fun _ => rfl, a2, a3⟩
  · rw [telBe (by omega), telVe (by omega), telPe (by omega)]
    obtain ⟨w, σ1, a1, a2, a3, a4⟩ := c2 (f := 6) (e := e) (by omega) T
    exact ⟨w, σ1, a1, a2, a3, a4⟩
  · rw [telBz (by omega), telVz (by omega), telPz (by omega)]
    obtain ⟨σ1, a1, a2, a3⟩ := c1 (f := 5) (e := e + 1) (by omega) T
    refine ⟨_, σ1, ?_, fun _ => rfl, a2, a3⟩
    show F_X1_tells (f_X1_tells (5 + 2)) 80 (nI 3) x (nI e) σ = _
    simp (disch := omega) only [F_X1_tells, f_X9_kindAbove, nI_lit, nI_eqE, nI_ltE, nI_addE, bd1_s, bd2_s, onrN, onrS, grd_t, grd_T, ltT, ltF, leT, leF, eqT, eqF, ↓reduceIte, a1]
  · rw [telBe (by omega), telVe (by omega), telPe (by omega)]
    obtain ⟨w, σ1, a1, a2, a3, a4⟩ := c2 (f := 5) (e := e + 1) (by omega) T
    refine ⟨w, σ1, ?_, a2, a3, a4⟩
    show F_X1_tells (f_X1_tells (5 + 2)) 80 (nI 4) x (nI e) σ = _
    simp (disch := omega) only [F_X1_tells, f_X9_kindAbove, nI_lit, nI_eqE, nI_ltE, nI_addE, bd1_s, bd2_s, onrN, onrS, grd_t, grd_T, ltT, ltF, leT, leF, eqT, eqF, ↓reduceIte, a1]
  · rw [telB5, telV5, telPz (by omega)]
    obtain ⟨σ0, b1, b2, b3⟩ := bgC (by omega) T 60
    obtain ⟨σ1, a1, a2, a3⟩ := c1 (f := 5) (e := e + 1) (by omega) b2
    refine ⟨_, σ1, ?_, fun _ => rfl, a2, Fr_tr b3 a3⟩
    show F_X1_tells (f_X1_tells (5 + 2)) 80 (nI 5) x (nI e) σ = _
    simp (disch := omega) only [F_X1_tells, nI_lit, nI_eqE, nI_ltE, nI_addE, bd1_s, bd2_s, onrN, onrS, grd_t, grd_T, ltT, ltF, leT, leF, eqT, eqF, ↓reduceIte, a1, b1]
/-! the other side -/
theorem cM0 {p k n a : Nat} {t : List Nat} (T : TM p t k n a σ) (x : Int32) : ∃ σ', f_X10_plainCalls 94 x σ = some (x + nI n, σ') ∧ TM p (push 0 t 10) k n a σ' ∧ Fr WM σ σ' := by
  obtain ⟨σ1, a1, a2, a3⟩ := bgM T 10
  refine ⟨σ1, ?_, a2, a3⟩
  unfold f_X10_plainCalls
  rw [nI_lit 10, a1, bd1_s, a2.2.2.2.2.1]
theorem cM2 {p k n a : Nat} {t : List Nat} (T : TM p t k n a σ) (x : Int32) : ∃ σ', f_X10_leaperCalls 94 x σ = some ((x + nI n) * nI 3, σ') ∧ TM p (push 0 (push 0 t 30) 10) k n a σ' ∧ Fr WM σ σ' := by
  obtain ⟨σ0, b1, b2, b3⟩ := bgM T 30
  obtain ⟨σ1, a1, a2, a3⟩ := cM0 b2 x
  refine ⟨σ1, ?_, a2, Fr_tr b3 a3⟩
  unfold f_X10_leaperCalls
  rw [nI_lit 30, b1, bd1_s, a1, bd2_s]
  rfl
theorem cM {p k n a : Nat} {t : List Nat} (hk : k ≤ 5) (T : TM p t k n a σ) (x : Int32) : ∃ σ', f_X10_callsIt 94 x σ = some (kalV k x (nI n), σ') ∧ TM p (kalB 0 k t) k n a σ' ∧ Fr WM σ σ' := by
  have y := T.2.2.2.1
  have hk' : k = 0 ∨ k = 1 ∨ k = 2 ∨ k = 3 ∨ k = 4 ∨ k = 5 := by omega
  rcases hk' with rfl | rfl | rfl | rfl | rfl | rfl
  · obtain ⟨σ1, a1, a2, a3⟩ := cM0 T x
    refine ⟨σ1, ?_, a2, a3⟩
    simp (disch := omega) only [f_X10_callsIt, nI_lit, nI_eqE, bd1_s, bd2_s, onrN, onrS, grd_t, grd_T, ltT, ltF, leT, leF, eqT, eqF, ↓reduceIte, y, a1]
    rfl
  · obtain ⟨σ1, a1, a2, a3⟩ := cM0 T x
    refine ⟨σ1, ?_, a2, a3⟩
    simp (disch := omega) only [f_X10_callsIt, nI_lit, nI_eqE, bd1_s, bd2_s, onrN, onrS, grd_t, grd_T, ltT, ltF, leT, leF, eqT, eqF, ↓reduceIte, y, a1]
    rfl
  · obtain ⟨σ1, a1, a2, a3⟩ := cM2 T x
    refine ⟨σ1, ?_, a2, a3⟩
    simp (disch := omega) only [f_X10_callsIt, nI_lit, nI_eqE, bd1_s, bd2_s, onrN, onrS, grd_t, grd_T, ltT, ltF, leT, leF, eqT, eqF, ↓reduceIte, y, a1]
    rfl
  · obtain ⟨σ0, b1, b2, b3⟩ := bgM T 51
    obtain ⟨σ1, a1, a2, a3⟩ := cM0 b2 x
    have z := a2.2.2.2.2.1
    refine ⟨σ1, ?_, a2, Fr_tr b3 a3⟩
    simp (disch := omega) only [f_X10_callsIt, nI_lit, nI_eqE, bd1_s, bd2_s, onrN, onrS, grd_t, grd_T, ltT, ltF, leT, leF, eqT, eqF, ↓reduceIte, y, b1, a1, z]
    rfl
  · obtain ⟨σ0, b1, b2, b3⟩ := bgM T 40
    obtain ⟨σ1, a1, a2, a3⟩ := cM2 b2 x
    refine ⟨σ1, ?_, a2, Fr_tr b3 a3⟩
    simp (disch := omega) only [f_X10_callsIt, nI_lit, nI_eqE, bd1_s, bd2_s, onrN, onrS, grd_t, grd_T, ltT, ltF, leT, leF, eqT, eqF, ↓reduceIte, y, b1, a1]
    rfl
  · obtain ⟨σ1, a1, a2, a3⟩ := cM0 T x
    refine ⟨σ1, ?_, a2, a3⟩
    simp (disch := omega) only [f_X10_callsIt, nI_lit, nI_eqE, bd1_s, bd2_s, onrN, onrS, grd_t, grd_T, ltT, ltF, leT, leF, eqT, eqF, ↓reduceIte, y, a1]
    rfl
theorem hM0 {k n a : Nat} {t : List Nat} (hk : k ≤ 5) (T : TM 0 t k n a σ) (x : Int32) : ∃ σ', f_X10_plainHears 94 x σ = some (kalV k x (nI n) * nI 2, σ') ∧ TM 0 (kalB 0 k (push 0 t 11)) k n a σ' ∧ Fr WM σ σ' := by
  obtain ⟨σ0, b1, b2, b3⟩ := bgM T 11
  obtain ⟨σ1, a1, a2, a3⟩ := cM hk b2 x
  refine ⟨σ1, ?_, a2, Fr_tr b3 a3⟩
  unfold f_X10_plainHears
  rw [nI_lit 11, b1, bd1_s, a1, bd2_s]
  rfl
theorem hM {k n a : Nat} {t : List Nat} (hk : k ≤ 5) (T : TM 0 t k n a σ) (x : Int32) : ∃ σ', f_X10_hearsIt 94 x σ = some (herV k x (nI n) (nI a), σ') ∧ TM 0 (herB k t) k n a σ' ∧ Fr WM σ σ' := by
  have y := T.2.2.2.1
  have c20 : (k = 1 ∨ k = 3 ∨ k = 5) → ∃ σ', f_X10_hearsIt 94 x σ = some (kalV k x (nI n) * nI 2 - nI a, σ') ∧ TM 0 (kalB 0 k (push 0 (push 0 t 20) 11)) k n a σ' ∧ Fr WM σ σ' := fun e => by
    obtain ⟨σ0, b1, b2, b3⟩ := bgM T 20
    obtain ⟨σ1, a1, a2, a3⟩ := hM0 hk b2 x
    have z := a2.2.2.2.2.2.1
    refine ⟨σ1, ?_, a2, Fr_tr b3 a3⟩
    rcases e with rfl | rfl | rfl <;> simp (disch := omega) only [f_X10_hearsIt, nI_lit, nI_eqE, bd1_s, bd2_s, onrN, onrS, grd_t, grd_T, ltT, ltF, leT, leF, eqT, eqF, ↓reduceIte, y, b1, a1, z]
  have c0 : (k = 0 ∨ k = 2) → ∃ σ', f_X10_hearsIt 94 x σ = some (kalV k x (nI n) * nI 2, σ') ∧ TM 0 (kalB 0 k (push 0 t 11)) k n a σ' ∧ Fr WM σ σ' := fun e => by
    obtain ⟨σ1, a1, a2, a3⟩ := hM0 hk T x
    refine ⟨σ1, ?_, a2, a3⟩
    rcases e with rfl | rfl <;> simp (disch := omega) only [f_X10_hearsIt, nI_lit, nI_eqE, bd1_s, bd2_s, onrN, onrS, grd_t, grd_T, ltT, ltF, leT, leF, eqT, eqF, ↓reduceIte, y, a1]
  have hk' : k = 0 ∨ k = 1 ∨ k = 2 ∨ k = 3 ∨ k = 4 ∨ k = 5 := by omega
  rcases hk' with rfl | rfl | rfl | rfl | rfl | rfl
  · rw [herBz (by omega), herVz (by omega)]; exact c0 (by omega)
  · rw [herBo (by omega), herVo (by omega)]; exact c20 (by omega)
  · rw [herBz (by omega), herVz (by omega)]; exact c0 (by omega)
  · rw [herBo (by omega), herVo (by omega)]; exact c20 (by omega)
  · rw [herB4, herV4]
    obtain ⟨σ0, b1, b2, b3⟩ := bgM T 41
    obtain ⟨σ1, a1, a2, a3⟩ := hM0 hk b2 x
    have z := a2.2.2.2.2.1
    obtain ⟨σ2, d1, d2, d3⟩ := cM hk a2 (nI n)
    refine ⟨σ2, ?_, d2, Fr_tr b3 (Fr_tr a3 d3)⟩
    simp (disch := omega) only [f_X10_hearsIt, nI_lit, nI_eqE, bd1_s, bd2_s, onrN, onrS, grd_t, grd_T, ltT, ltF, leT, leF, eqT, eqF, ↓reduceIte, y, b1, a1, z, d1]
  · rw [herBo (by omega), herVo (by omega)]; exact c20 (by omega)
theorem sM0 {k n a : Nat} {t : List Nat} (hn : n ≤ 9) (ha : a ≤ 9) (T : TM 0 t k n a σ) (x : Int32) : ∃ σ', f_X10_plainShares 94 x σ = some (quoV x n a, σ') ∧ TM (quoP n a) (push 0 t 12) k n a σ' ∧ Fr WM σ σ' := by
  obtain ⟨σ0, b1, b2, b3⟩ := bgM T 12
  obtain ⟨h0, h1, h2, h3, h4, h5, h6⟩ := id b2
  have z := sub0 (n := n) (a := a) (by omega) (by omega)
  unfold quoV quoP f_X10_plainShares
  rw [nI_lit 12, b1, bd1_s, h4, h5]
  by_cases e : a = n
  · rw [if_pos e, if_pos e, if_pos (by rw [e])]
    refine ⟨pI σ0 94 57 (nI 1), rfl, ⟨h0, ?_, ?_, ?_, ?_, ?_, fun j hj => ?_⟩, Fr_pI _ b3 (by unfold WM; omega)⟩
    · simp (disch := omega) only [gI_eq, gI_ne, gL_pI, gI_pL]; exact h1
    · simp (disch := omega) only [gI_eq, gI_ne, gL_pI, gI_pL]
    · simp (disch := omega) only [gI_eq, gI_ne, gL_pI, gI_pL]; exact h3
    · simp (disch := omega) only [gI_eq, gI_ne, gL_pI, gI_pL]; exact h4
    · simp (disch := omega) only [gI_eq, gI_ne, gL_pI, gI_pL]; exact h5
    · simp (disch := omega) only [gI_eq, gI_ne, gL_pI, gI_pL]; exact h6 j hj
  · have nz : ¬ (nI a - nI n = (0 : Int32)) := by rw [nI_lit 0, z]; exact e
    rw [if_neg e, if_neg e, if_neg (by rw [nI_eqE (by omega) (by omega)]; exact e)]
    refine ⟨σ0, ?_, b2, b3⟩
    rw [grd_t nz]
theorem sM {k n a : Nat} {t : List Nat} (hk : k ≤ 5) (hn : n ≤ 9) (ha : a ≤ 9) (T : TM 0 t k n a σ) (x : Int32) : ∃ w σ', f_X10_sharesIt 94 x σ = some (w, σ') ∧ (quoP n a = 0 → w = shaV k x n a) ∧ TM (quoP n a) (shaB k n a t) k n a σ' ∧ Fr WM σ σ' := by
  have y := T.2.2.2.1
  have c0 : (k = 0 ∨ k = 1 ∨ k = 2 ∨ k = 4) → ∃ σ', f_X10_sharesIt 94 x σ = some (quoV x n a, σ') ∧ TM (quoP n a) (push 0 t 12) k n a σ' ∧ Fr WM σ σ' := fun e => by
    obtain ⟨σ1, a1, a2, a3⟩ := sM0 hn ha T x
    refine ⟨σ1, ?_, a2, a3⟩
    rcases e with rfl | rfl | rfl | rfl <;> simp (disch := omega) only [f_X10_sharesIt, nI_lit, nI_eqE, bd1_s, bd2_s, onrN, onrS, grd_t, grd_T, ltT, ltF, leT, leF, eqT, eqF, ↓reduceIte, y, a1]
  have hk' : k = 0 ∨ k = 1 ∨ k = 2 ∨ k = 3 ∨ k = 4 ∨ k = 5 := by omega
  rcases hk' with rfl | rfl | rfl | rfl | rfl | rfl
  · rw [shaBz (by omega), shaVz (by omega)]; obtain ⟨σ1, a1, a2, a3⟩ := c0 (by omega); exact ⟨_, σ1, a1, fun _ => rfl, a2, a3⟩
  · rw [shaBz (by omega), shaVz (by omega)]; obtain ⟨σ1, a1, a2, a3⟩ := c0 (by omega); exact ⟨_, σ1, a1, fun _ => rfl, a2, a3⟩
  · rw [shaBz (by omega), shaVz (by omega)]; obtain ⟨σ1, a1, a2, a3⟩ := c0 (by omega); exact ⟨_, σ1, a1, fun _ => rfl, a2, a3⟩
  · rw [shaB3, shaV3]
    obtain ⟨σ0, b1, b2, b3⟩ := bgM T 50
    obtain ⟨σ1, a1, a2, a3⟩ := sM0 hn ha b2 (x + nI 2)
    refine ⟨quoV (x + nI 2) n a ^^^ nI 1, σ1, ?_, fun _ => rfl, a2, Fr_tr b3 a3⟩
    simp (disch := omega) only [f_X10_sharesIt, nI_lit, nI_eqE, bd1_s, bd2_s, onrN, onrS, grd_t, grd_T, ltT, ltF, leT, leF, eqT, eqF, ↓reduceIte, y, b1, a1]
  · rw [shaBz (by omega), shaVz (by omega)]; obtain ⟨σ1, a1, a2, a3⟩ := c0 (by omega); exact ⟨_, σ1, a1, fun _ => rfl, a2, a3⟩
  · rw [shaB5, shaV5]
    obtain ⟨σ0, b1, b2, b3⟩ := bgM T 61
    obtain ⟨σ1, a1, a2, a3⟩ := sM0 hn ha b2 x
    have z7 := a2.2.2.1
    have z4 := a2.2.2.2.2.2.1
    have qle := quoP_le n a
    by_cases e : quoP n a = 0
    · rw [e] at a2 z7
      obtain ⟨σ2, d1, d2, d3⟩ := cM hk a2 (nI a)
      refine ⟨quoV x n a + kalV 5 (nI a) (nI n), σ2, ?_, fun _ => rfl, ?_, Fr_tr b3 (Fr_tr a3 d3)⟩
      · simp (disch := omega) only [f_X10_sharesIt, nI_lit, nI_eqE, bd1_s, bd2_s, onrN, onrS, grd_t, grd_T, ltT, ltF, leT, leF, eqT, eqF, ↓reduceIte, y, b1, a1, z7, z4, d1]
      · rw [e]; exact d2
    · have e1 : quoP n a = 1 := by omega
      rw [e1] at a2 z7
      refine ⟨nI 0, σ1, ?_, fun c => absurd c e, ?_, Fr_tr b3 a3⟩
      · simp (disch := omega) only [f_X10_sharesIt, nI_lit, nI_eqE, bd1_s, bd2_s, onrN, onrS, grd_t, grd_T, ltT, ltF, leT, leF, eqT, eqF, ↓reduceIte, y, b1, a1, z7]
      · rw [e1, kalB1]; exact a2
theorem tM0 {k n a : Nat} {t : List Nat} (hk : k ≤ 5) (T : TM 0 t k n a σ) (x : Int32) : ∃ σ', f_X10_plainTells 94 x σ = some (herV k x (nI n) (nI a) ^^^ nI a, σ') ∧ TM 0 (herB k (push 0 t 13)) k n a σ' ∧ Fr WM σ σ' := by
  obtain ⟨σ0, b1, b2, b3⟩ := bgM T 13
  obtain ⟨σ1, a1, a2, a3⟩ := hM hk b2 x
  have z := a2.2.2.2.2.2.1
  refine ⟨σ1, ?_, a2, Fr_tr b3 a3⟩
  unfold f_X10_plainTells
  rw [nI_lit 13, b1, bd1_s, a1, bd2_s, z]
theorem tM {k n a : Nat} {t : List Nat} (hk : k ≤ 5) (hn : n ≤ 9) (ha : a ≤ 9) (T : TM 0 t k n a σ) (x : Int32) : ∃ w σ', f_X10_tellsIt 94 x σ = some (w, σ') ∧ (telP k n a = 0 → w = telV k x n a) ∧ TM (telP k n a) (telB k n a t) k n a σ' ∧ Fr WM σ σ' := by
  have y := T.2.2.2.1
  have c0 : (k = 0 ∨ k = 1 ∨ k = 3) → ∃ σ', f_X10_tellsIt 94 x σ = some (herV k x (nI n) (nI a) ^^^ nI a, σ') ∧ TM 0 (herB k (push 0 t 13)) k n a σ' ∧ Fr WM σ σ' := fun e => by
    obtain ⟨σ1, a1, a2, a3⟩ := tM0 hk T x
    refine ⟨σ1, ?_, a2, a3⟩
    rcases e with rfl | rfl | rfl <;> simp (disch := omega) only [f_X10_tellsIt, nI_lit, nI_eqE, bd1_s, bd2_s, onrN, onrS, grd_t, grd_T, ltT, ltF, leT, leF, eqT, eqF, ↓reduceIte, y, a1]
  have c31 : (k = 2 ∨ k = 4) → ∃ w σ', f_X10_tellsIt 94 x σ = some (w, σ') ∧ (quoP n a = 0 → w = (herV k x (nI n) (nI a) ^^^ nI a) + shaV k (nI n) n a) ∧ TM (quoP n a) (shaB k n a (herB k (push 0 (push 0 t 31) 13))) k n a σ' ∧ Fr WM σ σ' := fun e => by
    obtain ⟨σ0, b1, b2, b3⟩ := bgM T 31
    obtain ⟨σ1, a1, a2, a3⟩ := tM0 hk b2 x
    have z := a2.2.2.2.2.1
    obtain ⟨w, σ2, d1, d2, d3, d4⟩ := sM hk hn ha a2 (nI n)
    refine ⟨(herV k x (nI n) (nI a) ^^^ nI a) + w, σ2, ?_, fun e => by rw [d2 e], d3, Fr_tr b3 (Fr_tr a3 d4)⟩
    rcases e with rfl | rfl <;> simp (disch := omega) only [f_X10_tellsIt, nI_lit, nI_eqE, bd1_s, bd2_s, onrN, onrS, grd_t, grd_T, ltT, ltF, leT, leF, eqT, eqF, ↓reduceIte, y, b1, a1, z, d1]
  have hk' : k = 0 ∨ k = 1 ∨ k = 2 ∨ k = 3 ∨ k = 4 ∨ k = 5 := by omega
  rcases hk' with rfl | rfl | rfl | rfl | rfl | rfl
  · rw [telBz (by omega), telVz (by omega), telPz (by omega)]; obtain ⟨σ1, a1, a2, a3⟩ := c0 (by omega); exact ⟨_, σ1, a1, fun _ => rfl, a2, a3⟩
  · rw [telBz (by omega), telVz (by omega), telPz (by omega)]; obtain ⟨σ1, a1, a2, a3⟩ := c0 (by omega); exact ⟨_, σ1, a1, fun _ => rfl, a2, a3⟩
  · rw [telBe (by omega), telVe (by omega), telPe (by omega)]; exact c31 (by omega)
  · rw [telBz (by omega), telVz (by omega), telPz (by omega)]; obtain ⟨σ1, a1, a2, a3⟩ := c0 (by omega); exact ⟨_, σ1, a1, fun _ => rfl, a2, a3⟩
  · rw [telBe (by omega), telVe (by omega), telPe (by omega)]; exact c31 (by omega)
  · rw [telB5, telV5, telPz (by omega)]
    obtain ⟨σ0, b1, b2, b3⟩ := bgM T 60
    obtain ⟨σ1, a1, a2, a3⟩ := tM0 hk b2 x
    refine ⟨_, σ1, ?_, fun _ => rfl, a2, Fr_tr b3 a3⟩
    simp (disch := omega) only [f_X10_tellsIt, nI_lit, nI_eqE, bd1_s, bd2_s, onrN, onrS, grd_t, grd_T, ltT, ltF, leT, leF, eqT, eqF, ↓reduceIte, y, b1, a1]
end
