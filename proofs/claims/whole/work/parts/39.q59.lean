/-! acts -/
def push (p : Nat) (t : List Nat) (b : Nat) : List Nat := if p = 0 then (if t.length < 30 then t ++ [b] else t) else t
def TC (p : Nat) (t : List Nat) (k n a : Nat) (σ : Mem) : Prop := t.length ≤ 30 ∧ gI σ 80 1 = nI t.length ∧ gI σ 80 2 = nI p ∧ gI σ 80 3 = nI k ∧ gI σ 80 4 = nI n ∧ gI σ 80 5 = nI a ∧ ∀ j, j < t.length → gI σ 81 j = nI (t.getD j 0)
def TM (p : Nat) (t : List Nat) (k n a : Nat) (σ : Mem) : Prop := t.length ≤ 30 ∧ gI σ 94 56 = nI t.length ∧ gI σ 94 57 = nI p ∧ gI σ 94 52 = nI k ∧ gI σ 94 53 = nI n ∧ gI σ 94 54 = nI a ∧ ∀ j, j < t.length → gI σ 124 j = nI (t.getD j 0)
def WC (k i : Nat) : Prop := (k = 80 ∧ (i = 1 ∨ i = 2)) ∨ k = 81
def WM (k i : Nat) : Prop := (k = 94 ∧ (i = 56 ∨ i = 57)) ∨ k = 124
def kalV (k : Nat) (x n : Int32) : Int32 := if k = 2 then (x + n) * nI 3 else if k = 3 then x + n - n else if k = 4 then nI 0 - (x + n) * nI 3 else x + n
def kalB (p k : Nat) (t : List Nat) : List Nat := if k = 2 then push p (push p t 30) 10 else if k = 3 then push p (push p t 51) 10 else if k = 4 then push p (push p (push p t 40) 30) 10 else push p t 10
def herV (k : Nat) (x n a : Int32) : Int32 := if k = 4 then kalV k x n * nI 2 + kalV k n n else if k = 1 ∨ k = 3 ∨ k = 5 then kalV k x n * nI 2 - a else kalV k x n * nI 2
def herB (k : Nat) (t : List Nat) : List Nat := if k = 4 then kalB 0 k (kalB 0 k (push 0 (push 0 t 41) 11)) else if k = 1 ∨ k = 3 ∨ k = 5 then kalB 0 k (push 0 (push 0 t 20) 11) else kalB 0 k (push 0 t 11)
def quoV (x : Int32) (n a : Nat) : Int32 := if a = n then nI 0 else x / (nI a - nI n)
def quoP (n a : Nat) : Nat := if a = n then 1 else 0
def shaV (k : Nat) (x : Int32) (n a : Nat) : Int32 := if k = 3 then quoV (x + nI 2) n a ^^^ nI 1 else if k = 5 then quoV x n a + kalV k (nI a) (nI n) else quoV x n a
def shaB (k n a : Nat) (t : List Nat) : List Nat := if k = 3 then push 0 (push 0 t 50) 12 else if k = 5 then kalB (quoP n a) k (push 0 (push 0 t 61) 12) else push 0 t 12
theorem herB4 (t : List Nat) : herB 4 t = kalB 0 4 (kalB 0 4 (push 0 (push 0 t 41) 11)) := if_pos rfl
theorem herBo {k : Nat} (e : k = 1 ∨ k = 3 ∨ k = 5) (t : List Nat) : herB k t = kalB 0 k (push 0 (push 0 t 20) 11) := by
  unfold herB
  rw [if_neg (by omega), if_pos e]
theorem herBz {k : Nat} (e : k = 0 ∨ k = 2) (t : List Nat) : herB k t = kalB 0 k (push 0 t 11) := by
  unfold herB
  rw [if_neg (by omega), if_neg (by omega)]
theorem herV4 (x n a : Int32) : herV 4 x n a = kalV 4 x n * nI 2 + kalV 4 n n := if_pos rfl
theorem herVo {k : Nat} (e : k = 1 ∨ k = 3 ∨ k = 5) (x n a : Int32) : herV k x n a = kalV k x n * nI 2 - a := by
  unfold herV
  rw [if_neg (by omega), if_pos e]
theorem herVz {k : Nat} (e : k = 0 ∨ k = 2) (x n a : Int32) : herV k x n a = kalV k x n * nI 2 := by
  unfold herV
  rw [if_neg (by omega), if_neg (by omega)]
theorem shaBz {k : Nat} (e : k ≠ 3 ∧ k ≠ 5) (n a : Nat) (t : List Nat) : shaB k n a t = push 0 t 12 := by
  unfold shaB
  rw [if_neg e.1, if_neg e.2]
theorem shaVz {k : Nat} (e : k ≠ 3 ∧ k ≠ 5) (x : Int32) (n a : Nat) : shaV k x n a = quoV x n a := by
  unfold shaV
  rw [if_neg e.1, if_neg e.2]
theorem shaB3 (n a : Nat) (t : List Nat) : shaB 3 n a t = push 0 (push 0 t 50) 12 := if_pos rfl
theorem shaV3 (x : Int32) (n a : Nat) : shaV 3 x n a = quoV (x + nI 2) n a ^^^ nI 1 := if_pos rfl
theorem shaB5 (n a : Nat) (t : List Nat) : shaB 5 n a t = kalB (quoP n a) 5 (push 0 (push 0 t 61) 12) := by
  unfold shaB
  rw [if_neg (by omega), if_pos rfl]
theorem shaV5 (x : Int32) (n a : Nat) : shaV 5 x n a = quoV x n a + kalV 5 (nI a) (nI n) := by
  unfold shaV
  rw [if_neg (by omega), if_pos rfl]
theorem kalB1 {k : Nat} (t : List Nat) : kalB 1 k t = t := by
  unfold kalB push
  repeat' split
  all_goals first | rfl | omega
section
variable {q : HQ} {σ σ' : Mem} {h o b v l s : Nat}
theorem getD_app (t : List Nat) (x j : Nat) : (t ++ [x]).getD j 0 = if j < t.length then t.getD j 0 else if j = t.length then x else 0 := by
  rw [List.getD_eq_getElem?_getD, List.getD_eq_getElem?_getD]
  by_cases e : j < t.length
  · rw [if_pos e, List.getElem?_append_left e]
  · rw [if_neg e, List.getElem?_append_right (by omega)]
    by_cases g : j = t.length
    · rw [if_pos g, g, Nat.sub_self]; rfl
    · rw [if_neg g]
      have : (([x] : List Nat)[j - t.length]?) = none := List.getElem?_eq_none (by show 1 ≤ _; omega)
      rw [this]; rfl
theorem push_len {p : Nat} {t : List Nat} {b : Nat} (h : t.length ≤ 30) : (push p t b).length ≤ 30 := by
  unfold push
  split
  · split
    · rw [List.length_append]; show _ + 1 ≤ 30; omega
    · exact h
  · exact h
theorem bgC {p k n a : Nat} {t : List Nat} (hp : p ≤ 1) (T : TC p t k n a σ) (b : Nat) : ∃ σ', f_X1_begin 80 (nI b) σ = some σ' ∧ TC p (push p t b) k n a σ' ∧ Fr WC σ σ' := by
  obtain ⟨h0, h1, h2, h3, h4, h5, h6⟩ := T
  unfold f_X1_begin push
  by_cases e : p = 0
  · rw [if_pos e]
    by_cases g : t.length < 30
    · rw [if_pos g]
      have i1 : ixo 81 (nI t.length) = some t.length := ixo_81 (by omega)
      refine ⟨pI (pI σ 81 t.length (nI b)) 80 1 (nI (t.length + 1)), ?_, ⟨?_, ?_, ?_, ?_, ?_, ?_, fun j hj => ?_⟩, Fr_pI _ (Fr_pI _ (Fr_rfl _ _) (by unfold WC; omega)) (by unfold WC; omega)⟩
      · simp (disch := omega) only [nI_lit, nI_addE, nI_mulE, nI_ltE, nI_leE, nI_eqE, nI_eqN, nI_Neq, nI_ltN, nI_Nlt, nI_leN, nI_Nle, nI_NeN, nI_subE, bd1_s, bd2_s, onrN, onrS, grd_t, grd_T, gI_eq, gI_ne, gL_pI, gI_pL, ltT, ltF, leT, leF, eqT, eqF, if_true, if_false, true_or, or_true, ite_true, ite_false, and_true, true_and, and_false, false_and, not_false_eq_true, not_true_eq_false, ↓reduceIte, in_eq, Nat.reduceAdd, Nat.reduceMul, Nat.zero_add, cE_f, cE_t, mE_f, mE_t, within_ok, ne_eq, h1, h2, i1]
      · rw [List.length_append]; show _ + 1 ≤ 30; omega
      · rw [List.length_append]; simp (disch := omega) only [gI_eq, gI_ne, gL_pI, gI_pL]; rfl
      · simp (disch := omega) only [gI_eq, gI_ne, gL_pI, gI_pL]; exact h2
      · simp (disch := omega) only [gI_eq, gI_ne, gL_pI, gI_pL]; exact h3
      · simp (disch := omega) only [gI_eq, gI_ne, gL_pI, gI_pL]; exact h4
      · simp (disch := omega) only [gI_eq, gI_ne, gL_pI, gI_pL]; exact h5
      · rw [List.length_append] at hj
        have hj : j < t.length + 1 := hj
        rw [getD_app]
        by_cases z : j < t.length
        · rw [if_pos z]; simp (disch := omega) only [gI_eq, gI_ne, gL_pI, gI_pL]; exact h6 j z
        · rw [if_neg z, if_pos (by omega)]; simp (disch := omega) only [gI_eq, gI_ne, gL_pI, gI_pL]
    · rw [if_neg g]
      refine ⟨σ, ?_, ⟨h0, h1, h2, h3, h4, h5, h6⟩, Fr_rfl _ _⟩
      simp (disch := omega) only [nI_lit, nI_addE, nI_mulE, nI_ltE, nI_leE, nI_eqE, nI_eqN, nI_Neq, nI_ltN, nI_Nlt, nI_leN, nI_Nle, nI_NeN, nI_subE, bd1_s, bd2_s, onrN, onrS, grd_t, grd_T, gI_eq, gI_ne, gL_pI, gI_pL, ltT, ltF, leT, leF, eqT, eqF, if_true, if_false, true_or, or_true, ite_true, ite_false, and_true, true_and, and_false, false_and, not_false_eq_true, not_true_eq_false, ↓reduceIte, in_eq, Nat.reduceAdd, Nat.reduceMul, Nat.zero_add, cE_f, cE_t, mE_f, mE_t, within_ok, ne_eq, h1, h2]
  · rw [if_neg e]
    refine ⟨σ, ?_, ⟨h0, h1, h2, h3, h4, h5, h6⟩, Fr_rfl _ _⟩
    simp (disch := omega) only [nI_lit, nI_addE, nI_mulE, nI_ltE, nI_leE, nI_eqE, nI_eqN, nI_Neq, nI_ltN, nI_Nlt, nI_leN, nI_Nle, nI_NeN, nI_subE, bd1_s, bd2_s, onrN, onrS, grd_t, grd_T, gI_eq, gI_ne, gL_pI, gI_pL, ltT, ltF, leT, leF, eqT, eqF, if_true, if_false, true_or, or_true, ite_true, ite_false, and_true, true_and, and_false, false_and, not_false_eq_true, not_true_eq_false, ↓reduceIte, in_eq, Nat.reduceAdd, Nat.reduceMul, Nat.zero_add, cE_f, cE_t, mE_f, mE_t, within_ok, ne_eq, h2]
theorem bgM {p k n a : Nat} {t : List Nat} (T : TM p t k n a σ) (b : Nat) : ∃ σ', f_X10_ran 94 (nI b) σ = some σ' ∧ TM p (push 0 t b) k n a σ' ∧ Fr WM σ σ' := by
  obtain ⟨h0, h1, h2, h3, h4, h5, h6⟩ := T
  unfold f_X10_ran push
  rw [if_pos rfl]
  by_cases g : t.length < 30
  · rw [if_pos g]
    have i1 : ixo 124 (nI t.length) = some t.length := ixo_124 (by omega)
    refine ⟨pI (pI σ 124 t.length (nI b)) 94 56 (nI (t.length + 1)), ?_, ⟨?_, ?_, ?_, ?_, ?_, ?_, fun j hj => ?_⟩, Fr_pI _ (Fr_pI _ (Fr_rfl _ _) (by unfold WM; omega)) (by unfold WM; omega)⟩
    · simp (disch := omega) only [nI_lit, nI_addE, nI_mulE, nI_ltE, nI_leE, nI_eqE, nI_eqN, nI_Neq, nI_ltN, nI_Nlt, nI_leN, nI_Nle, nI_NeN, nI_subE, bd1_s, bd2_s, onrN, onrS, grd_t, grd_T, gI_eq, gI_ne, gL_pI, gI_pL, ltT, ltF, leT, leF, eqT, eqF, if_true, if_false, true_or, or_true, ite_true, ite_false, and_true, true_and, and_false, false_and, not_false_eq_true, not_true_eq_false, ↓reduceIte, in_eq, Nat.reduceAdd, Nat.reduceMul, Nat.zero_add, cE_f, cE_t, mE_f, mE_t, within_ok, ne_eq, h1, i1]
    · rw [List.length_append]; show _ + 1 ≤ 30; omega
    · rw [List.length_append]; simp (disch := omega) only [gI_eq, gI_ne, gL_pI, gI_pL]; rfl
    · simp (disch := omega) only [gI_eq, gI_ne, gL_pI, gI_pL]; exact h2
    · simp (disch := omega) only [gI_eq, gI_ne, gL_pI, gI_pL]; exact h3
    · simp (disch := omega) only [gI_eq, gI_ne, gL_pI, gI_pL]; exact h4
    · simp (disch := omega) only [gI_eq, gI_ne, gL_pI, gI_pL]; exact h5
    · rw [List.length_append] at hj
      have hj : j < t.length + 1 := hj
      rw [getD_app]
      by_cases z : j < t.length
      · rw [if_pos z]; simp (disch := omega) only [gI_eq, gI_ne, gL_pI, gI_pL]; exact h6 j z
      · rw [if_neg z, if_pos (by omega)]; simp (disch := omega) only [gI_eq, gI_ne, gL_pI, gI_pL]
  · rw [if_neg g]
    refine ⟨σ, ?_, ⟨h0, h1, h2, h3, h4, h5, h6⟩, Fr_rfl _ _⟩
    simp (disch := omega) only [nI_lit, nI_addE, nI_mulE, nI_ltE, nI_leE, nI_eqE, nI_eqN, nI_Neq, nI_ltN, nI_Nlt, nI_leN, nI_Nle, nI_NeN, nI_subE, bd1_s, bd2_s, onrN, onrS, grd_t, grd_T, gI_eq, gI_ne, gL_pI, gI_pL, ltT, ltF, leT, leF, eqT, eqF, if_true, if_false, true_or, or_true, ite_true, ite_false, and_true, true_and, and_false, false_and, not_false_eq_true, not_true_eq_false, ↓reduceIte, in_eq, Nat.reduceAdd, Nat.reduceMul, Nat.zero_add, cE_f, cE_t, mE_f, mE_t, within_ok, ne_eq, h1]
/-! one side; e: the depth that it carries -/
theorem dep_lt {e : Nat} (h : e ≤ 39) : nI e < (40 : Int32) := by
  rw [nI_lit 40, nI_ltE (by omega) (by omega)]
  omega
theorem cC0 {p k n a f e : Nat} {t : List Nat} (he : e ≤ 39) (hp : p ≤ 1) (T : TC p t k n a σ) (x : Int32) : ∃ σ', f_X1_calls (f + 1) 80 (nI 0) x (nI e) σ = some (x + nI n, σ') ∧ TC p (push p t 10) k n a σ' ∧ Fr WC σ σ' := by
  obtain ⟨σ1, a1, a2, a3⟩ := bgC hp T 10
  refine ⟨σ1, ?_, a2, a3⟩
  show F_X1_calls (f_X1_calls f) 80 (nI 0) x (nI e) σ = _
  unfold F_X1_calls
  rw [if_pos (dep_lt he), if_pos (show nI 0 = (0 : Int32) from rfl), nI_lit 10, a1, bd1_s, a2.2.2.2.2.1]
theorem cC {p k n a f e κ : Nat} {t : List Nat} (he : e ≤ 30) (hk : κ ≤ 5) (hp : p ≤ 1) (T : TC p t k n a σ) (x : Int32) : ∃ σ', f_X1_calls (f + 4) 80 (nI κ) x (nI e) σ = some (kalV κ x (nI n), σ') ∧ TC p (kalB p κ t) k n a σ' ∧ Fr WC σ σ' := by
  have hk : κ = 0 ∨ κ = 1 ∨ κ = 2 ∨ κ = 3 ∨ κ = 4 ∨ κ = 5 := by omega
  have c1 : ∀ {f e : Nat} {t : List Nat} {σ : Mem}, e ≤ 35 → TC p t k n a σ → ∃ σ', f_X1_calls (f + 2) 80 (nI 1) x (nI e) σ = some (x + nI n, σ') ∧ TC p (push p t 10) k n a σ' ∧ Fr WC σ σ' := fun {f e t σ} he T => by
    obtain ⟨σ1, a1, a2, a3⟩ := cC0 (f := f) (e := e + 1) (by omega) hp T x
    refine ⟨σ1, ?_, a2, a3⟩
    show F_X1_calls (f_X1_calls (f + 1)) 80 (nI 1) x (nI e) σ = _
    simp (disch := omega) only [F_X1_calls, f_X9_kindAbove, nI_lit, nI_eqE, nI_ltE, nI_addE, bd1_s, bd2_s, onrN, onrS, grd_t, grd_T, ltT, ltF, leT, leF, eqT, eqF, ↓reduceIte, a1]
  have c2 : ∀ {f e : Nat} {t : List Nat} {σ : Mem}, e ≤ 35 → TC p t k n a σ → ∃ σ', f_X1_calls (f + 2) 80 (nI 2) x (nI e) σ = some ((x + nI n) * nI 3, σ') ∧ TC p (push p (push p t 30) 10) k n a σ' ∧ Fr WC σ σ' := fun {f e t σ} he T => by
    obtain ⟨σ0, b1, b2, b3⟩ := bgC hp T 30
    obtain ⟨σ1, a1, a2, a3⟩ := cC0 (f := f) (e := e + 1) (by omega) hp b2 x
    refine ⟨σ1, ?_, a2, Fr_tr b3 a3⟩
    show F_X1_calls (f_X1_calls (f + 1)) 80 (nI 2) x (nI e) σ = _
    simp (disch := omega) only [F_X1_calls, f_X9_kindAbove, nI_lit, nI_eqE, nI_ltE, nI_addE, bd1_s, bd2_s, onrN, onrS, grd_t, grd_T, ltT, ltF, leT, leF, eqT, eqF, ↓reduceIte, a1, b1]
  rcases hk with rfl | rfl | rfl | rfl | rfl | rfl
  · exact cC0 (by omega) hp T x
  · exact c1 (by omega) T
  · exact c2 (by omega) T
  · obtain ⟨σ0, b1, b2, b3⟩ := bgC hp T 51
    obtain ⟨σ1, a1, a2, a3⟩ := c1 (f := f + 1) (e := e + 1) (by omega) b2
    have y := a2.2.2.2.2.1
    refine ⟨σ1, ?_, a2, Fr_tr b3 a3⟩
    show F_X1_calls (f_X1_calls (f + 1 + 2)) 80 (nI 3) x (nI e) σ = _
    simp (disch := omega) only [F_X1_calls, f_X9_kindAbove, nI_lit, nI_eqE, nI_ltE, nI_addE, bd1_s, bd2_s, onrN, onrS, grd_t, grd_T, ltT, ltF, leT, leF, eqT, eqF, ↓reduceIte, a1, b1, y]
    rfl
  · obtain ⟨σ0, b1, b2, b3⟩ := bgC hp T 40
    obtain ⟨σ1, a1, a2, a3⟩ := c2 (f := f + 1) (e := e + 1) (by omega) b2
    refine ⟨σ1, ?_, a2, Fr_tr b3 a3⟩
    show F_X1_calls (f_X1_calls (f + 1 + 2)) 80 (nI 4) x (nI e) σ = _
    simp (disch := omega) only [F_X1_calls, f_X9_kindAbove, nI_lit, nI_eqE, nI_ltE, nI_addE, bd1_s, bd2_s, onrN, onrS, grd_t, grd_T, ltT, ltF, leT, leF, eqT, eqF, ↓reduceIte, a1, b1]
    rfl
  · obtain ⟨σ1, a1, a2, a3⟩ := c1 (f := f + 1) (e := e + 1) (by omega) T
    refine ⟨σ1, ?_, a2, a3⟩
    show F_X1_calls (f_X1_calls (f + 1 + 2)) 80 (nI 5) x (nI e) σ = _
    simp (disch := omega) only [F_X1_calls, f_X9_kindAbove, nI_lit, nI_eqE, nI_ltE, nI_addE, bd1_s, bd2_s, onrN, onrS, grd_t, grd_T, ltT, ltF, leT, leF, eqT, eqF, ↓reduceIte, a1]
    rfl
theorem hC0 {k n a f e : Nat} {t : List Nat} (he : e ≤ 25) (hk : k ≤ 5) (T : TC 0 t k n a σ) (x : Int32) : ∃ σ', f_X1_hears (f + 1) 80 (nI 0) x (nI e) σ = some (kalV k x (nI n) * nI 2, σ') ∧ TC 0 (kalB 0 k (push 0 t 11)) k n a σ' ∧ Fr WC σ σ' := by
  obtain ⟨σ0, b1, b2, b3⟩ := bgC (by omega) T 11
  obtain ⟨σ1, a1, a2, a3⟩ := cC (f := 4) (e := e + 1) (by omega) hk (by omega) b2 x
  have y := b2.2.2.2.1
  refine ⟨σ1, ?_, a2, Fr_tr b3 a3⟩
  show F_X1_hears (f_X1_hears f) 80 (nI 0) x (nI e) σ = _
  have a1 : f_X1_calls 8 80 (nI k) x (nI (e + 1)) σ0 = _ := a1
  unfold F_X1_hears
  rw [if_pos (dep_lt (by omega)), if_pos (show nI 0 = (0 : Int32) from rfl), nI_lit 11, b1, bd1_s, nI_lit 1, nI_addE, y, a1, bd2_s]
  rfl
theorem hC {k n a e : Nat} {t : List Nat} (he : e ≤ 20) (hk : k ≤ 5) (T : TC 0 t k n a σ) (x : Int32) : ∃ σ', f_X1_hears 8 80 (nI k) x (nI e) σ = some (herV k x (nI n) (nI a), σ') ∧ TC 0 (herB k t) k n a σ' ∧ Fr WC σ σ' := by
  have c1 : ∀ {f e : Nat} {t : List Nat} {σ : Mem}, e ≤ 22 → TC 0 t k n a σ → ∃ σ', f_X1_hears (f + 2) 80 (nI 1) x (nI e) σ = some (kalV k x (nI n) * nI 2 - nI a, σ') ∧ TC 0 (kalB 0 k (push 0 (push 0 t 20) 11)) k n a σ' ∧ Fr WC σ σ' := fun {f e t σ} he T => by
    obtain ⟨σ0, b1, b2, b3⟩ := bgC (by omega) T 20
    obtain ⟨σ1, a1, a2, a3⟩ := hC0 (f := f) (e := e + 1) (by omega) hk b2 x
    have y := a2.2.2.2.2.2.1
    refine ⟨σ1, ?_, a2, Fr_tr b3 a3⟩
    show F_X1_hears (f_X1_hears (f + 1)) 80 (nI 1) x (nI e) σ = _
    simp (disch := omega) only [F_X1_hears, nI_lit, nI_eqE, nI_ltE, nI_addE, bd1_s, bd2_s, onrN, onrS, grd_t, grd_T, ltT, ltF, leT, leF, eqT, eqF, ↓reduceIte, a1, b1, y]
  have c2 : ∀ {f e : Nat} {t : List Nat} {σ : Mem}, e ≤ 22 → TC 0 t k n a σ → ∃ σ', f_X1_hears (f + 2) 80 (nI 2) x (nI e) σ = some (kalV k x (nI n) * nI 2, σ') ∧ TC 0 (kalB 0 k (push 0 t 11)) k n a σ' ∧ Fr WC σ σ' := fun {f e t σ} he T => by
    obtain ⟨σ1, a1, a2, a3⟩ := hC0 (f := f) (e := e + 1) (by omega) hk T x
    refine ⟨σ1, ?_, a2, a3⟩
    show F_X1_hears (f_X1_hears (f + 1)) 80 (nI 2) x (nI e) σ = _
    simp (disch := omega) only [F_X1_hears, f_X9_kindAbove, nI_lit, nI_eqE, nI_ltE, nI_addE, bd1_s, bd2_s, onrN, onrS, grd_t, grd_T, ltT, ltF, leT, leF, eqT, eqF, ↓reduceIte, a1]
  have hk' : k = 0 ∨ k = 1 ∨ k = 2 ∨ k = 3 ∨ k = 4 ∨ k = 5 := by omega
  rcases hk' with rfl | rfl | rfl | rfl | rfl | rfl
  · rw [herBz (by omega), herVz (by omega)]; exact hC0 (f := 7) (by omega) hk T x
  · rw [herBo (by omega), herVo (by omega)]; exact c1 (f := 6) (by omega) T
  · rw [herBz (by omega), herVz (by omega)]; exact c2 (f := 6) (by omega) T
  · rw [herBo (by omega), herVo (by omega)]
    obtain ⟨σ1, a1, a2, a3⟩ := c1 (f := 5) (e := e + 1) (by omega) T
    refine ⟨σ1, ?_, a2, a3⟩
    show F_X1_hears (f_X1_hears (5 + 2)) 80 (nI 3) x (nI e) σ = _
    simp (disch := omega) only [F_X1_hears, f_X9_kindAbove, nI_lit, nI_eqE, nI_ltE, nI_addE, bd1_s, bd2_s, onrN, onrS, grd_t, grd_T, ltT, ltF, leT, leF, eqT, eqF, ↓reduceIte, a1]
  · rw [herB4, herV4]
    obtain ⟨σ0, b1, b2, b3⟩ := bgC (by omega) T 41
    obtain ⟨σ1, a1, a2, a3⟩ := c2 (f := 5) (e := e + 1) (by omega) b2
    have y3 := a2.2.2.2.1
    have y4 := a2.2.2.2.2.1
    obtain ⟨σ2, d1, d2, d3⟩ := cC (f := 4) (e := e + 1) (by omega) hk (by omega) a2 (nI n)
    have d1 : f_X1_calls 8 80 (nI 4) (nI n) (nI (e + 1)) σ1 = _ := d1
    refine ⟨σ2, ?_, d2, Fr_tr b3 (Fr_tr a3 d3)⟩
    show F_X1_hears (f_X1_hears (5 + 2)) 80 (nI 4) x (nI e) σ = _
    simp (disch := omega) only [F_X1_hears, nI_lit, nI_eqE, nI_ltE, nI_addE, bd1_s, bd2_s, onrN, onrS, grd_t, grd_T, ltT, ltF, leT, leF, eqT, eqF, ↓reduceIte, a1, b1, y3, y4, d1]
  · rw [herBo (by omega), herVo (by omega)]
    obtain ⟨σ1, a1, a2, a3⟩ := c1 (f := 5) (e := e + 1) (by omega) T
    refine ⟨σ1, ?_, a2, a3⟩
    show F_X1_hears (f_X1_hears (5 + 2)) 80 (nI 5) x (nI e) σ = _
    simp (disch := omega) only [F_X1_hears, f_X9_kindAbove, nI_lit, nI_eqE, nI_ltE, nI_addE, bd1_s, bd2_s, onrN, onrS, grd_t, grd_T, ltT, ltF, leT, leF, eqT, eqF, ↓reduceIte, a1]
end
