section
variable {q : HQ} {σ σ' : Mem} {h o b v l s : Nat}
theorem mv_keep {A n m : Nat} (hA : n ≤ al A) (h1 : A ≠ 125) (h2 : A ≠ 94) (hn : n ≤ 12) (hm : m + n ≤ 80) : ∀ (d i : Nat) (σ1 : Mem) (fuel : Nat), i + d = n → d < fuel → gI σ1 94 60 = nI (m + i) → (∀ j, j < i → gI σ1 125 (m + j) = gI σ A j) → (∀ k j, ¬ (k = 125 ∧ m ≤ j ∧ j < m + n) → ¬ (k = 94 ∧ j = 60) → gI σ1 k j = gI σ k j) → σ1.2 = σ.2 → ∃ σ2, iterF (F_X10_moveRow_3 94 A (nI n) (nI 1)) (fun _ _ => none) fuel (nI i) σ1 = some σ2 ∧ gI σ2 94 60 = nI (m + n) ∧ (∀ j, j < n → gI σ2 125 (m + j) = gI σ A j) ∧ (∀ k j, ¬ (k = 125 ∧ m ≤ j ∧ j < m + n) → ¬ (k = 94 ∧ j = 60) → gI σ2 k j = gI σ k j) ∧ σ2.2 = σ.2 := by
  intro d
  induction d with
  | zero =>
    intro i σ1 fuel hi hf e1 e2 e3 e4
    obtain ⟨f, rfl⟩ : ∃ f, fuel = f + 1 := ⟨fuel - 1, by omega⟩
    have : i = n := by omega
    subst this
    refine ⟨σ1, ?_, e1, e2, e3, e4⟩
    show F_X10_moveRow_3 94 A _ _ _ _ _ = _
    unfold F_X10_moveRow_3
    rw [if_pos (by rw [nI_leE (by omega) (by omega)]; omega)]
  | succ d ih =>
    intro i σ1 fuel hi hf e1 e2 e3 e4
    obtain ⟨f, rfl⟩ : ∃ f, fuel = f + 1 := ⟨fuel - 1, by omega⟩
    have i1 : ixo A (nI i) = some i := ixo_nI (by omega) (by omega)
    have i2 : ixo 125 (nI (m + i)) = some (m + i) := ixo_125 (by omega)
    have rd : gI σ1 A i = gI σ A i := e3 _ _ (by omega) (by omega)
    obtain ⟨σ2, r⟩ := ih (i + 1) (pI (pI σ1 125 (m + i) (gI σ A i)) 94 60 (nI (m + (i + 1)))) f (by omega) (by omega) (gI_eq _ _ ⟨rfl, rfl⟩) (fun j hj => by
      by_cases e : j = i
      · simp (disch := omega) only [gI_eq, gI_ne, gL_pI, gI_pL, e]
      · simp (disch := omega) only [gI_eq, gI_ne, gL_pI, gI_pL]; exact e2 j (by omega)) (fun k j c1 c2 => by
      rw [gI_ne _ _ (by omega), gI_ne _ _ (by omega)]; exact e3 k j c1 c2) e4
    refine ⟨σ2, Eq.trans ?_ r.1, r.2⟩
    show F_X10_moveRow_3 94 A _ _ _ _ _ = _
    generalize iterF (F_X10_moveRow_3 94 A (nI n) (nI 1)) (fun _ _ => none) f = R
    have e60 : gI (pI σ1 125 (m + i) (gI σ A i)) 94 60 = nI (m + i) := (gI_ne _ _ (by omega)).trans e1
    unfold F_X10_moveRow_3
    rw [if_neg (by rw [nI_leE (by omega) (by omega)]; omega), nI_lit 0, if_neg (by rw [nI10]; exact id), i1, bd1_s]
    simp only [Nat.reduceAdd, e1, i2, bd1_s, rd, e60, nI_lit, nI_addE, Nat.add_assoc]
theorem mv_back {A n m : Nat} (hA : n ≤ al A) (h1 : A ≠ 125) (h2 : A ≠ 94) (hn : n ≤ 12) (hm : m + n ≤ 80) : ∀ (d i : Nat) (σ1 : Mem) (fuel : Nat), i + d = n → d < fuel → gI σ1 94 60 = nI (m + i) → (∀ j, j < i → gI σ1 A j = gI σ 125 (m + j)) → (∀ k j, ¬ (k = A ∧ j < n) → ¬ (k = 94 ∧ j = 60) → gI σ1 k j = gI σ k j) → σ1.2 = σ.2 → ∃ σ2, iterF (F_X10_moveRow_3 94 A (nI n) (nI 0)) (fun _ _ => none) fuel (nI i) σ1 = some σ2 ∧ gI σ2 94 60 = nI (m + n) ∧ (∀ j, j < n → gI σ2 A j = gI σ 125 (m + j)) ∧ (∀ k j, ¬ (k = A ∧ j < n) → ¬ (k = 94 ∧ j = 60) → gI σ2 k j = gI σ k j) ∧ σ2.2 = σ.2 := by
  intro d
  induction d with
  | zero =>
    intro i σ1 fuel hi hf e1 e2 e3 e4
    obtain ⟨f, rfl⟩ : ∃ f, fuel = f + 1 := ⟨fuel - 1, by omega⟩
    have : i = n := by omega
    subst this
    refine ⟨σ1, ?_, e1, e2, e3, e4⟩
    show F_X10_moveRow_3 94 A _ _ _ _ _ = _
    unfold F_X10_moveRow_3
    rw [if_pos (by rw [nI_leE (by omega) (by omega)]; omega)]
  | succ d ih =>
    intro i σ1 fuel hi hf e1 e2 e3 e4
    obtain ⟨f, rfl⟩ : ∃ f, fuel = f + 1 := ⟨fuel - 1, by omega⟩
    have i1 : ixo A (nI i) = some i := ixo_nI (by omega) (by omega)
    have i2 : ixo 125 (nI (m + i)) = some (m + i) := ixo_125 (by omega)
    have rd : gI σ1 125 (m + i) = gI σ 125 (m + i) := e3 _ _ (by omega) (by omega)
    obtain ⟨σ2, r⟩ := ih (i + 1) (pI (pI σ1 A i (gI σ 125 (m + i))) 94 60 (nI (m + (i + 1)))) f (by omega) (by omega) (gI_eq _ _ ⟨rfl, rfl⟩) (fun j hj => by
      by_cases e : j = i
      · simp (disch := omega) only [gI_eq, gI_ne, gL_pI, gI_pL, e]
      · simp (disch := omega) only [gI_eq, gI_ne, gL_pI, gI_pL]; exact e2 j (by omega)) (fun k j c1 c2 => by
      rw [gI_ne _ _ (by omega), gI_ne _ _ (by omega)]; exact e3 k j c1 c2) e4
    refine ⟨σ2, Eq.trans ?_ r.1, r.2⟩
    show F_X10_moveRow_3 94 A _ _ _ _ _ = _
    generalize iterF (F_X10_moveRow_3 94 A (nI n) (nI 0)) (fun _ _ => none) f = R
    have e60 : gI (pI σ1 A i (gI σ 125 (m + i))) 94 60 = nI (m + i) := (gI_ne _ _ (by omega)).trans e1
    unfold F_X10_moveRow_3
    rw [if_neg (by rw [nI_leE (by omega) (by omega)]; omega), if_pos z00]
    simp only [Nat.reduceAdd, e1, i2, bd1_s, i1, rd, e60, nI_lit, nI_addE, Nat.add_assoc]
theorem move_start (σ : Mem) : ∃ τ, τ = pI (pI (pI (pI (pI σ 94 60 (nI 0)) 126 0 (gI σ 94 0)) 126 1 (gI σ 94 8)) 126 2 (gI σ 94 7)) 126 3 (gI σ 94 14) := ⟨_, rfl⟩
theorem moveAll_keep (σ : Mem) : ∃ σ', f_X10_moveAll 94 (nI 1) σ = some σ' ∧ σ'.2 = σ.2 ∧ (gI σ' 125 0 = gI σ 94 0 ∧ gI σ' 125 1 = gI σ 94 8 ∧ gI σ' 125 2 = gI σ 94 7 ∧ gI σ' 125 3 = gI σ 94 14) ∧ (∀ j, j < 5 → gI σ' 125 (4 + j) = gI σ 95 j) ∧ (∀ j, j < 5 → gI σ' 125 (9 + j) = gI σ 96 j) ∧ (∀ j, j < 5 → gI σ' 125 (14 + j) = gI σ 97 j) ∧ (∀ j, j < 5 → gI σ' 125 (19 + j) = gI σ 98 j) ∧ (∀ j, j < 5 → gI σ' 125 (24 + j) = gI σ 99 j) ∧ (∀ j, j < 12 → gI σ' 125 (29 + j) = gI σ 100 j) ∧ (∀ j, j < 6 → gI σ' 125 (41 + j) = gI σ 101 j) ∧ (∀ j, j < 6 → gI σ' 125 (47 + j) = gI σ 102 j) ∧ (∀ j, j < 6 → gI σ' 125 (53 + j) = gI σ 103 j) ∧ (∀ j, j < 11 → gI σ' 125 (59 + j) = gI σ 104 j) ∧ (∀ k j, k ≠ 125 → k ≠ 126 → ¬ (k = 94 ∧ j = 60) → gI σ' k j = gI σ k j) := by
  obtain ⟨σ0, eσ⟩ := move_start σ
  have i0 : ixo 126 (nI 0) = some 0 := ixo_126 (by omega)
  have i1 : ixo 126 (nI 1) = some 1 := ixo_126 (by omega)
  have i2 : ixo 126 (nI 2) = some 2 := ixo_126 (by omega)
  have i3 : ixo 126 (nI 3) = some 3 := ixo_126 (by omega)
  have c0 : gI σ0 94 60 = nI 0 := by rw [eσ]; simp (disch := omega) only [gI_eq, gI_ne, gL_pI, gI_pL]
  have f0 : ∀ k j, k ≠ 126 → ¬ (k = 94 ∧ j = 60) → gI σ0 k j = gI σ k j := fun k j h1 h2 => by rw [eσ]; simp (disch := omega) only [gI_ne]
  have l0 : σ0.2 = σ.2 := by rw [eσ]; rfl
  obtain ⟨σ1, x1, c1, e1, f1, l1⟩ := mv_keep (σ := σ0) (A := 126) (n := 4) (m := 0) (by decide) (by omega) (by omega) (by omega) (by omega) 4 0 σ0 FU (by omega) (FU_lt (by omega)) c0 (fun j hj => absurd hj (Nat.not_lt_zero j)) (fun _ _ _ _ => rfl) rfl
  have x1 : f_X10_moveRow 94 126 (nI 4) (nI 1) σ0 = some σ1 := x1
  simp only [Nat.reduceAdd] at c1
  obtain ⟨σ2, x2, c2, e2, f2, l2⟩ := mv_keep (σ := σ1) (A := 95) (n := 5) (m := 4) (by decide) (by omega) (by omega) (by omega) (by omega) 5 0 σ1 FU (by omega) (FU_lt (by omega)) c1 (fun j hj => absurd hj (Nat.not_lt_zero j)) (fun _ _ _ _ => rfl) rfl
  have x2 : f_X10_moveRow 94 95 (nI 5) (nI 1) σ1 = some σ2 := x2
  simp only [Nat.reduceAdd] at c2
  obtain ⟨σ3, x3, c3, e3, f3, l3⟩ := mv_keep (σ := σ2) (A := 96) (n := 5) (m := 9) (by decide) (by omega) (by omega) (by omega) (by omega) 5 0 σ2 FU (by omega) (FU_lt (by omega)) c2 (fun j hj => absurd hj (Nat.not_lt_zero j)) (fun _ _ _ _ => rfl) rfl
  have x3 : f_X10_moveRow 94 96 (nI 5) (nI 1) σ2 = some σ3 := x3
  simp only [Nat.reduceAdd] at c3
  obtain ⟨σ4, x4, c4, e4, f4, l4⟩ := mv_keep (σ := σ3) (A := 97) (n := 5) (m := 14) (by decide) (by omega) (by omega) (by omega) (by omega) 5 0 σ3 FU (by omega) (FU_lt (by omega)) c3 (fun j hj => absurd hj (Nat.not_lt_zero j)) (fun _ _ _ _ => rfl) rfl
  have x4 : f_X10_moveRow 94 97 (nI 5) (nI 1) σ3 = some σ4 := x4
  simp only [Nat.reduceAdd] at c4
  obtain ⟨σ5, x5, c5, e5, f5, l5⟩ := mv_keep (σ := σ4) (A := 98) (n := 5) (m := 19) (by decide) (by omega) (by omega) (by omega) (by omega) 5 0 σ4 FU (by omega) (FU_lt (by omega)) c4 (fun j hj => absurd hj (Nat.not_lt_zero j)) (fun _ _ _ _ => rfl) rfl
  have x5 : f_X10_moveRow 94 98 (nI 5) (nI 1) σ4 = some σ5 := x5
  simp only [Nat.reduceAdd] at c5
  obtain ⟨σ6, x6, c6, e6, f6, l6⟩ := mv_keep (σ := σ5) (A := 99) (n := 5) (m := 24) (by decide) (by omega) (by omega) (by omega) (by omega) 5 0 σ5 FU (by omega) (FU_lt (by omega)) c5 (fun j hj => absurd hj (Nat.not_lt_zero j)) (fun _ _ _ _ => rfl) rfl
  have x6 : f_X10_moveRow 94 99 (nI 5) (nI 1) σ5 = some σ6 := x6
  simp only [Nat.reduceAdd] at c6
  obtain ⟨σ7, x7, c7, e7, f7, l7⟩ := mv_keep (σ := σ6) (A := 100) (n := 12) (m := 29) (by decide) (by omega) (by omega) (by omega) (by omega) 12 0 σ6 FU (by omega) (FU_lt (by omega)) c6 (fun j hj => absurd hj (Nat.not_lt_zero j)) (fun _ _ _ _ => rfl) rfl
  have x7 : f_X10_moveRow 94 100 (nI 12) (nI 1) σ6 = some σ7 := x7
  simp only [Nat.reduceAdd] at c7
  obtain ⟨σ8, x8, c8, e8, f8, l8⟩ := mv_keep (σ := σ7) (A := 101) (n := 6) (m := 41) (by decide) (by omega) (by omega) (by omega) (by omega) 6 0 σ7 FU (by omega) (FU_lt (by omega)) c7 (fun j hj => absurd hj (Nat.not_lt_zero j)) (fun _ _ _ _ => rfl) rfl
  have x8 : f_X10_moveRow 94 101 (nI 6) (nI 1) σ7 = some σ8 := x8
  simp only [Nat.reduceAdd] at c8
  obtain ⟨σ9, x9, c9, e9, f9, l9⟩ := mv_keep (σ := σ8) (A := 102) (n := 6) (m := 47) (by decide) (by omega) (by omega) (by omega) (by omega) 6 0 σ8 FU (by omega) (FU_lt (by omega)) c8 (fun j hj => absurd hj (Nat.not_lt_zero j)) (fun _ _ _ _ => rfl) rfl
  have x9 : f_X10_moveRow 94 102 (nI 6) (nI 1) σ8 = some σ9 := x9
  simp only [Nat.reduceAdd] at c9
  obtain ⟨σ10, x10, c10, e10, f10, l10⟩ := mv_keep (σ := σ9) (A := 103) (n := 6) (m := 53) (by decide) (by omega) (by omega) (by omega) (by omega) 6 0 σ9 FU (by omega) (FU_lt (by omega)) c9 (fun j hj => absurd hj (Nat.not_lt_zero j)) (fun _ _ _ _ => rfl) rfl
  have x10 : f_X10_moveRow 94 103 (nI 6) (nI 1) σ9 = some σ10 := x10
  simp only [Nat.reduceAdd] at c10
  obtain ⟨σ11, x11, c11, e11, f11, l11⟩ := mv_keep (σ := σ10) (A := 104) (n := 11) (m := 59) (by decide) (by omega) (by omega) (by omega) (by omega) 11 0 σ10 FU (by omega) (FU_lt (by omega)) c10 (fun j hj => absurd hj (Nat.not_lt_zero j)) (fun _ _ _ _ => rfl) rfl
  have x11 : f_X10_moveRow 94 104 (nI 11) (nI 1) σ10 = some σ11 := x11
  simp only [Nat.reduceAdd] at c11
  refine ⟨σ11, ?_, ?_, ?_⟩
  · unfold f_X10_moveAll
    simp (disch := omega) only [nI_lit, Nat.reduceAdd, i0, i1, i2, i3, bd1_s, gI_ne]
    rw [← eσ]
    simp only [x1, x2, x3, x4, x5, x6, x7, x8, x9, x10, x11, bd1_s]
  · rw [l11, l10, l9, l8, l7, l6, l5, l4, l3, l2, l1, l0]
  · refine ⟨⟨?_, ?_, ?_, ?_⟩, fun j hj => ?_, fun j hj => ?_, fun j hj => ?_, fun j hj => ?_, fun j hj => ?_, fun j hj => ?_, fun j hj => ?_, fun j hj => ?_, fun j hj => ?_, fun j hj => ?_, ?_⟩
    · have := e1 0 (by omega)
      simp only [Nat.zero_add] at this
      rw [f11 _ _ (by omega) (by omega), f10 _ _ (by omega) (by omega), f9 _ _ (by omega) (by omega), f8 _ _ (by omega) (by omega), f7 _ _ (by omega) (by omega), f6 _ _ (by omega) (by omega), f5 _ _ (by omega) (by omega), f4 _ _ (by omega) (by omega), f3 _ _ (by omega) (by omega), f2 _ _ (by omega) (by omega), this, eσ]
      simp (disch := omega) only [gI_eq, gI_ne, gL_pI, gI_pL]
    · have := e1 1 (by omega)
      simp only [Nat.zero_add] at this
      rw [f11 _ _ (by omega) (by omega), f10 _ _ (by omega) (by omega), f9 _ _ (by omega) (by omega), f8 _ _ (by omega) (by omega), f7 _ _ (by omega) (by omega), f6 _ _ (by omega) (by omega), f5 _ _ (by omega) (by omega), f4 _ _ (by omega) (by omega), f3 _ _ (by omega) (by omega), f2 _ _ (by omega) (by omega), this, eσ]
      simp (disch := omega) only [gI_eq, gI_ne, gL_pI, gI_pL]
    · have := e1 2 (by omega)
      simp only [Nat.zero_add] at this
      rw [f11 _ _ (by omega) (by omega), f10 _ _ (by omega) (by omega), f9 _ _ (by omega) (by omega), f8 _ _ (by omega) (by omega), f7 _ _ (by omega) (by omega), f6 _ _ (by omega) (by omega), f5 _ _ (by omega) (by omega), f4 _ _ (by omega) (by omega), f3 _ _ (by omega) (by omega), f2 _ _ (by omega) (by omega), this, eσ]
      simp (disch := omega) only [gI_eq, gI_ne, gL_pI, gI_pL]
    · have := e1 3 (by omega)
      simp only [Nat.zero_add] at this
      rw [f11 _ _ (by omega) (by omega), f10 _ _ (by omega) (by omega), f9 _ _ (by omega) (by omega), f8 _ _ (by omega) (by omega), f7 _ _ (by omega) (by omega), f6 _ _ (by omega) (by omega), f5 _ _ (by omega) (by omega), f4 _ _ (by omega) (by omega), f3 _ _ (by omega) (by omega), f2 _ _ (by omega) (by omega), this, eσ]
      simp (disch := omega) only [gI_eq, gI_ne, gL_pI, gI_pL]
    · rw [f11 _ _ (by omega) (by omega), f10 _ _ (by omega) (by omega), f9 _ _ (by omega) (by omega), f8 _ _ (by omega) (by omega), f7 _ _ (by omega) (by omega), f6 _ _ (by omega) (by omega), f5 _ _ (by omega) (by omega), f4 _ _ (by omega) (by omega), f3 _ _ (by omega) (by omega), e2 j hj, f1 _ _ (by omega) (by omega), f0 _ _ (by omega) (by omega)]
    · rw [f11 _ _ (by omega) (by omega), f10 _ _ (by omega) (by omega), f9 _ _ (by omega) (by omega), f8 _ _ (by omega) (by omega), f7 _ _ (by omega) (by omega), f6 _ _ (by omega) (by omega), f5 _ _ (by omega) (by omega), f4 _ _ (by omega) (by omega), e3 j hj, f2 _ _ (by omega) (by omega), f1 _ _ (by omega) (by omega), f0 _ _ (by omega) (by omega)]
    · rw [f11 _ _ (by omega) (by omega), f10 _ _ (by omega) (by omega), f9 _ _ (by omega) (by omega), f8 _ _ (by omega) (by omega), f7 _ _ (by omega) (by omega), f6 _ _ (by omega) (by omega), f5 _ _ (by omega) (by omega), e4 j hj, f3 _ _ (by omega) (by omega), f2 _ _ (by omega) (by omega), f1 _ _ (by omega) (by omega), f0 _ _ (by omega) (by omega)]
    · rw [f11 _ _ (by omega) (by omega), f10 _ _ (by omega) (by omega), f9 _ _ (by omega) (by omega), f8 _ _ (by omega) (by omega), f7 _ _ (by omega) (by omega), f6 _ _ (by omega) (by omega), e5 j hj, f4 _ _ (by omega) (by omega), f3 _ _ (by omega) (by omega), f2 _ _ (by omega) (by omega), f1 _ _ (by omega) (by omega), f0 _ _ (by omega) (by omega)]
    · rw [f11 _ _ (by omega) (by omega), f10 _ _ (by omega) (by omega), f9 _ _ (by omega) (by omega), f8 _ _ (by omega) (by omega), f7 _ _ (by omega) (by omega), e6 j hj, f5 _ _ (by omega) (by omega), f4 _ _ (by omega) (by omega), f3 _ _ (by omega) (by omega), f2 _ _ (by omega) (by omega), f1 _ _ (by omega) (by omega), f0 _ _ (by omega) (by omega)]
    · rw [f11 _ _ (by omega) (by omega), f10 _ _ (by omega) (by omega), f9 _ _ (by omega) (by omega), f8 _ _ (by omega) (by omega), e7 j hj, f6 _ _ (by omega) (by omega), f5 _ _ (by omega) (by omega), f4 _ _ (by omega) (by omega), f3 _ _ (by omega) (by omega), f2 _ _ (by omega) (by omega), f1 _ _ (by omega) (by omega), f0 _ _ (by omega) (by omega)]
    · rw [f11 _ _ (by omega) (by omega), f10 _ _ (by omega) (by omega), f9 _ _ (by omega) (by omega), e8 j hj, f7 _ _ (by omega) (by omega), f6 _ _ (by omega) (by omega), f5 _ _ (by omega) (by omega), f4 _ _ (by omega) (by omega), f3 _ _ (by omega) (by omega), f2 _ _ (by omega) (by omega), f1 _ _ (by omega) (by omega), f0 _ _ (by omega) (by omega)]
    · rw [f11 _ _ (by omega) (by omega), f10 _ _ (by omega) (by omega), e9 j hj, f8 _ _ (by omega) (by omega), f7 _ _ (by omega) (by omega), f6 _ _ (by omega) (by omega), f5 _ _ (by omega) (by omega), f4 _ _ (by omega) (by omega), f3 _ _ (by omega) (by omega), f2 _ _ (by omega) (by omega), f1 _ _ (by omega) (by omega), f0 _ _ (by omega) (by omega)]
    · rw [f11 _ _ (by omega) (by omega), e10 j hj, f9 _ _ (by omega) (by omega), f8 _ _ (by omega) (by omega), f7 _ _ (by omega) (by omega), f6 _ _ (by omega) (by omega), f5 _ _ (by omega) (by omega), f4 _ _ (by omega) (by omega), f3 _ _ (by omega) (by omega), f2 _ _ (by omega) (by omega), f1 _ _ (by omega) (by omega), f0 _ _ (by omega) (by omega)]
    · rw [e11 j hj, f10 _ _ (by omega) (by omega), f9 _ _ (by omega) (by omega), f8 _ _ (by omega) (by omega), f7 _ _ (by omega) (by omega), f6 _ _ (by omega) (by omega), f5 _ _ (by omega) (by omega), f4 _ _ (by omega) (by omega), f3 _ _ (by omega) (by omega), f2 _ _ (by omega) (by omega), f1 _ _ (by omega) (by omega), f0 _ _ (by omega) (by omega)]
    · intro k j h1 h2 h3
      rw [f11 _ _ (by omega) (by omega), f10 _ _ (by omega) (by omega), f9 _ _ (by omega) (by omega), f8 _ _ (by omega) (by omega), f7 _ _ (by omega) (by omega), f6 _ _ (by omega) (by omega), f5 _ _ (by omega) (by omega), f4 _ _ (by omega) (by omega), f3 _ _ (by omega) (by omega), f2 _ _ (by omega) (by omega), f1 _ _ (by omega) (by omega), f0 _ _ h2 h3]
theorem moveAll_back (σ : Mem) : ∃ σ', f_X10_moveAll 94 (nI 0) σ = some σ' ∧ σ'.2 = σ.2 ∧ (∀ j, j < 4 → gI σ' 126 j = gI σ 125 j) ∧ (∀ j, j < 5 → gI σ' 95 j = gI σ 125 (4 + j)) ∧ (∀ j, j < 5 → gI σ' 96 j = gI σ 125 (9 + j)) ∧ (∀ j, j < 5 → gI σ' 97 j = gI σ 125 (14 + j)) ∧ (∀ j, j < 5 → gI σ' 98 j = gI σ 125 (19 + j)) ∧ (∀ j, j < 5 → gI σ' 99 j = gI σ 125 (24 + j)) ∧ (∀ j, j < 12 → gI σ' 100 j = gI σ 125 (29 + j)) ∧ (∀ j, j < 6 → gI σ' 101 j = gI σ 125 (41 + j)) ∧ (∀ j, j < 6 → gI σ' 102 j = gI σ 125 (47 + j)) ∧ (∀ j, j < 6 → gI σ' 103 j = gI σ 125 (53 + j)) ∧ (∀ j, j < 11 → gI σ' 104 j = gI σ 125 (59 + j)) ∧ (∀ k j, k ≠ 126 → ¬ (k = 94 ∧ j = 60) → ¬ (95 ≤ k ∧ k ≤ 104) → gI σ' k j = gI σ k j) ∧ (∀ j, 11 ≤ j → gI σ' 104 j = gI σ 104 j) := by
  obtain ⟨σ0, eσ⟩ := move_start σ
  have i0 : ixo 126 (nI 0) = some 0 := ixo_126 (by omega)
  have i1 : ixo 126 (nI 1) = some 1 := ixo_126 (by omega)
  have i2 : ixo 126 (nI 2) = some 2 := ixo_126 (by omega)
  have i3 : ixo 126 (nI 3) = some 3 := ixo_126 (by omega)
  have c0 : gI σ0 94 60 = nI 0 := by rw [eσ]; simp (disch := omega) only [gI_eq, gI_ne, gL_pI, gI_pL]
  have f0 : ∀ k j, k ≠ 126 → ¬ (k = 94 ∧ j = 60) → gI σ0 k j = gI σ k j := fun k j h1 h2 => by rw [eσ]; simp (disch := omega) only [gI_ne]
  have l0 : σ0.2 = σ.2 := by rw [eσ]; rfl
  obtain ⟨σ1, x1, c1, e1, f1, l1⟩ := mv_back (σ := σ0) (A := 126) (n := 4) (m := 0) (by decide) (by omega) (by omega) (by omega) (by omega) 4 0 σ0 FU (by omega) (FU_lt (by omega)) c0 (fun j hj => absurd hj (Nat.not_lt_zero j)) (fun _ _ _ _ => rfl) rfl
  have x1 : f_X10_moveRow 94 126 (nI 4) (nI 0) σ0 = some σ1 := x1
  simp only [Nat.reduceAdd] at c1
  obtain ⟨σ2, x2, c2, e2, f2, l2⟩ := mv_back (σ := σ1) (A := 95) (n := 5) (m := 4) (by decide) (by omega) (by omega) (by omega) (by omega) 5 0 σ1 FU (by omega) (FU_lt (by omega)) c1 (fun j hj => absurd hj (Nat.not_lt_zero j)) (fun _ _ _ _ => rfl) rfl
  have x2 : f_X10_moveRow 94 95 (nI 5) (nI 0) σ1 = some σ2 := x2
  simp only [Nat.reduceAdd] at c2
  obtain ⟨σ3, x3, c3, e3, f3, l3⟩ := mv_back (σ := σ2) (A := 96) (n := 5) (m := 9) (by decide) (by omega) (by omega) (by omega) (by omega) 5 0 σ2 FU (by omega) (FU_lt (by omega)) c2 (fun j hj => absurd hj (Nat.not_lt_zero j)) (fun _ _ _ _ => rfl) rfl
  have x3 : f_X10_moveRow 94 96 (nI 5) (nI 0) σ2 = some σ3 := x3
  simp only [Nat.reduceAdd] at c3
  obtain ⟨σ4, x4, c4, e4, f4, l4⟩ := mv_back (σ := σ3) (A := 97) (n := 5) (m := 14) (by decide) (by omega) (by omega) (by omega) (by omega) 5 0 σ3 FU (by omega) (FU_lt (by omega)) c3 (fun j hj => absurd hj (Nat.not_lt_zero j)) (fun _ _ _ _ => rfl) rfl
  have x4 : f_X10_moveRow 94 97 (nI 5) (nI 0) σ3 = some σ4 := x4
  simp only [Nat.reduceAdd] at c4
  obtain ⟨σ5, x5, c5, e5, f5, l5⟩ := mv_back (σ := σ4) (A := 98) (n := 5) (m := 19) (by decide) (by omega) (by omega) (by omega) (by omega) 5 0 σ4 FU (by omega) (FU_lt (by omega)) c4 (fun j hj => absurd hj (Nat.not_lt_zero j)) (fun _ _ _ _ => rfl) rfl
  have x5 : f_X10_moveRow 94 98 (nI 5) (nI 0) σ4 = some σ5 := x5
  simp only [Nat.reduceAdd] at c5
  obtain ⟨σ6, x6, c6, e6, f6, l6⟩ := mv_back (σ := σ5) (A := 99) (n := 5) (m := 24) (by decide) (by omega) (by omega) (by omega) (by omega) 5 0 σ5 FU (by omega) (FU_lt (by omega)) c5 (fun j hj => absurd hj (Nat.not_lt_zero j)) (fun _ _ _ _ => rfl) rfl
  have x6 : f_X10_moveRow 94 99 (nI 5) (nI 0) σ5 = some σ6 := x6
  simp only [Nat.reduceAdd] at c6
  obtain ⟨σ7, x7, c7, e7, f7, l7⟩ := mv_back (σ := σ6) (A := 100) (n := 12) (m := 29) (by decide) (by omega) (by omega) (by omega) (by omega) 12 0 σ6 FU (by omega) (FU_lt (by omega)) c6 (fun j hj => absurd hj (Nat.not_lt_zero j)) (fun _ _ _ _ => rfl) rfl
  have x7 : f_X10_moveRow 94 100 (nI 12) (nI 0) σ6 = some σ7 := x7
  simp only [Nat.reduceAdd] at c7
  obtain ⟨σ8, x8, c8, e8, f8, l8⟩ := mv_back (σ := σ7) (A := 101) (n := 6) (m := 41) (by decide) (by omega) (by omega) (by omega) (by omega) 6 0 σ7 FU (by omega) (FU_lt (by omega)) c7 (fun j hj => absurd hj (Nat.not_lt_zero j)) (fun _ _ _ _ => rfl) rfl
  have x8 : f_X10_moveRow 94 101 (nI 6) (nI 0) σ7 = some σ8 := x8
  simp only [Nat.reduceAdd] at c8
  obtain ⟨σ9, x9, c9, e9, f9, l9⟩ := mv_back (σ := σ8) (A := 102) (n := 6) (m := 47) (by decide) (by omega) (by omega) (by omega) (by omega) 6 0 σ8 FU (by omega) (FU_lt (by omega)) c8 (fun j hj => absurd hj (Nat.not_lt_zero j)) (fun _ _ _ _ => rfl) rfl
  have x9 : f_X10_moveRow 94 102 (nI 6) (nI 0) σ8 = some σ9 := x9
  simp only [Nat.reduceAdd] at c9
  obtain ⟨σ10, x10, c10, e10, f10, l10⟩ := mv_back (σ := σ9) (A := 103) (n := 6) (m := 53) (by decide) (by omega) (by omega) (by omega) (by omega) 6 0 σ9 FU (by omega) (FU_lt (by omega)) c9 (fun j hj => absurd hj (Nat.not_lt_zero j)) (fun _ _ _ _ => rfl) rfl
  have x10 : f_X10_moveRow 94 103 (nI 6) (nI 0) σ9 = some σ10 := x10
  simp only [Nat.reduceAdd] at c10
  obtain ⟨σ11, x11, c11, e11, f11, l11⟩ := mv_back (σ := σ10) (A := 104) (n := 11) (m := 59) (by decide) (by omega) (by omega) (by omega) (by omega) 11 0 σ10 FU (by omega) (FU_lt (by omega)) c10 (fun j hj => absurd hj (Nat.not_lt_zero j)) (fun _ _ _ _ => rfl) rfl
  have x11 : f_X10_moveRow 94 104 (nI 11) (nI 0) σ10 = some σ11 := x11
  simp only [Nat.reduceAdd] at c11
  refine ⟨σ11, ?_, ?_, ?_⟩
  · unfold f_X10_moveAll
    simp (disch := omega) only [nI_lit, Nat.reduceAdd, i0, i1, i2, i3, bd1_s, gI_ne]
    rw [← eσ]
    simp only [x1, x2, x3, x4, x5, x6, x7, x8, x9, x10, x11, bd1_s]
  · rw [l11, l10, l9, l8, l7, l6, l5, l4, l3, l2, l1, l0]
  · refine ⟨fun j hj => ?_, fun j hj => ?_, fun j hj => ?_, fun j hj => ?_, fun j hj => ?_, fun j hj => ?_, fun j hj => ?_, fun j hj => ?_, fun j hj => ?_, fun j hj => ?_, fun j hj => ?_, ?_, ?_⟩
    · rw [f11 _ _ (by omega) (by omega), f10 _ _ (by omega) (by omega), f9 _ _ (by omega) (by omega), f8 _ _ (by omega) (by omega), f7 _ _ (by omega) (by omega), f6 _ _ (by omega) (by omega), f5 _ _ (by omega) (by omega), f4 _ _ (by omega) (by omega), f3 _ _ (by omega) (by omega), f2 _ _ (by omega) (by omega), e1 j hj, Nat.zero_add, f0 _ _ (by omega) (by omega)]
    · rw [f11 _ _ (by omega) (by omega), f10 _ _ (by omega) (by omega), f9 _ _ (by omega) (by omega), f8 _ _ (by omega) (by omega), f7 _ _ (by omega) (by omega), f6 _ _ (by omega) (by omega), f5 _ _ (by omega) (by omega), f4 _ _ (by omega) (by omega), f3 _ _ (by omega) (by omega), e2 j hj, f1 _ _ (by omega) (by omega), f0 _ _ (by omega) (by omega)]
    · rw [f11 _ _ (by omega) (by omega), f10 _ _ (by omega) (by omega), f9 _ _ (by omega) (by omega), f8 _ _ (by omega) (by omega), f7 _ _ (by omega) (by omega), f6 _ _ (by omega) (by omega), f5 _ _ (by omega) (by omega), f4 _ _ (by omega) (by omega), e3 j hj, f2 _ _ (by omega) (by omega), f1 _ _ (by omega) (by omega), f0 _ _ (by omega) (by omega)]
    · rw [f11 _ _ (by omega) (by omega), f10 _ _ (by omega) (by omega), f9 _ _ (by omega) (by omega), f8 _ _ (by omega) (by omega), f7 _ _ (by omega) (by omega), f6 _ _ (by omega) (by omega), f5 _ _ (by omega) (by omega), e4 j hj, f3 _ _ (by omega) (by omega), f2 _ _ (by omega) (by omega), f1 _ _ (by omega) (by omega), f0 _ _ (by omega) (by omega)]
    · rw [f11 _ _ (by omega) (by omega), f10 _ _ (by omega) (by omega), f9 _ _ (by omega) (by omega), f8 _ _ (by omega) (by omega), f7 _ _ (by omega) (by omega), f6 _ _ (by omega) (by omega), e5 j hj, f4 _ _ (by omega) (by omega), f3 _ _ (by omega) (by omega), f2 _ _ (by omega) (by omega), f1 _ _ (by omega) (by omega), f0 _ _ (by omega) (by omega)]
    · rw [f11 _ _ (by omega) (by omega), f10 _ _ (by omega) (by omega), f9 _ _ (by omega) (by omega), f8 _ _ (by omega) (by omega), f7 _ _ (by omega) (by omega), e6 j hj, f5 _ _ (by omega) (by omega), f4 _ _ (by omega) (by omega), f3 _ _ (by omega) (by omega), f2 _ _ (by omega) (by omega), f1 _ _ (by omega) (by omega), f0 _ _ (by omega) (by omega)]
    · rw [f11 _ _ (by omega) (by omega), f10 _ _ (by omega) (by omega), f9 _ _ (by omega) (by omega), f8 _ _ (by omega) (by omega), e7 j hj, f6 _ _ (by omega) (by omega), f5 _ _ (by omega) (by omega), f4 _ _ (by omega) (by omega), f3 _ _ (by omega) (by omega), f2 _ _ (by omega) (by omega), f1 _ _ (by omega) (by omega), f0 _ _ (by omega) (by omega)]
    · rw [f11 _ _ (by omega) (by omega), f10 _ _ (by omega) (by omega), f9 _ _ (by omega) (by omega), e8 j hj, f7 _ _ (by omega) (by omega), f6 _ _ (by omega) (by omega), f5 _ _ (by omega) (by omega), f4 _ _ (by omega) (by omega), f3 _ _ (by omega) (by omega), f2 _ _ (by omega) (by omega), f1 _ _ (by omega) (by omega), f0 _ _ (by omega) (by omega)]
    · rw [f11 _ _ (by omega) (by omega), f10 _ _ (by omega) (by omega), e9 j hj, f8 _ _ (by omega) (by omega), f7 _ _ (by omega) (by omega), f6 _ _ (by omega) (by omega), f5 _ _ (by omega) (by omega), f4 _ _ (by omega) (by omega), f3 _ _ (by omega) (by omega), f2 _ _ (by omega) (by omega), f1 _ _ (by omega) (by omega), f0 _ _ (by omega) (by omega)]
    · rw [f11 _ _ (by omega) (by omega), e10 j hj, f9 _ _ (by omega) (by omega), f8 _ _ (by omega) (by omega), f7 _ _ (by omega) (by omega), f6 _ _ (by omega) (by omega), f5 _ _ (by omega) (by omega), f4 _ _ (by omega) (by omega), f3 _ _ (by omega) (by omega), f2 _ _ (by omega) (by omega), f1 _ _ (by omega) (by omega), f0 _ _ (by omega) (by omega)]
    · rw [e11 j hj, f10 _ _ (by omega) (by omega), f9 _ _ (by omega) (by omega), f8 _ _ (by omega) (by omega), f7 _ _ (by omega) (by omega), f6 _ _ (by omega) (by omega), f5 _ _ (by omega) (by omega), f4 _ _ (by omega) (by omega), f3 _ _ (by omega) (by omega), f2 _ _ (by omega) (by omega), f1 _ _ (by omega) (by omega), f0 _ _ (by omega) (by omega)]
    · intro k j h1 h2 h3
      rw [f11 _ _ (by omega) (by omega), f10 _ _ (by omega) (by omega), f9 _ _ (by omega) (by omega), f8 _ _ (by omega) (by omega), f7 _ _ (by omega) (by omega), f6 _ _ (by omega) (by omega), f5 _ _ (by omega) (by omega), f4 _ _ (by omega) (by omega), f3 _ _ (by omega) (by omega), f2 _ _ (by omega) (by omega), f1 _ _ (by omega) (by omega), f0 _ _ h1 h2]
    · intro j hj
      rw [f11 _ _ (by omega) (by omega), f10 _ _ (by omega) (by omega), f9 _ _ (by omega) (by omega), f8 _ _ (by omega) (by omega), f7 _ _ (by omega) (by omega), f6 _ _ (by omega) (by omega), f5 _ _ (by omega) (by omega), f4 _ _ (by omega) (by omega), f3 _ _ (by omega) (by omega), f2 _ _ (by omega) (by omega), f1 _ _ (by omega) (by omega), f0 _ _ (by omega) (by omega)]
theorem fl_keep (C : CH 1 q σ) : ∀ i, i < 5 → gI σ (1 + 4 + i) 2 = 0 ∨ gI σ (1 + 4 + i) 2 = 1 := C.2.2.1.2
theorem op_keep (I : Inv q σ) : OpOk (f_X9_keep 0) (f_X10_keep 94) σ := by
  obtain ⟨ok, C, M, r0, r1⟩ := id I
  obtain ⟨σ1, a1, a2, a3⟩ := cl_copy (h := 1) (h' := 16) (.inl rfl) (.inr (.inl rfl)) (by omega) C.2.2.1.2
  have K1 : CH 16 q σ1 := Cp_CH ok.1 ok.2.1 a2 C
  obtain ⟨τ, eτ⟩ : ∃ τ, τ = pI σ1 0 2 (nI 1) := ⟨_, rfl⟩
  have gτ : ∀ k i, ¬ (k = 0 ∧ i = 2) → gI τ k i = gI σ1 k i := fun k i c => by rw [eτ]; exact gI_ne _ _ c
  have fτ : ∀ k i, ¬ (16 ≤ k ∧ k ≤ 30) → ¬ (k = 0 ∧ i = 2) → gI τ k i = gI σ k i := fun k i h1 h2 => (gτ k i h2).trans (a3.1 k i (by unfold FH; omega))
  have lτ : τ.2 = σ.2 := by rw [eτ]; exact a3.2
  have Mτ : MH 0 q τ := MH_fr M fun k i c => fτ k i (by omega) (by omega)
  obtain ⟨σ2, b1, b2, b3, w1, w2, w3, w4, w5, w6, w7, w8, w9, w10, b4⟩ := moveAll_keep τ
  have g2 : ∀ k j, k ≠ 125 → k ≠ 126 → ¬ (k = 94 ∧ j = 60) → ¬ (k = 94 ∧ j = 58) → gI (pI σ2 94 58 (nI 1)) k j = gI τ k j := fun k j h1 h2 h3 h4 => by rw [gI_ne _ _ h4]; exact b4 k j h1 h2 h3
  have e58 : ∀ j, gI (pI σ2 94 58 (nI 1)) 125 j = gI σ2 125 j := fun j => gI_ne _ _ (by omega)
  have F : ∀ k j, ¬ (16 ≤ k ∧ k ≤ 30) → ¬ (k = 0 ∧ j = 2) → k ≠ 125 → k ≠ 126 → ¬ (k = 94 ∧ j = 60) → ¬ (k = 94 ∧ j = 58) → gI (pI σ2 94 58 (nI 1)) k j = gI σ k j := fun k j h1 h2 h3 h4 h5 h6 => (g2 k j h3 h4 h5 h6).trans (fτ k j h1 h2)
  refine ⟨nI 1, τ, pI σ2 94 58 (nI 1), q, ?_, ?_, inv_fr I (fun k i c => F k i (by omega) (by omega) (by omega) (by omega) (by omega) (by omega)) ?_⟩
  · rw [eτ]
    unfold f_X9_keep
    have a1 : f_X2_copy (0 + 16) (0 + 1) σ = some σ1 := a1
    rw [a1, bd1_s, bd1_s]
    rfl
  · unfold f_X10_keep
    rw [nI_lit 1, b1, bd1_s, bd1_s]
  · obtain ⟨x1, x2, x3, x4, x5, x6, x7, x8⟩ := r1
    refine ⟨RT_fr x1 fun k i c => F k i (by omega) (by omega) (by omega) (by omega) (by omega) (by omega), RR_fr x2 fun k i c => F k i (by omega) (by omega) (by omega) (by omega) (by omega) (by omega), RD_fr x3 fun k i c => F k i (by omega) (by omega) (by omega) (by omega) (by omega) (by omega), RS_fr x4 (fun k i c => F k i (by omega) (by omega) (by omega) (by omega) (by omega) (by omega)) (b2.trans lτ), RH_fr x5 fun k i c => F k i (by omega) (by omega) (by omega) (by omega) (by omega) (by omega), .inr ⟨?_, ?_, q, ok, CH_fr ok K1 fun k i h1 h2 => ?_, ?_⟩, RF_fr x7 fun k i c => F k i (by omega) (by omega) (by omega) (by omega) (by omega) (by omega), RG_fr x8 fun k i c => F k i (by omega) (by omega) (by omega) (by omega) (by omega) (by omega)⟩
    · rw [g2 _ _ (by omega) (by omega) (by omega) (by omega), eτ]; exact gI_eq _ _ ⟨rfl, rfl⟩
    · exact gI_eq _ _ ⟨rfl, rfl⟩
    · rw [g2 _ _ (by omega) (by omega) (by omega) (by omega), gτ _ _ (by omega)]
    · obtain ⟨⟨m0, m8, m7, m14⟩, ⟨n0, n1, n2, n3, n4, n5⟩, md, ml, mb⟩ := Mτ
      obtain ⟨y0, y1, y2, y3⟩ := b3
      have hn := ok.1.1
      have hm := ok.2.1.1
      refine ⟨⟨?_, ?_, ?_, ?_⟩, fun i hi => ?_, fun p hp => ?_, fun b hb => ?_, ⟨?_, ?_, ?_, ?_, ?_⟩, fun b hb => ?_⟩
      · rw [e58, y0, m0]
      · rw [e58, y1, m8]
      · rw [e58, y2, m7]
      · rw [e58, y3, m14]
      · obtain ⟨u1, u2, u3, u4⟩ := ml i hi
        rw [e58, e58, e58, e58, e58, w1 i (by omega), w2 i (by omega), w3 i (by omega), w4 i (by omega), w5 i (by omega)]
        exact ⟨u1, u2, u3, u4⟩
      · rw [e58, w6 p hp]; exact md p hp
      · obtain ⟨u1, u2, u3⟩ := mb b hb
        rw [e58, e58, e58, w7 b (by omega), w8 b (by omega), w9 b (by omega)]
        exact ⟨u1, u2, u3⟩
      · rw [e58]; exact (w10 0 (by omega)).trans n0
      · rw [e58]; exact (w10 1 (by omega)).trans n1
      · rw [e58]; exact (w10 2 (by omega)).trans n2
      · rw [e58]; exact (w10 3 (by omega)).trans n3
      · rw [e58]; exact (w10 4 (by omega)).trans n4
      · rw [e58]
        have := w10 (5 + b) (by omega)
        have e64 : 59 + (5 + b) = 64 + b := by omega
        rw [e64] at this
        rw [this]
        have := n5 b hb
        rw [Nat.zero_add] at this
        exact this
theorem op_again (I : Inv q σ) : OpOk (f_X9_again 0) (f_X10_again 94) σ := by
  obtain ⟨ok, C, M, r0, r1⟩ := id I
  rcases r1.2.2.2.2.2.1 with ⟨z1, z2⟩ | ⟨z1, z2, p, okp, K, KK⟩
  · refine ⟨-3, σ, σ, q, ?_, ?_, I⟩
    · unfold f_X9_again
      rw [if_pos z1]
    · unfold f_X10_again
      rw [if_pos z2]
  obtain ⟨τ, a1, a2, a3⟩ := cl_copy (h := 16) (h' := 1) (.inr (.inl rfl)) (.inl rfl) (by omega) K.2.2.1.2
  have Cτ : CH 1 p τ := Cp_CH okp.1 okp.2.1 a2 K
  obtain ⟨σ2, b1, b2, b3, w1, w2, w3, w4, w5, w6, w7, w8, w9, w10, b4, b5⟩ := moveAll_back τ
  have g125 : ∀ j, gI τ 125 j = gI σ 125 j := fun j => a3.1 _ _ (by unfold FH; omega)
  obtain ⟨τ2, eτ⟩ : ∃ τ2, τ2 = pI (pI (pI (pI σ2 94 0 (gI σ2 126 0)) 94 8 (gI σ2 126 1)) 94 7 (gI σ2 126 2)) 94 14 (gI σ2 126 3) := ⟨_, rfl⟩
  have F2 : ∀ k j, ¬ (k = 94 ∧ (j = 0 ∨ j = 8 ∨ j = 7 ∨ j = 14)) → gI τ2 k j = gI σ2 k j := fun k j c => by rw [eτ]; simp (disch := omega) only [gI_ne]
  have F : ∀ k j, ¬ (k = 94 ∧ (j = 0 ∨ j = 8 ∨ j = 7 ∨ j = 14 ∨ j = 60)) → ¬ (95 ≤ k ∧ k ≤ 104) → k ≠ 126 → ¬ (1 ≤ k ∧ k ≤ 15) → gI τ2 k j = gI σ k j := fun k j h1 h2 h3 h4 => by
    rw [F2 k j (by omega), b4 k j h3 (by omega) h2]; exact a3.1 k j (by unfold FH; omega)
  have lz : τ2.2 = σ.2 := by
    rw [eτ]
    show σ2.2 = σ.2
    rw [b2, a3.2]
  have i0 : ixo 126 (nI 0) = some 0 := ixo_126 (by omega)
  have i1 : ixo 126 (nI 1) = some 1 := ixo_126 (by omega)
  have i2 : ixo 126 (nI 2) = some 2 := ixo_126 (by omega)
  have i3 : ixo 126 (nI 3) = some 3 := ixo_126 (by omega)
  obtain ⟨⟨k0, k1, k2, k3⟩, kl, kd', kb, ⟨kr0, kr1, kr2, kr3, kr4⟩, kp⟩ := KK
  have s0 : gI σ2 126 0 = nI p.n := by rw [b3 0 (by omega), g125]; exact k0
  have s1 : gI σ2 126 1 = nI p.m := by rw [b3 1 (by omega), g125]; exact k1
  have s2 : gI σ2 126 2 = nI p.step := by rw [b3 2 (by omega), g125]; exact k2
  have s3 : gI σ2 126 3 = p.2 := by rw [b3 3 (by omega), g125]; exact k3
  have hn := okp.1.1
  have hm := okp.2.1.1
  have t0 : gI τ2 94 0 = nI p.n := by rw [eτ]; simp (disch := omega) only [gI_eq, gI_ne, gL_pI, gI_pL]; exact s0
  have M2 : MH 0 p τ2 := by
    refine ⟨⟨t0, ?_, ?_, ?_⟩, ⟨?_, ?_, ?_, ?_, ?_, fun b hb => ?_⟩, fun j hj => ?_, fun i hi => ?_, fun b hb => ?_⟩
    · rw [eτ]; simp (disch := omega) only [gI_eq, gI_ne, gL_pI, gI_pL]; exact s1
    · rw [eτ]; simp (disch := omega) only [gI_eq, gI_ne, gL_pI, gI_pL]; exact s2
    · rw [eτ]; simp (disch := omega) only [gI_eq, gI_ne, gL_pI, gI_pL]; exact s3
    · rw [F2 _ _ (by omega), w10 0 (by omega), g125]; exact kr0
    · rw [F2 _ _ (by omega), w10 (0 + 1) (by omega), g125]; exact kr1
    · rw [F2 _ _ (by omega), w10 (0 + 2) (by omega), g125]; exact kr2
    · rw [F2 _ _ (by omega), w10 (0 + 3) (by omega), g125]; exact kr3
    · rw [F2 _ _ (by omega), w10 (0 + 4) (by omega), g125]; exact kr4
    · have e64 : 59 + (0 + 5 + b) = 64 + b := by omega
      rw [F2 _ _ (by omega), w10 (0 + 5 + b) (by omega), g125, e64]; exact kp b hb
    · rw [F2 _ _ (by omega), w6 j hj, g125]; exact kd' j hj
    · obtain ⟨u1, u2, u3, u4⟩ := kl i hi
      rw [F2 _ _ (by omega), F2 _ _ (by omega), F2 _ _ (by omega), F2 _ _ (by omega), F2 _ _ (by omega), w1 i (by omega), w2 i (by omega), w3 i (by omega), w4 i (by omega), w5 i (by omega), g125, g125, g125, g125, g125]
      exact ⟨u1, u2, u3, u4⟩
    · obtain ⟨u1, u2, u3⟩ := kb b hb
      rw [F2 _ _ (by omega), F2 _ _ (by omega), F2 _ _ (by omega), w7 b (by omega), w8 b (by omega), w9 b (by omega), g125, g125, g125]
      exact ⟨u1, u2, u3⟩
  have C2 : CH 1 p τ2 := CH_fr okp Cτ fun k i h1 h2 => by rw [F2 _ _ (by omega), b4 _ _ (by omega) (by omega) (by omega)]
  refine ⟨nI p.n, τ, τ2, p, ?_, ?_, okp, C2, M2, ⟨(F _ _ (by omega) (by omega) (by omega) (by omega)).trans r0.1, (F _ _ (by omega) (by omega) (by omega) (by omega)).trans r0.2⟩, ?_⟩
  · unfold f_X9_again
    have a1 : f_X2_copy (0 + 1) (0 + 16) σ = some τ := a1
    rw [if_neg (by rw [z1]; decide), a1, bd1_s]
    have : gI τ (0 + 1) 1 = nI p.n := Cτ.1.1
    rw [this]
  · have zz : gI τ 94 58 = 1 := (a3.1 _ _ (by unfold FH; omega)).trans z2
    unfold f_X10_again
    rw [if_neg (by rw [zz]; decide), nI_lit 0, b1, bd1_s]
    have t0' := t0
    rw [eτ] at t0'
    simp (disch := omega) only [nI_lit, Nat.reduceAdd, i0, i1, i2, i3, bd1_s, gI_ne]
    rw [← eτ]
    simp (disch := omega) only [gI_eq, s0]
  · obtain ⟨x1, x2, x3, x4, x5, x6, x7, x8⟩ := r1
    exact ⟨RT_fr x1 fun k i c => F k i (by omega) (by omega) (by omega) (by omega), RR_fr x2 fun k i c => F k i (by omega) (by omega) (by omega) (by omega), RD_fr x3 fun k i c => F k i (by omega) (by omega) (by omega) (by omega), RS_fr x4 (fun k i c => F k i (by omega) (by omega) (by omega) (by omega)) lz, RH_fr x5 fun k i c => F k i (by omega) (by omega) (by omega) (by omega), RK_fr x6 fun k i c => F k i (by omega) (by omega) (by omega) (by omega), RF_fr x7 fun k i c => F k i (by omega) (by omega) (by omega) (by omega), RG_fr x8 fun k i c => F k i (by omega) (by omega) (by omega) (by omega)⟩
end
