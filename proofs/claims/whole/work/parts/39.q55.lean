/-! rows, traces, sheets -/
section
variable {q : HQ} {σ σ' : Mem} {h o b v l s : Nat}
theorem inv_fr (I : Inv q σ) (e : ∀ k i, ((1 ≤ k ∧ k ≤ 15) ∨ (k = 94 ∧ (i = 0 ∨ i = 7 ∨ i = 8 ∨ i = 14 ∨ i = 13 ∨ i = 33)) ∨ (95 ≤ k ∧ k ≤ 104)) → gI σ' k i = gI σ k i) (r : R1 σ') : Inv q σ' :=
  ⟨I.1, CH_fr I.1 I.2.1 fun k i h1 h2 => e k i (by omega), MH_fr I.2.2.1 fun k i c => e k i (by omega), ⟨(e _ _ (by omega)).trans I.2.2.2.1.1, (e _ _ (by omega)).trans I.2.2.2.1.2⟩, r⟩
theorem has_ok {k c i w : Nat} (hc : c ≤ 20) (e : gI σ k 1 = nI c) (hi : i < c) (hw : w ≤ 2) : f_X4_has k (nI i) (nI w) σ = some (nI 1, σ) := by
  simp (disch := omega) only [f_X4_has, nI_lit, nI_addE, nI_mulE, nI_ltE, nI_leE, nI_eqE, nI_eqN, nI_Neq, nI_ltN, nI_Nlt, nI_leN, nI_Nle, nI_NeN, nI_subE, bd1_s, bd2_s, onrN, onrS, grd_t, grd_T, gI_eq, gI_ne, gL_pI, gI_pL, ltT, ltF, leT, leF, eqT, eqF, if_true, if_false, true_or, or_true, ite_true, ite_false, and_true, true_and, and_false, false_and, not_false_eq_true, not_true_eq_false, ↓reduceIte, in_eq, Nat.reduceAdd, Nat.reduceMul, Nat.zero_add, cE_f, cE_t, mE_f, mE_t, within_ok, ne_eq, e]
theorem has_no1 {k c : Nat} {x y : Int32} (e : gI σ k 1 = nI c) (b : Bad x c) : f_X4_has k x y σ = some (nI 0, σ) := by
  unfold f_X4_has
  rw [e, nI_lit 0, nI_lit 1, in_no b, bd2_s, if_pos rfl]
theorem has_no2 {k c i : Nat} {y : Int32} (hc : c ≤ 20) (e : gI σ k 1 = nI c) (hi : i < c) (b : y < nI 0 ∨ (¬ y < nI 0 ∧ nI 2 < y)) : f_X4_has k (nI i) y σ = some (nI 0, σ) := by
  unfold f_X4_has
  rw [e, nI_lit 0, nI_lit 1, nI_lit 2, in_ok hi (by omega), bd2_s, if_neg (by rw [nI10]; exact id), within_no _ b, bd2_s, if_pos rfl]
theorem isRow_ok {c i w : Nat} (hc : c ≤ 20) (e : gI σ 94 45 = nI c) (hi : i < c) (hw : w ≤ 2) : f_X10_isRow 94 (nI i) (nI w) σ = some (nI 1, σ) := by
  simp (disch := omega) only [f_X10_isRow, nI_lit, nI_addE, nI_mulE, nI_ltE, nI_leE, nI_eqE, nI_eqN, nI_Neq, nI_ltN, nI_Nlt, nI_leN, nI_Nle, nI_NeN, nI_subE, bd1_s, bd2_s, onrN, onrS, grd_t, grd_T, gI_eq, gI_ne, gL_pI, gI_pL, ltT, ltF, leT, leF, eqT, eqF, if_true, if_false, true_or, or_true, ite_true, ite_false, and_true, true_and, and_false, false_and, not_false_eq_true, not_true_eq_false, ↓reduceIte, in_eq, Nat.reduceAdd, Nat.reduceMul, Nat.zero_add, cE_f, cE_t, mE_f, mE_t, within_ok, ne_eq, e]
theorem isRow_no1 {c : Nat} {x y : Int32} (e : gI σ 94 45 = nI c) (b : Bad x c) : f_X10_isRow 94 x y σ = some (nI 0, σ) := by
  unfold f_X10_isRow
  rw [e, nI_lit 0, nI_lit 1, in_eq, in_no b, bd2_s, if_pos rfl]
theorem isRow_no2 {c i : Nat} {y : Int32} (hc : c ≤ 20) (e : gI σ 94 45 = nI c) (hi : i < c) (b : y < nI 0 ∨ (¬ y < nI 0 ∧ nI 2 < y)) : f_X10_isRow 94 (nI i) y σ = some (nI 0, σ) := by
  unfold f_X10_isRow
  rw [e, nI_lit 0, nI_lit 1, nI_lit 2, in_eq, in_ok hi (by omega), bd2_s, if_neg (by rw [nI10]; exact id), within_no _ b, bd2_s, if_pos rfl]
theorem op_row (I : Inv q σ) (a1 a2 : Int32) : OpOk (f_X9_row 0 a1 a2) (f_X10_row 94 a1 a2) σ := by
  obtain ⟨c, hc, d1, d2, d3⟩ := I.2.2.2.2.2.1
  rcases (arg3 a1 c (by omega)).symm with b | ⟨i, hi, rfl⟩
  · refine ⟨-9, σ, σ, q, ?_, ?_, I⟩
    · simp only [f_X9_row, Nat.reduceAdd, has_no1 d1 b, bd2_s, nI_lit, if_true]
    · simp only [f_X10_row, isRow_no1 d2 b, bd2_s, nI_lit, if_true]
  rcases (arg a2 0 2 (by omega) (by omega)).symm with b | ⟨w, -, hw, rfl⟩
  · refine ⟨-9, σ, σ, q, ?_, ?_, I⟩
    · simp only [f_X9_row, Nat.reduceAdd, has_no2 hc d1 hi b, bd2_s, nI_lit, if_true]
    · simp only [f_X10_row, isRow_no2 hc d2 hi b, bd2_s, nI_lit, if_true]
  have K := cell_ok (w := w) (.inl rfl) hc d1 hi hw
  simp only [Nat.reduceAdd] at K
  have i1 : ixo 117 (nI (3 * i + w)) = some (3 * i + w) := ixo_117 (by omega)
  refine ⟨gI σ 75 (3 * i + w), σ, σ, q, ?_, ?_, I⟩
  · simp only [f_X9_row, Nat.reduceAdd, has_ok hc d1 hi hw, bd2_s, nI_lit, nI10, if_false, K]
  · rw [d3 _ (by omega)]
    simp only [f_X10_row, isRow_ok hc d2 hi hw, bd2_s, bd1_s, nI_lit, nI10, if_false, nI_mulE, nI_addE, Nat.reduceAdd, i1]
theorem op_alterRow (I : Inv q σ) (a1 a2 a3 : Int32) : OpOk (f_X9_alterRow 0 a1 a2 a3) (f_X10_alterRow 94 a1 a2 a3) σ := by
  obtain ⟨c, hc, d1, d2, d3⟩ := I.2.2.2.2.2.1
  rcases (arg3 a1 c (by omega)).symm with b | ⟨i, hi, rfl⟩
  · refine ⟨-9, σ, σ, q, ?_, ?_, I⟩
    · simp only [f_X9_alterRow, Nat.reduceAdd, has_no1 d1 b, bd2_s, nI_lit, if_true]
    · simp only [f_X10_alterRow, isRow_no1 d2 b, bd2_s, nI_lit, if_true]
  rcases (arg a2 0 2 (by omega) (by omega)).symm with b | ⟨w, -, hw, rfl⟩
  · refine ⟨-9, σ, σ, q, ?_, ?_, I⟩
    · simp only [f_X9_alterRow, Nat.reduceAdd, has_no2 hc d1 hi b, bd2_s, nI_lit, if_true]
    · simp only [f_X10_alterRow, isRow_no2 hc d2 hi b, bd2_s, nI_lit, if_true]
  have K := cell_ok (w := w) (.inl rfl) hc d1 hi hw
  simp only [Nat.reduceAdd] at K
  have i1 : ixo 117 (nI (3 * i + w)) = some (3 * i + w) := ixo_117 (by omega)
  have i2 : ixo 75 (nI (i * 3 + w)) = some (3 * i + w) := by rw [Nat.mul_comm i 3]; exact ixo_75 (by omega)
  have d2' : gI (pI σ 75 (3 * i + w) a3) 94 45 = nI c := (gI_ne _ _ (by omega)).trans d2
  refine ⟨gI σ 75 (3 * i + w), pI σ 75 (3 * i + w) a3, pI (pI σ 75 (3 * i + w) a3) 117 (3 * i + w) a3, q, ?_, ?_, inv_fr I (fun k j c => by simp (disch := omega) only [gI_ne]) ?_⟩
  · simp only [f_X9_alterRow, f_X4_setCell, Nat.reduceAdd, has_ok hc d1 hi hw, bd2_s, bd1_s, nI_lit, nI10, if_false, K, nI_mulE, nI_addE, i2]
  · have e : gI (pI σ 75 (3 * i + w) a3) 117 (3 * i + w) = gI σ 75 (3 * i + w) := by rw [gI_ne _ _ (by omega)]; exact (d3 _ (by omega)).symm
    simp only [f_X10_alterRow, isRow_ok hc d2' hi hw, bd2_s, bd1_s, nI_lit, nI10, if_false, nI_mulE, nI_addE, Nat.reduceAdd, i1, e]
  · obtain ⟨x1, x2, x3, x4, x5, x6, x7, x8⟩ := I.2.2.2.2
    have g : ∀ k j, k ≠ 75 → k ≠ 117 → gI (pI (pI σ 75 (3 * i + w) a3) 117 (3 * i + w) a3) k j = gI σ k j := fun k j h1 h2 => by rw [gI_ne _ _ (by omega), gI_ne _ _ (by omega)]
    refine ⟨RT_fr x1 fun k i c => g k i (by omega) (by omega), ⟨c, hc, (g _ _ (by omega) (by omega)).trans d1, (g _ _ (by omega) (by omega)).trans d2, fun j hj => ?_⟩, RD_fr x3 fun k i c => g k i (by omega) (by omega), RS_fr x4 (fun k i c => g k i (by omega) (by omega)) rfl, RH_fr x5 fun k i c => g k i (by omega) (by omega), RK_fr x6 fun k i c => g k i (by omega) (by omega), RF_fr x7 fun k i c => g k i (by omega) (by omega), RG_fr x8 fun k i c => g k i (by omega) (by omega)⟩
    by_cases e : j = 3 * i + w
    · simp (disch := omega) only [gI_eq, gI_ne, gL_pI, gI_pL]
    · simp (disch := omega) only [gI_eq, gI_ne, gL_pI, gI_pL]; exact d3 j hj
theorem op_trace (I : Inv q σ) (a1 : Int32) : OpOk (f_X9_trace 0 a1) (f_X10_trace 94 a1) σ := by
  obtain ⟨c, hc, d1, d2, d3⟩ := I.2.2.2.2.2.2.1
  rcases (arg3 a1 c (by omega)).symm with b | ⟨i, hi, rfl⟩
  · refine ⟨-3, σ, σ, q, ?_, ?_, I⟩
    · unfold f_X9_trace f_X1_bodyAt
      have d1' : gI σ (0 + 80) 1 = nI c := d1
      rw [d1']
      rcases b with b | ⟨b1, b2, -⟩
      · have b' : a1 < (0 : Int32) := b
        rw [if_pos b', bd2_s]
      · have b' : ¬ a1 < (0 : Int32) := b1
        rw [if_neg b', if_pos b2, bd2_s]
    · unfold f_X10_trace
      rw [d2, nI_lit 0, nI_lit 1, in_eq, in_no b, bd2_s, if_pos rfl]
  have i1 : ixo 81 (nI i) = some i := ixo_81 (by omega)
  have i2 : ixo 124 (nI i) = some i := ixo_124 (by omega)
  refine ⟨gI σ 81 i, σ, σ, q, ?_, ?_, I⟩
  · simp (disch := omega) only [f_X9_trace, f_X1_bodyAt, nI_lit, nI_addE, nI_mulE, nI_ltE, nI_leE, nI_eqE, nI_eqN, nI_Neq, nI_ltN, nI_Nlt, nI_leN, nI_Nle, nI_NeN, nI_subE, bd1_s, bd2_s, onrN, onrS, grd_t, grd_T, gI_eq, gI_ne, gL_pI, gI_pL, ltT, ltF, leT, leF, eqT, eqF, if_true, if_false, true_or, or_true, ite_true, ite_false, and_true, true_and, and_false, false_and, not_false_eq_true, not_true_eq_false, ↓reduceIte, in_eq, Nat.reduceAdd, Nat.reduceMul, Nat.zero_add, cE_f, cE_t, mE_f, mE_t, within_ok, ne_eq, d1, i1]
  · rw [d3 i hi]
    simp (disch := omega) only [f_X10_trace, nI_lit, nI_addE, nI_mulE, nI_ltE, nI_leE, nI_eqE, nI_eqN, nI_Neq, nI_ltN, nI_Nlt, nI_leN, nI_Nle, nI_NeN, nI_subE, bd1_s, bd2_s, onrN, onrS, grd_t, grd_T, gI_eq, gI_ne, gL_pI, gI_pL, ltT, ltF, leT, leF, eqT, eqF, if_true, if_false, true_or, or_true, ite_true, ite_false, and_true, true_and, and_false, false_and, not_false_eq_true, not_true_eq_false, ↓reduceIte, in_eq, Nat.reduceAdd, Nat.reduceMul, Nat.zero_add, cE_f, cE_t, mE_f, mE_t, within_ok, ne_eq, d2, i2]
/-! sheets -/
theorem kd_sheet (hs : s < 4) : kd (82 + 2 * s) = 5 := by
  have : s = 0 ∨ s = 1 ∨ s = 2 ∨ s = 3 := by omega
  rcases this with rfl | rfl | rfl | rfl <;> decide
theorem al_sheet (hs : s < 4) : al (83 + 2 * s) = 40 := by
  have : s = 0 ∨ s = 1 ∨ s = 2 ∨ s = 3 := by omega
  rcases this with rfl | rfl | rfl | rfl <;> decide
theorem ixo_sheet {i : Nat} (hs : s < 4) (hi : i < 40) : ixo (82 + 2 * s + 1) (nI i) = some i := by
  have : 82 + 2 * s + 1 = 83 + 2 * s := by omega
  rw [this]
  exact ixo_nI (by rw [al_sheet hs]; exact hi) (by omega)
theorem s83 (s : Nat) : 82 + 2 * s + 1 = 83 + 2 * s := by omega
theorem sheetAt_ok (hs : s < 4) : f_X9_sheetAt 0 (nI s) σ = some (some (82 + 2 * s), σ) := by
  have e : (78 : Nat) + 4 + 2 * s = 82 + 2 * s := by omega
  simp (disch := omega) only [f_X9_sheetAt, nI_lit, nI_addE, nI_mulE, nI_ltE, nI_leE, nI_eqE, nI_eqN, nI_Neq, nI_ltN, nI_Nlt, nI_leN, nI_Nle, nI_NeN, nI_subE, bd1_s, bd2_s, onrN, onrS, grd_t, grd_T, gI_eq, gI_ne, gL_pI, gI_pL, ltT, ltF, leT, leF, eqT, eqF, if_true, if_false, true_or, or_true, ite_true, ite_false, and_true, true_and, and_false, false_and, not_false_eq_true, not_true_eq_false, ↓reduceIte, in_eq, Nat.reduceAdd, Nat.reduceMul, Nat.zero_add, cE_f, cE_t, mE_f, mE_t, within_ok, ne_eq, ixo_2, ixo_3, ixo_4, ixo_17, ixo_18, ixo_19, ixo_32, ixo_33, ixo_34, ixo_47, ixo_50, ixo_51, ixo_52, ixo_64, ixo_65, ixo_66, ixo_67, ixo_68, ixo_69, ixo_70, ixo_71, ixo_72, ixo_73, ixo_75, ixo_77, ixo_78, ixo_79, ixo_81, ixo_83, ixo_85, ixo_87, ixo_89]
theorem sheetAt_no {x : Int32} (b : x < nI 0 ∨ (¬ x < nI 0 ∧ nI 3 < x)) : f_X9_sheetAt 0 x σ = some (none, σ) := by
  simp only [f_X9_sheetAt, nI_lit, within_no _ b, bd2_s, if_true]
theorem argm (x : Int32) : x = -nI 1 ∨ (∃ n, n ≤ 3 ∧ x = nI n) ∨ (x < -nI 1 ∨ (¬ x < -nI 1 ∧ nI 3 < x)) := by
  by_cases h1 : x < -nI 1
  · exact .inr (.inr (.inl h1))
  · by_cases h2 : nI 3 < x
    · exact .inr (.inr (.inr ⟨h1, h2⟩))
    · rw [Int32.lt_iff_toInt_lt, nI_negI (by omega)] at h1
      rw [Int32.lt_iff_toInt_lt, nI_toInt (by omega : 3 < 2 ^ 31)] at h2
      by_cases h3 : x.toInt = -1
      · left
        apply Int32.toInt_inj.mp
        rw [nI_negI (by omega)]
        omega
      · right; left
        refine ⟨x.toInt.toNat, by omega, ?_⟩
        apply Int32.toInt_inj.mp
        rw [nI_toInt (by omega : x.toInt.toNat < 2 ^ 31)]
        omega
theorem within_m1 : f_X9_within (-nI 1) (-nI 1) (nI 3) σ = some (nI 1, σ) := by
  unfold f_X9_within
  rw [if_neg (by rw [Int32.lt_iff_toInt_lt]; omega), if_neg (by rw [nI_ltN (by omega) (by omega) (by omega)]; exact id)]
  rfl
theorem within_mn {n : Nat} (h : n ≤ 3) : f_X9_within (nI n) (-nI 1) (nI 3) σ = some (nI 1, σ) := by
  unfold f_X9_within
  rw [if_neg (by rw [nI_ltN (by omega) (by omega) (by omega)]; exact id), if_neg (by rw [nI_ltE (by omega) (by omega)]; omega)]
  rfl
theorem remake_loop (hs : s < 4) : ∀ (d i : Nat) (σ1 : Mem) (fuel : Nat), i + d = 40 → d < fuel → Fr (fun k _ => k = 83 + 2 * s) σ σ1 → (∀ j, j < i → gI σ1 (83 + 2 * s) j = nI 0) → ∃ σ2, iterF (F_X5_remake_12 (82 + 2 * s)) (fun _ _ => none) fuel (nI i) σ1 = some σ2 ∧ Fr (fun k _ => k = 83 + 2 * s) σ σ2 ∧ ∀ j, j < 40 → gI σ2 (83 + 2 * s) j = nI 0 := by
  intro d
  induction d with
  | zero =>
    intro i σ1 fuel hi hf F E
    obtain ⟨f, rfl⟩ : ∃ f, fuel = f + 1 := ⟨fuel - 1, by omega⟩
    have : i = 40 := by omega
    subst this
    refine ⟨σ1, ?_, F, E⟩
    show F_X5_remake_12 _ _ _ _ = _
    simp (disch := omega) only [F_X5_remake_12, nI_lit, nI_addE, nI_mulE, nI_ltE, nI_leE, nI_eqE, nI_eqN, nI_Neq, nI_ltN, nI_Nlt, nI_leN, nI_Nle, nI_NeN, nI_subE, bd1_s, bd2_s, onrN, onrS, grd_t, grd_T, gI_eq, gI_ne, gL_pI, gI_pL, ltT, ltF, leT, leF, eqT, eqF, if_true, if_false, true_or, or_true, ite_true, ite_false, and_true, true_and, and_false, false_and, not_false_eq_true, not_true_eq_false, ↓reduceIte, in_eq, Nat.reduceAdd, Nat.reduceMul, Nat.zero_add, cE_f, cE_t, mE_f, mE_t, within_ok, ne_eq]
  | succ d ih =>
    intro i σ1 fuel hi hf F E
    obtain ⟨f, rfl⟩ : ∃ f, fuel = f + 1 := ⟨fuel - 1, by omega⟩
    obtain ⟨σ2, r1, r2, r3⟩ := ih (i + 1) (pI σ1 (83 + 2 * s) i (nI 0)) f (by omega) (by omega) (Fr_pI _ F rfl) (fun j hj => by
      by_cases e : j = i
      · simp (disch := omega) only [gI_eq, gI_ne, gL_pI, gI_pL, e]
      · simp (disch := omega) only [gI_eq, gI_ne, gL_pI, gI_pL]; exact E j (by omega))
    refine ⟨σ2, Eq.trans ?_ r1, r2, r3⟩
    show F_X5_remake_12 _ _ _ _ = _
    generalize iterF (F_X5_remake_12 (82 + 2 * s)) (fun _ _ => none) f = R
    have i1 := ixo_sheet hs (by omega : i < 40)
    rw [s83] at i1
    simp (disch := omega) only [F_X5_remake_12, nI_lit, nI_leE, nI_addE, ltT, ltF, leT, leF, eqT, eqF, ↓reduceIte, bd1_s, bd2_s, onrN, onrS, grd_t, grd_T, i1, s83]
theorem gI_pL' (k i : Nat) (v : Int64) : (pL σ k i v).1 = σ.1 := rfl
theorem gL_pL (k i : Nat) (v : Int64) (k' i' : Nat) : gL (pL σ k i v) k' i' = if k' = k ∧ i' = i then v else gL σ k' i' := by
  unfold gL pL vp_updL
  by_cases h : k' = k
  · subst h
    by_cases h2 : i' = i <;> simp [h2]
  · simp [h]
theorem sheet_loop (hs : s < 4) : ∀ (d i : Nat) (σ1 : Mem) (fuel : Nat), i + d = 40 → d < fuel → σ1.1 = σ.1 → (∀ k j, ¬ (k = 120 ∧ 40 * s ≤ j ∧ j < 40 * s + 40) → gL σ1 k j = gL σ k j) → (∀ j, j < i → gL σ1 120 (40 * s + j) = 0) → ∃ σ2, iterF (F_X10_sheet_64 94 (nI s)) (fun _ _ => none) fuel (nI i) σ1 = some (nI 1, σ2) ∧ σ2.1 = σ.1 ∧ (∀ k j, ¬ (k = 120 ∧ 40 * s ≤ j ∧ j < 40 * s + 40) → gL σ2 k j = gL σ k j) ∧ ∀ j, j < 40 → gL σ2 120 (40 * s + j) = 0 := by
  intro d
  induction d with
  | zero =>
    intro i σ1 fuel hi hf F G E
    obtain ⟨f, rfl⟩ : ∃ f, fuel = f + 1 := ⟨fuel - 1, by omega⟩
    have : i = 40 := by omega
    subst this
    refine ⟨σ1, ?_, F, G, E⟩
    show F_X10_sheet_64 _ _ _ _ _ = _
    simp (disch := omega) only [F_X10_sheet_64, nI_lit, nI_addE, nI_mulE, nI_ltE, nI_leE, nI_eqE, nI_eqN, nI_Neq, nI_ltN, nI_Nlt, nI_leN, nI_Nle, nI_NeN, nI_subE, bd1_s, bd2_s, onrN, onrS, grd_t, grd_T, gI_eq, gI_ne, gL_pI, gI_pL, ltT, ltF, leT, leF, eqT, eqF, if_true, if_false, true_or, or_true, ite_true, ite_false, and_true, true_and, and_false, false_and, not_false_eq_true, not_true_eq_false, ↓reduceIte, in_eq, Nat.reduceAdd, Nat.reduceMul, Nat.zero_add, cE_f, cE_t, mE_f, mE_t, within_ok, ne_eq]
  | succ d ih =>
    intro i σ1 fuel hi hf F G E
    obtain ⟨f, rfl⟩ : ∃ f, fuel = f + 1 := ⟨fuel - 1, by omega⟩
    obtain ⟨σ2, r1, r2, r3, r4⟩ := ih (i + 1) (pL σ1 120 (40 * s + i) 0) f (by omega) (by omega) F (fun k j hk => by rw [gL_pL, if_neg (by omega)]; exact G k j hk) (fun j hj => by
      rw [gL_pL]
      by_cases e : j = i
      · rw [if_pos ⟨rfl, by omega⟩]
      · rw [if_neg (by omega)]; exact E j (by omega))
    refine ⟨σ2, Eq.trans ?_ r1, r2, r3, r4⟩
    show F_X10_sheet_64 _ _ _ _ _ = _
    generalize iterF (F_X10_sheet_64 94 (nI s)) (fun _ _ => none) f = R
    have i1 : ixo 120 (nI (40 * s + i)) = some (40 * s + i) := ixo_120 (by omega)
    simp (disch := omega) only [F_X10_sheet_64, nI_lit, nI_leE, nI_addE, nI_mulE, ltT, ltF, leT, leF, eqT, eqF, ↓reduceIte, bd1_s, bd2_s, onrN, onrS, grd_t, grd_T, Nat.reduceAdd, i1]
end
