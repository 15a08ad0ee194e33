section
variable {q : HQ} {σ σ' : Mem} {h o b v l s : Nat}
/-- all but the sheets stays -/
theorem R1_sheets (r : R1 σ) (e : ∀ k i, ¬ ((82 ≤ k ∧ k ≤ 89) ∨ k = 118 ∨ k = 119) → gI σ' k i = gI σ k i) (x : RS σ') : R1 σ' := by
  obtain ⟨x1, x2, x3, x4, x5, x6, x7, x8⟩ := r
  exact ⟨RT_fr x1 fun k i c => e k i (by omega), RR_fr x2 fun k i c => e k i (by omega), RD_fr x3 fun k i c => e k i (by omega), x, RH_fr x5 fun k i c => e k i (by omega), RK_fr x6 fun k i c => e k i (by omega), RF_fr x7 fun k i c => e k i (by omega), RG_fr x8 fun k i c => e k i (by omega)⟩
theorem remake_ok (hs : s < 4) (t n : Int32) : ∃ σ', f_X5_remake (82 + 2 * s) t n σ = some σ' ∧ gI σ' (82 + 2 * s) 1 = t ∧ gI σ' (82 + 2 * s) 2 = n ∧ (∀ j, j < 40 → gI σ' (83 + 2 * s) j = nI 0) ∧ Fr (fun k _ => k = 82 + 2 * s ∨ k = 83 + 2 * s) σ σ' := by
  obtain ⟨σ2, r1, r2, r3⟩ := remake_loop (σ := pI (pI σ (82 + 2 * s) 1 t) (82 + 2 * s) 2 n) hs 40 0 _ FU (by omega) (FU_lt (by omega)) (Fr_rfl _ _) (fun j hj => by omega)
  refine ⟨σ2, r1, ?_, ?_, r3, Fr_tr (Fr_pI _ (Fr_pI _ (Fr_rfl _ _) (.inl rfl)) (.inl rfl)) (Fr_mono r2 fun k i c => .inr c)⟩
  · rw [r2.1 _ _ (by omega)]; simp (disch := omega) only [gI_eq, gI_ne, gL_pI, gI_pL]
  · rw [r2.1 _ _ (by omega)]; simp (disch := omega) only [gI_eq, gI_ne, gL_pI, gI_pL]
theorem sheet39 (hs : s < 4) {t n : Int32} {m : Nat} (ht : (t = -nI 1 ∧ m = 0) ∨ (∃ k, k ≤ 3 ∧ t = nI k ∧ n = nI m)) : ∃ σ', F_X10_sheet_39 94 (nI s) t n σ = some (nI 1, σ') ∧ gI σ' 118 s = t ∧ gI σ' 119 s = nI m ∧ (∀ k i, ¬ ((k = 118 ∧ i = s) ∨ (k = 119 ∧ i = s)) → gI σ' k i = gI σ k i) ∧ (∀ k j, ¬ (k = 120 ∧ 40 * s ≤ j ∧ j < 40 * s + 40) → gL σ' k j = gL σ k j) ∧ ∀ j, j < 40 → gL σ' 120 (40 * s + j) = 0 := by
  have i1 : ixo 118 (nI s) = some s := ixo_118 (by omega)
  have i2 : ixo 119 (nI s) = some s := ixo_119 (by omega)
  obtain ⟨σ2, r1, r2, r3, r4⟩ := sheet_loop (σ := pI (pI σ 118 s t) 119 s (nI m)) hs 40 0 (pI (pI σ 118 s t) 119 s (nI m)) FU (by omega) (FU_lt (by omega)) rfl (fun _ _ _ => rfl) (fun j hj => by omega)
  have g : ∀ k i, gI σ2 k i = gI (pI (pI σ 118 s t) 119 s (nI m)) k i := fun k i => by unfold gI; rw [r2]
  refine ⟨σ2, Eq.trans ?_ r1, ?_, ?_, fun k i c => ?_, r3, r4⟩
  · show bd1 (ixo 118 (nI s)) _ = _
    rw [i1, bd1_s, bd1_s]
    rcases ht with ⟨rfl, rfl⟩ | ⟨k, hk, rfl, rfl⟩
    · rw [if_neg (by rw [nI_lit 0, nI_leN (by omega) (by omega) (by omega)]; exact id)]
      show bd1 (ixo 119 (nI s)) _ = _
      rw [i2, bd1_s, bd1_s]
      rfl
    · rw [if_pos (by rw [nI_lit 0, nI_leE (by omega) (by omega)]; omega)]
      show bd1 (ixo 119 (nI s)) _ = _
      rw [i2, bd1_s, bd1_s]
      rfl
  · rw [g]; simp (disch := omega) only [gI_eq, gI_ne, gL_pI, gI_pL]
  · rw [g]; simp (disch := omega) only [gI_eq, gI_ne, gL_pI, gI_pL]
  · rw [g, gI_ne _ _ (by omega), gI_ne _ _ (by omega)]
theorem RS_new (r : RS σ) (hs : s < 4) {t : Int32} {m : Nat} (hm : m ≤ 40) (ht : t = -1 ∨ ∃ k, k ≤ 3 ∧ t = nI k)
    (e1 : gI σ' (82 + 2 * s) 1 = t) (e2 : gI σ' (82 + 2 * s) 2 = nI m) (e3 : ∀ j, j < 40 → gI σ' (83 + 2 * s) j = nI 0) (e4 : gI σ' 118 s = t) (e5 : gI σ' 119 s = nI m) (e6 : ∀ j, j < 40 → gL σ' 120 (40 * s + j) = 0)
    (f : ∀ k i, ¬ (k = 82 + 2 * s ∨ k = 83 + 2 * s ∨ (k = 118 ∧ i = s) ∨ (k = 119 ∧ i = s)) → gI σ' k i = gI σ k i) (g : ∀ k j, ¬ (k = 120 ∧ 40 * s ≤ j ∧ j < 40 * s + 40) → gL σ' k j = gL σ k j) : RS σ' := by
  intro u hu
  by_cases e : u = s
  · subst e
    refine ⟨?_, ⟨m, hm, e2, e5⟩, fun i hi => ?_⟩
    · rw [e1, e4]
      rcases ht with rfl | ⟨k, hk, rfl⟩
      · exact .inl ⟨rfl, rfl⟩
      · exact .inr ⟨k, hk, rfl, rfl⟩
    · rw [e6 i hi, e3 i hi]; rfl
  · obtain ⟨h1, h2, h3⟩ := r u hu
    refine ⟨?_, ?_, fun i hi => ?_⟩
    · rw [f _ _ (by omega), f _ _ (by omega)]; exact h1
    · rw [f _ _ (by omega), f _ _ (by omega)]; exact h2
    · rw [g _ _ (by omega), f _ _ (by omega)]; exact h3 i hi
theorem sheet_both (I : Inv q σ) (hs : s < 4) {t n : Int32} {m : Nat} (hm : m ≤ 40) (ht : (t = -nI 1 ∧ m = 0) ∨ (∃ k, k ≤ 3 ∧ t = nI k ∧ n = nI m)) : ∃ σ1 σ2, f_X5_remake (82 + 2 * s) t (nI m) σ = some σ1 ∧ F_X10_sheet_39 94 (nI s) t n σ1 = some (nI 1, σ2) ∧ Inv q σ2 := by
  obtain ⟨σ1, a1, a2, a3, a4, a5⟩ := remake_ok (σ := σ) hs t (nI m)
  obtain ⟨σ2, b1, b2, b3, b4, b5, b6⟩ := sheet39 (σ := σ1) hs ht
  have f : ∀ k i, ¬ (k = 82 + 2 * s ∨ k = 83 + 2 * s ∨ (k = 118 ∧ i = s) ∨ (k = 119 ∧ i = s)) → gI σ2 k i = gI σ k i := fun k i c => by rw [b4 k i (by omega), a5.1 k i (by omega)]
  have hl : ∀ k j, gL σ1 k j = gL σ k j := fun k j => by unfold gL; rw [a5.2]
  refine ⟨σ1, σ2, a1, b1, inv_fr I (fun k i c => f k i (by omega)) (R1_sheets I.2.2.2.2 (fun k i c => f k i (by omega)) (RS_new I.2.2.2.2.2.2.2.1 hs hm ?_ ?_ ?_ (fun j hj => ?_) b2 b3 b6 f fun k j c => by rw [b5 k j c, hl]))⟩
  · rcases ht with ⟨rfl, -⟩ | ⟨k, hk, rfl, -⟩
    · exact .inl rfl
    · exact .inr ⟨k, hk, rfl⟩
  · rw [b4 _ _ (by omega)]; exact a2
  · rw [b4 _ _ (by omega)]; exact a3
  · rw [b4 _ _ (by omega)]; exact a4 j hj
theorem op_sheet (I : Inv q σ) (a1 a2 a3 : Int32) : OpOk (f_X9_sheet 0 a1 a2 a3) (f_X10_sheet 94 a1 a2 a3) σ := by
  rcases (arg a1 0 3 (by omega) (by omega)).symm with b | ⟨s, -, hs, rfl⟩
  · refine ⟨-1, σ, σ, q, ?_, ?_, I⟩
    · simp only [f_X9_sheet, sheetAt_no b, bd2_s, onrN]
    · simp only [f_X10_sheet, isShelf_no b, bd2_s, nI_lit, if_true]
  have hs4 : s < 4 := by omega
  have ks := kd_sheet hs4
  rcases argm a2 with rfl | ⟨k, hk, rfl⟩ | b
  · obtain ⟨σ1, σ2, c1, c2, c3⟩ := sheet_both (m := 0) (n := a3) I hs4 (by omega) (.inl ⟨rfl, rfl⟩)
    refine ⟨nI 1, σ1, σ2, q, ?_, ?_, c3⟩
    · simp only [f_X9_sheet, sheetAt_ok hs4, bd2_s, bd1_s, onrS, grd_t ks, nI_lit, within_m1, nI10, if_false, if_true, c1]
    · have z : (-nI 1 < nI 0) = True := by rw [nI_Nlt (by omega) (by omega) (by omega)]
      simp only [f_X10_sheet, isShelf_ok hs, bd2_s, nI_lit, in_eq, within_m1, nI10, if_false, z, if_true, c2]
  · have nm : (nI k = -nI 1) = False := nI_eqN (by omega) (by omega) (by omega)
    have ng : (nI k < nI 0) = False := by rw [nI_ltE (by omega) (by omega)]; simp
    rcases (arg a3 0 40 (by omega) (by omega)).symm with b | ⟨m, -, hm, rfl⟩
    · rcases b with b | ⟨b1, b2⟩
      · have le40 : (a3 ≤ nI 40) = True := eq_true <| by
          rw [Int32.le_iff_toInt_le, nI_toInt (by omega : 40 < 2 ^ 31)]
          rw [Int32.lt_iff_toInt_lt, nI_toInt (by omega : 0 < 2 ^ 31)] at b
          omega
        have nle0 : (nI 0 ≤ a3) = False := eq_false <| by
          rw [Int32.le_iff_toInt_le, nI_toInt (by omega : 0 < 2 ^ 31)]
          rw [Int32.lt_iff_toInt_lt, nI_toInt (by omega : 0 < 2 ^ 31)] at b
          omega
        refine ⟨-nI 14, σ, σ, q, ?_, ?_, I⟩
        · simp only [f_X9_sheet, sheetAt_ok hs4, bd2_s, bd1_s, onrS, grd_t ks, nI_lit, within_mn hk, nI10, if_false, nm, le40, nle0, if_true]
        · simp only [f_X10_sheet, isShelf_ok hs, bd2_s, nI_lit, in_eq, within_mn hk, nI10, if_false, ng, le40, nle0, if_true]
      · have nle40 : (a3 ≤ nI 40) = False := eq_false <| by
          rw [Int32.le_iff_toInt_le, nI_toInt (by omega : 40 < 2 ^ 31)]
          rw [Int32.lt_iff_toInt_lt, nI_toInt (by omega : 40 < 2 ^ 31)] at b2
          omega
        refine ⟨-nI 1, σ, σ, q, ?_, ?_, I⟩
        · simp only [f_X9_sheet, sheetAt_ok hs4, bd2_s, bd1_s, onrS, grd_t ks, nI_lit, within_mn hk, nI10, if_false, nm, nle40]
        · simp only [f_X10_sheet, isShelf_ok hs, bd2_s, nI_lit, in_eq, within_mn hk, nI10, if_false, ng, nle40]
    · obtain ⟨σ1, σ2, c1, c2, c3⟩ := sheet_both (m := m) (n := nI m) I hs4 hm (.inr ⟨k, hk, rfl, rfl⟩)
      have le40 : (nI m ≤ nI 40) = True := eq_true <| by rw [nI_leE (by omega) (by omega)]; exact hm
      have le0 : (nI 0 ≤ nI m) = True := eq_true <| by rw [nI_leE (by omega) (by omega)]; omega
      refine ⟨nI 1, σ1, σ2, q, ?_, ?_, c3⟩
      · simp only [f_X9_sheet, sheetAt_ok hs4, bd2_s, bd1_s, onrS, grd_t ks, nI_lit, within_mn hk, nI10, if_false, nm, le40, le0, if_true, c1]
      · simp only [f_X10_sheet, isShelf_ok hs, bd2_s, nI_lit, in_eq, within_mn hk, nI10, if_false, ng, le40, le0, if_true, c2]
  · refine ⟨-nI 1, σ, σ, q, ?_, ?_, I⟩
    · simp only [f_X9_sheet, sheetAt_ok hs4, bd2_s, onrS, grd_t ks, nI_lit, within_no _ b, if_true]
    · simp only [f_X10_sheet, isShelf_ok hs, bd2_s, nI_lit, in_eq, within_no _ b, nI10, if_false, if_true]
theorem miss_t (e : gI σ (82 + 2 * s) 1 = -1) : f_X5_isMissing (82 + 2 * s) σ = some (nI 1, σ) := by
  unfold f_X5_isMissing
  rw [if_pos e]
  rfl
theorem miss_f {t : Nat} (ht : t ≤ 3) (e : gI σ (82 + 2 * s) 1 = nI t) : f_X5_isMissing (82 + 2 * s) σ = some (nI 0, σ) := by
  have : (nI t = -nI 1) = False := nI_eqN (by omega) (by omega) (by omega)
  simp only [f_X5_isMissing, e, nI_lit, this, if_false]
theorem shas_ok {n i : Nat} (hn : n ≤ 40) (e : gI σ (82 + 2 * s) 2 = nI n) (hi : i < n) : f_X5_has (82 + 2 * s) (nI i) σ = some (nI 1, σ) := by
  simp (disch := omega) only [f_X5_has, nI_lit, nI_addE, nI_mulE, nI_ltE, nI_leE, nI_eqE, nI_eqN, nI_Neq, nI_ltN, nI_Nlt, nI_leN, nI_Nle, nI_NeN, nI_subE, bd1_s, bd2_s, onrN, onrS, grd_t, grd_T, gI_eq, gI_ne, gL_pI, gI_pL, ltT, ltF, leT, leF, eqT, eqF, if_true, if_false, true_or, or_true, ite_true, ite_false, and_true, true_and, and_false, false_and, not_false_eq_true, not_true_eq_false, ↓reduceIte, in_eq, Nat.reduceAdd, Nat.reduceMul, Nat.zero_add, cE_f, cE_t, mE_f, mE_t, within_ok, ne_eq, e]
theorem shas_no {n : Nat} {x : Int32} (e : gI σ (82 + 2 * s) 2 = nI n) (b : Bad x n) : f_X5_has (82 + 2 * s) x σ = some (nI 0, σ) := by
  unfold f_X5_has
  rw [e, nI_lit 0, nI_lit 1, in_no b, bd2_s, if_pos rfl]
theorem op_item (I : Inv q σ) (a1 a2 a3 : Int32) : OpOk (f_X9_item 0 a1 a2 a3) (f_X10_item 94 a1 a2 a3) σ := by
  rcases (arg a1 0 3 (by omega) (by omega)).symm with b | ⟨s, -, hs, rfl⟩
  · refine ⟨-1, σ, σ, q, ?_, ?_, I⟩
    · simp only [f_X9_item, sheetAt_no b, bd2_s, onrN]
    · simp only [f_X10_item, isShelf_no b, bd2_s, nI_lit, if_true]
  have hs4 : s < 4 := by omega
  have ks := kd_sheet hs4
  obtain ⟨r1, ⟨n, hn, n1, n2⟩, r3⟩ := I.2.2.2.2.2.2.2.1 s hs4
  have i1 : ixo 118 (nI s) = some s := ixo_118 (by omega)
  have i2 : ixo 119 (nI s) = some s := ixo_119 (by omega)
  rcases (arg a2 0 3 (by omega) (by omega)).symm with b | ⟨k, -, hk, rfl⟩
  · refine ⟨-1, σ, σ, q, ?_, ?_, I⟩
    · simp only [f_X9_item, sheetAt_ok hs4, bd2_s, onrS, grd_t ks, nI_lit, within_no _ b, if_true]
    · simp only [f_X10_item, isShelf_ok hs, bd2_s, nI_lit, nI10, if_false, in_eq, within_no _ b, if_true]
  have wk := within_ok (n := k) (lo := 0) (hi := 3) σ (Nat.zero_le k) hk (by decide)
  rcases r1 with ⟨t1, t2⟩ | ⟨t, ht, t1, t2⟩
  · have g : ¬ nI 0 ≤ (-1 : Int32) := by decide
    refine ⟨-nI 11, σ, σ, q, ?_, ?_, I⟩
    · simp only [f_X9_item, sheetAt_ok hs4, bd2_s, onrS, grd_t ks, nI_lit, wk, nI10, if_false, miss_t t1]
    · have z : (-nI 11 = nI 0) = False := nI_Neq (by omega) (by omega) (by omega)
      have L : f_X10_lacksSort 94 (nI s) (nI k) σ = some (-nI 11, σ) := by
        unfold f_X10_lacksSort
        simp only [Nat.reduceAdd, i1, bd1_s, t2]
        exact if_neg g
      simp only [f_X10_item, isShelf_ok hs, bd2_s, nI_lit, nI10, if_false, in_eq, wk, L, z]
  · by_cases e : t = k
    · subst e
      have L : f_X10_lacksSort 94 (nI s) (nI t) σ = some (nI 0, σ) := by
        simp (disch := omega) only [f_X10_lacksSort, nI_lit, nI_addE, nI_mulE, nI_ltE, nI_leE, nI_eqE, nI_eqN, nI_Neq, nI_ltN, nI_Nlt, nI_leN, nI_Nle, nI_NeN, nI_subE, bd1_s, bd2_s, onrN, onrS, grd_t, grd_T, gI_eq, gI_ne, gL_pI, gI_pL, ltT, ltF, leT, leF, eqT, eqF, if_true, if_false, true_or, or_true, ite_true, ite_false, and_true, true_and, and_false, false_and, not_false_eq_true, not_true_eq_false, ↓reduceIte, in_eq, Nat.reduceAdd, Nat.reduceMul, Nat.zero_add, cE_f, cE_t, mE_f, mE_t, within_ok, ne_eq, i1, t2]
      rcases (arg3 a3 n (by omega)).symm with b | ⟨i, hi, rfl⟩
      · refine ⟨-nI 12, σ, σ, q, ?_, ?_, I⟩
        · simp only [f_X9_item, sheetAt_ok hs4, bd2_s, onrS, grd_t ks, nI_lit, wk, nI10, if_false, miss_f ht t1, if_true, t1, shas_no n1 b]
        · simp only [f_X10_item, isShelf_ok hs, bd2_s, bd1_s, nI_lit, nI10, if_false, in_eq, wk, L, if_true, Nat.reduceAdd, i2, n2, in_no b]
      · have V := r3 i (by omega)
        have i3 : ixo 120 (nI (40 * s + i)) = some (40 * s + i) := ixo_120 (by omega)
        have i4 := ixo_sheet hs4 (by omega : i < 40)
        rw [s83] at i4
        refine ⟨gI σ (83 + 2 * s) i, σ, σ, q, ?_, ?_, I⟩
        · simp only [f_X9_item, f_X5_itemAt, sheetAt_ok hs4, bd2_s, bd1_s, onrS, grd_t ks, nI_lit, wk, nI10, if_false, miss_f ht t1, if_true, t1, shas_ok hn n1 hi, i4, s83]
        · simp only [f_X10_item, isShelf_ok hs, bd2_s, bd1_s, nI_lit, nI10, if_false, in_eq, wk, L, if_true, Nat.reduceAdd, i2, n2, in_ok hi (by omega : n < 2147483648), nI_mulE, nI_addE, i3, V, Int32.toInt32_toInt64]
    · have ne : (nI t = nI k) = False := by rw [nI_eqE (by omega) (by omega)]; exact eq_false e
      refine ⟨-nI 13, σ, σ, q, ?_, ?_, I⟩
      · simp only [f_X9_item, sheetAt_ok hs4, bd2_s, onrS, grd_t ks, nI_lit, wk, nI10, if_false, miss_f ht t1, if_true, t1, ne]
      · have z : (-nI 13 = nI 0) = False := nI_Neq (by omega) (by omega) (by omega)
        have L : f_X10_lacksSort 94 (nI s) (nI k) σ = some (-nI 13, σ) := by
          simp (disch := omega) only [f_X10_lacksSort, nI_lit, nI_addE, nI_mulE, nI_ltE, nI_leE, nI_eqE, nI_eqN, nI_Neq, nI_ltN, nI_Nlt, nI_leN, nI_Nle, nI_NeN, nI_subE, bd1_s, bd2_s, onrN, onrS, grd_t, grd_T, gI_eq, gI_ne, gL_pI, gI_pL, ltT, ltF, leT, leF, eqT, eqF, if_true, if_false, true_or, or_true, ite_true, ite_false, and_true, true_and, and_false, false_and, not_false_eq_true, not_true_eq_false, ↓reduceIte, in_eq, Nat.reduceAdd, Nat.reduceMul, Nat.zero_add, cE_f, cE_t, mE_f, mE_t, within_ok, ne_eq, i1, t2]
        simp only [f_X10_item, isShelf_ok hs, bd2_s, nI_lit, nI10, if_false, in_eq, wk, L, z]
theorem op_put (I : Inv q σ) (a1 a2 a3 : Int32) : OpOk (f_X9_put 0 a1 a2 a3) (f_X10_put 94 a1 a2 a3) σ := by
  rcases (arg a1 0 3 (by omega) (by omega)).symm with b | ⟨s, -, hs, rfl⟩
  · refine ⟨-1, σ, σ, q, ?_, ?_, I⟩
    · simp only [f_X9_put, sheetAt_no b, bd2_s, onrN]
    · simp only [f_X10_put, isShelf_no b, bd2_s, nI_lit, if_true]
  have hs4 : s < 4 := by omega
  have ks := kd_sheet hs4
  obtain ⟨r1, ⟨n, hn, n1, n2⟩, r3⟩ := I.2.2.2.2.2.2.2.1 s hs4
  have i1 : ixo 118 (nI s) = some s := ixo_118 (by omega)
  have i2 : ixo 119 (nI s) = some s := ixo_119 (by omega)
  rcases r1 with ⟨t1, t2⟩ | ⟨t, ht, t1, t2⟩
  · have g : ¬ nI 0 ≤ (-1 : Int32) := by decide
    refine ⟨-nI 11, σ, σ, q, ?_, ?_, I⟩
    · simp only [f_X9_put, sheetAt_ok hs4, bd2_s, onrS, grd_t ks, nI_lit, nI10, if_false, miss_t t1]
    · unfold f_X10_put
      rw [isShelf_ok hs, bd2_s, if_neg (by rw [nI_lit 0, nI10]; exact id)]
      simp only [Nat.reduceAdd, i1, bd1_s, t2]
      exact if_neg g
  have g0 : nI 0 ≤ nI t := by rw [nI_leE (by omega) (by omega)]; omega
  rcases (arg3 a2 n (by omega)).symm with b | ⟨i, hi, rfl⟩
  · refine ⟨-nI 12, σ, σ, q, ?_, ?_, I⟩
    · simp only [f_X9_put, sheetAt_ok hs4, bd2_s, onrS, grd_t ks, nI_lit, nI10, if_false, miss_f ht t1, if_true, shas_no n1 b]
    · simp only [f_X10_put, isShelf_ok hs, bd2_s, bd1_s, nI_lit, nI10, if_false, in_eq, Nat.reduceAdd, i1, t2, if_pos g0, i2, n2, in_no b, if_true]
  have i3 : ixo 120 (nI (40 * s + i)) = some (40 * s + i) := ixo_120 (by omega)
  have i4 := ixo_sheet hs4 (by omega : i < 40)
  rw [s83] at i4
  obtain ⟨w, hw⟩ : ∃ w : Int32, w = (if t = 0 then a3.toInt8.toInt32 else if t = 1 then a3.toInt16.toInt32 else a3) := ⟨_, rfl⟩
  refine ⟨nI 1, pI σ (83 + 2 * s) i w, pL (pI σ (83 + 2 * s) i w) 120 (40 * s + i) w.toInt64, q, ?_, ?_, inv_fr I (fun k j c => ?_) (R1_sheets I.2.2.2.2 (fun k j c => ?_) ?_)⟩
  · by_cases e0 : t = 0
    · rw [if_pos e0] at hw
      simp (disch := omega) only [f_X9_put, f_X5_setItem, f_X5_narrowed, sheetAt_ok hs4, bd1_s, bd2_s, onrN, onrS, grd_t, grd_T, grd_t ks, nI_lit, nI10, if_false, miss_f ht t1, if_true, shas_ok hn n1 hi, t1, nI_eqE, ltT, ltF, leT, leF, eqT, eqF, i4, s83, hw]
    · rw [if_neg e0] at hw
      by_cases e1 : t = 1
      · rw [if_pos e1] at hw
        simp (disch := omega) only [f_X9_put, f_X5_setItem, f_X5_narrowed, sheetAt_ok hs4, bd1_s, bd2_s, onrN, onrS, grd_t, grd_T, grd_t ks, nI_lit, nI10, if_false, miss_f ht t1, if_true, shas_ok hn n1 hi, t1, nI_eqE, ltT, ltF, leT, leF, eqT, eqF, i4, s83, hw]
      · rw [if_neg e1] at hw
        simp (disch := omega) only [f_X9_put, f_X5_setItem, f_X5_narrowed, sheetAt_ok hs4, bd1_s, bd2_s, onrN, onrS, grd_t, grd_T, grd_t ks, nI_lit, nI10, if_false, miss_f ht t1, if_true, shas_ok hn n1 hi, t1, nI_eqE, ltT, ltF, leT, leF, eqT, eqF, i4, s83, hw]
  · have t2' : gI (pI σ (83 + 2 * s) i w) 118 s = nI t := (gI_ne _ _ (by omega)).trans t2
    have n2' : gI (pI σ (83 + 2 * s) i w) 119 s = nI n := (gI_ne _ _ (by omega)).trans n2
    generalize pI σ (83 + 2 * s) i w = τ at t2' n2' ⊢
    by_cases e0 : t = 0
    · rw [if_pos e0] at hw
      simp (disch := omega) only [f_X10_put, isShelf_ok hs, bd1_s, bd2_s, onrN, onrS, grd_t, grd_T, nI_lit, nI10, if_false, in_eq, Nat.reduceAdd, i1, t2', if_pos g0, i2, n2', in_ok hi (by omega : n < 2147483648), nI_eqE, ltT, ltF, leT, leF, eqT, eqF, if_true, nI_mulE, nI_addE, i3, hw]
    · rw [if_neg e0] at hw
      by_cases e1 : t = 1
      · rw [if_pos e1] at hw
        simp (disch := omega) only [f_X10_put, isShelf_ok hs, bd1_s, bd2_s, onrN, onrS, grd_t, grd_T, nI_lit, nI10, if_false, in_eq, Nat.reduceAdd, i1, t2', if_pos g0, i2, n2', in_ok hi (by omega : n < 2147483648), nI_eqE, ltT, ltF, leT, leF, eqT, eqF, if_true, nI_mulE, nI_addE, i3, hw]
      · rw [if_neg e1] at hw
        simp (disch := omega) only [f_X10_put, isShelf_ok hs, bd1_s, bd2_s, onrN, onrS, grd_t, grd_T, nI_lit, nI10, if_false, in_eq, Nat.reduceAdd, i1, t2', if_pos g0, i2, n2', in_ok hi (by omega : n < 2147483648), nI_eqE, ltT, ltF, leT, leF, eqT, eqF, if_true, nI_mulE, nI_addE, i3, hw]
  · rw [gI_pL, gI_ne _ _ (by omega)]
  · rw [gI_pL, gI_ne _ _ (by omega)]
  · intro u hu
    obtain ⟨h1, h2, h3⟩ := I.2.2.2.2.2.2.2.1 u hu
    refine ⟨?_, ?_, fun j hj => ?_⟩
    · rw [gI_pL, gI_pL, gI_ne _ _ (by omega), gI_ne _ _ (by omega)]; exact h1
    · rw [gI_pL, gI_pL, gI_ne _ _ (by omega), gI_ne _ _ (by omega)]; exact h2
    · rw [gI_pL, gL_pL, gI_pI]
      by_cases e : u = s ∧ j = i
      · rw [if_pos (by omega), if_pos (by omega)]
      · rw [if_neg (by omega), if_neg (by omega), gL_pI]; exact h3 j hj
end
