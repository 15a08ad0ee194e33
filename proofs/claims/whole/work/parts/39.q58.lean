/-! shelves -/
def und (k w : Nat) : Nat := if w = 0 then 1 else if w = k then 1 else if w = 1 then (if k = 3 then 1 else if k = 5 then 1 else 0) else if w = 2 then (if k = 4 then 1 else 0) else 0
section
variable {q : HQ} {σ σ' : Mem} {h o b v l s : Nat}
theorem und_le (k w : Nat) : und k w ≤ 1 := by
  unfold und
  repeat' split
  all_goals omega
theorem und_c {k w : Nat} (hk : k ≤ 5) (hw : w ≤ 5) : f_X9_isUnder (nI k) (nI w) σ = some (nI (und k w), σ) := by
  have h1 : k = 0 ∨ k = 1 ∨ k = 2 ∨ k = 3 ∨ k = 4 ∨ k = 5 := by omega
  have h2 : w = 0 ∨ w = 1 ∨ w = 2 ∨ w = 3 ∨ w = 4 ∨ w = 5 := by omega
  rcases h1 with rfl | rfl | rfl | rfl | rfl | rfl <;> rcases h2 with rfl | rfl | rfl | rfl | rfl | rfl <;> simp (disch := omega) only [f_X9_isUnder, f_X9_kindAbove, nI_lit, nI_addE, nI_mulE, nI_ltE, nI_leE, nI_eqE, nI_eqN, nI_Neq, nI_ltN, nI_Nlt, nI_leN, nI_Nle, nI_NeN, nI_subE, bd1_s, bd2_s, onrN, onrS, grd_t, grd_T, gI_eq, gI_ne, gL_pI, gI_pL, ltT, ltF, leT, leF, eqT, eqF, if_true, if_false, true_or, or_true, ite_true, ite_false, and_true, true_and, and_false, false_and, not_false_eq_true, not_true_eq_false, ↓reduceIte, in_eq, Nat.reduceAdd, Nat.reduceMul, Nat.zero_add, cE_f, cE_t, mE_f, mE_t, within_ok, ne_eq, und]
theorem und_m {k w : Nat} (hk : k ≤ 5) (hw : w ≤ 5) : f_X10_isUnder (nI k) (nI w) σ = some (nI (und k w), σ) := by
  have h1 : k = 0 ∨ k = 1 ∨ k = 2 ∨ k = 3 ∨ k = 4 ∨ k = 5 := by omega
  have h2 : w = 0 ∨ w = 1 ∨ w = 2 ∨ w = 3 ∨ w = 4 ∨ w = 5 := by omega
  rcases h1 with rfl | rfl | rfl | rfl | rfl | rfl <;> rcases h2 with rfl | rfl | rfl | rfl | rfl | rfl <;> simp (disch := omega) only [f_X10_isUnder, nI_lit, nI_addE, nI_mulE, nI_ltE, nI_leE, nI_eqE, nI_eqN, nI_Neq, nI_ltN, nI_Nlt, nI_leN, nI_Nle, nI_NeN, nI_subE, bd1_s, bd2_s, onrN, onrS, grd_t, grd_T, gI_eq, gI_ne, gL_pI, gI_pL, ltT, ltF, leT, leF, eqT, eqF, if_true, if_false, true_or, or_true, ite_true, ite_false, and_true, true_and, and_false, false_and, not_false_eq_true, not_true_eq_false, ↓reduceIte, in_eq, Nat.reduceAdd, Nat.reduceMul, Nat.zero_add, cE_f, cE_t, mE_f, mE_t, within_ok, ne_eq, und]
theorem kd_shelf (hs : s < 4) : kd (90 + s) = 6 := by
  have : s = 0 ∨ s = 1 ∨ s = 2 ∨ s = 3 := by omega
  rcases this with rfl | rfl | rfl | rfl <;> decide
theorem shelfAt_ok (hs : s < 4) : f_X9_shelfAt 0 (nI s) σ = some (some (90 + s), σ) := by
  simp (disch := omega) only [f_X9_shelfAt, nI_lit, nI_addE, nI_mulE, nI_ltE, nI_leE, nI_eqE, nI_eqN, nI_Neq, nI_ltN, nI_Nlt, nI_leN, nI_Nle, nI_NeN, nI_subE, bd1_s, bd2_s, onrN, onrS, grd_t, grd_T, gI_eq, gI_ne, gL_pI, gI_pL, ltT, ltF, leT, leF, eqT, eqF, if_true, if_false, true_or, or_true, ite_true, ite_false, and_true, true_and, and_false, false_and, not_false_eq_true, not_true_eq_false, ↓reduceIte, in_eq, Nat.reduceAdd, Nat.reduceMul, Nat.zero_add, cE_f, cE_t, mE_f, mE_t, within_ok, ne_eq, ixo_2, ixo_3, ixo_4, ixo_17, ixo_18, ixo_19, ixo_32, ixo_33, ixo_34, ixo_47, ixo_50, ixo_51, ixo_52, ixo_64, ixo_65, ixo_66, ixo_67, ixo_68, ixo_69, ixo_70, ixo_71, ixo_72, ixo_73, ixo_75, ixo_77, ixo_78, ixo_79, ixo_81, ixo_83, ixo_85, ixo_87, ixo_89]
theorem shelfAt_no {x : Int32} (b : x < nI 0 ∨ (¬ x < nI 0 ∧ nI 3 < x)) : f_X9_shelfAt 0 x σ = some (none, σ) := by
  simp only [f_X9_shelfAt, nI_lit, within_no _ b, bd2_s, if_true]
theorem R1_shelf (r : R1 σ) (hs : s < 4) (e : ∀ k i, ¬ (k = 90 + s ∨ ((k = 121 ∨ k = 122 ∨ k = 123) ∧ i = s)) → gI σ' k i = gI σ k i) (e2 : σ'.2 = σ.2)
    (x : (gI σ' (90 + s) 0 = -9 ∧ gI σ' (90 + s) 1 = -1 ∧ gI σ' 121 s = -1) ∨ (∃ b, b < 6 ∧ gI σ' (90 + s) 0 = nI b ∧ gI σ' (90 + s) 1 = -1 ∧ gI σ' 121 s = 0 ∧ gI σ' 122 s = nI b) ∨ (∃ t n, t ≤ 3 ∧ n ≤ 40 ∧ gI σ' (90 + s) 1 = nI t ∧ gI σ' (90 + s) 2 = nI n ∧ gI σ' 121 s = 1 ∧ gI σ' 122 s = nI t ∧ gI σ' 123 s = nI n)) : R1 σ' := by
  obtain ⟨x1, x2, x3, x4, x5, x6, x7, x8⟩ := r
  refine ⟨RT_fr x1 fun k i c => e k i (by omega), RR_fr x2 fun k i c => e k i (by omega), RD_fr x3 fun k i c => e k i (by omega), RS_fr x4 (fun k i c => e k i (by omega)) e2, fun u hu => ?_, RK_fr x6 fun k i c => e k i (by omega), RF_fr x7 fun k i c => e k i (by omega), RG_fr x8 fun k i c => e k i (by omega)⟩
  by_cases g : u = s
  · subst g; exact x
  · have := x5 u hu
    rw [e _ _ (by omega), e _ _ (by omega), e _ _ (by omega), e _ _ (by omega), e _ _ (by omega), e _ _ (by omega)]
    exact this
theorem op_shelf (I : Inv q σ) (a1 a2 a3 : Int32) : OpOk (f_X9_shelf 0 a1 a2 a3) (f_X10_shelf 94 a1 a2 a3) σ := by
  rcases (arg a1 0 3 (by omega) (by omega)).symm with b | ⟨s, -, hs, rfl⟩
  · refine ⟨-1, σ, σ, q, ?_, ?_, I⟩
    · simp only [f_X9_shelf, shelfAt_no b, bd2_s, onrN]
    · simp only [f_X10_shelf, isShelf_no b, bd2_s, nI_lit, if_true]
  obtain ⟨⟨⟨hn, hol⟩, hob, hoc⟩, ⟨cs, cd, cl, cb⟩, ⟨ms, mr, md, ml, mb⟩, r0, r1⟩ := id I
  obtain ⟨c1, c3, c5, c6, c7, c8⟩ := id cs
  obtain ⟨m0, m8, m7, m14⟩ := id ms
  have hm := hob.1
  have hs4 : s < 4 := by omega
  have ks := kd_shelf hs4
  have i1 : ixo 121 (nI s) = some s := ixo_121 (by omega)
  have i2 : ixo 122 (nI s) = some s := ixo_122 (by omega)
  have i3 : ixo 123 (nI s) = some s := ixo_123 (by omega)
  rcases (arg a2 0 2 (by omega) (by omega)).symm with b | ⟨k, -, hk, rfl⟩
  · have z0 := bad_ne b (k := 0) (by omega) (by omega) (by omega)
    have z1 := bad_ne b (k := 1) (by omega) (by omega) (by omega)
    have z2 := bad_ne b (k := 2) (by omega) (by omega) (by omega)
    refine ⟨-nI 1, σ, σ, q, ?_, ?_, I⟩
    · simp only [f_X9_shelf, shelfAt_ok hs4, bd2_s, onrS, grd_t ks, nI_lit, z0, z1, z2, if_false]
    · simp only [f_X10_shelf, f_X10_isHeld, isShelf_ok hs, bd2_s, nI_lit, nI10, z0, z1, z2, if_false, if_true]
  have hk : k = 0 ∨ k = 1 ∨ k = 2 := by omega
  rcases hk with rfl | rfl | rfl
  · rcases (arg3 a3 q.m (by omega)).symm with b | ⟨b, hb, rfl⟩
    · refine ⟨-nI 1, σ, σ, q, ?_, ?_, I⟩
      · simp (disch := omega) only [f_X9_shelf, shelfAt_ok hs4, nI_lit, nI_addE, nI_mulE, nI_ltE, nI_leE, nI_eqE, nI_eqN, nI_Neq, nI_ltN, nI_Nlt, nI_leN, nI_Nle, nI_NeN, nI_subE, bd1_s, bd2_s, onrN, onrS, grd_t, grd_T, gI_eq, gI_ne, gL_pI, gI_pL, ltT, ltF, leT, leF, eqT, eqF, if_true, if_false, true_or, or_true, ite_true, ite_false, and_true, true_and, and_false, false_and, not_false_eq_true, not_true_eq_false, ↓reduceIte, in_eq, Nat.reduceAdd, Nat.reduceMul, Nat.zero_add, cE_f, cE_t, mE_f, mE_t, within_ok, ne_eq, grd_t ks, bidAt_no c3 b]
      · simp (disch := omega) only [f_X10_shelf, f_X10_isHeld, isShelf_ok hs, nI_lit, nI_addE, nI_mulE, nI_ltE, nI_leE, nI_eqE, nI_eqN, nI_Neq, nI_ltN, nI_Nlt, nI_leN, nI_Nle, nI_NeN, nI_subE, bd1_s, bd2_s, onrN, onrS, grd_t, grd_T, gI_eq, gI_ne, gL_pI, gI_pL, ltT, ltF, leT, leF, eqT, eqF, if_true, if_false, true_or, or_true, ite_true, ite_false, and_true, true_and, and_false, false_and, not_false_eq_true, not_true_eq_false, ↓reduceIte, in_eq, Nat.reduceAdd, Nat.reduceMul, Nat.zero_add, cE_f, cE_t, mE_f, mE_t, within_ok, ne_eq, isBid_no m8 b]
    · have kb := kd_bid (h := 1) (i := b) (.inl rfl) (by omega)
      simp only [Nat.reduceAdd] at kb
      have B1 : f_X2_bidderAt 1 (nI b) σ = some (some (10 + b), σ) := bidAt_ok (.inl rfl) c3 hm hb
      refine ⟨nI 1, pI (pI (pI (pI σ (90 + s) 0 (-nI 9)) (90 + s) 1 (-nI 1)) (90 + s) 2 (nI 0)) (90 + s) 0 (nI b), pI (pI (pI (pI (pI (pI (pI σ (90 + s) 0 (-nI 9)) (90 + s) 1 (-nI 1)) (90 + s) 2 (nI 0)) (90 + s) 0 (nI b)) 121 s (nI 0)) 122 s (nI b)) 123 s (nI 0), q, ?_, ?_, inv_fr I (fun k i c => by simp (disch := omega) only [gI_ne]) (R1_shelf r1 hs4 (fun k i c => by simp (disch := omega) only [gI_ne]) rfl (.inr (.inl ⟨b, by omega, ?_, ?_, ?_, ?_⟩)))⟩
      · simp (disch := omega) only [f_X9_shelf, f_X6_holdBidder, f_X6_holdNothing, shelfAt_ok hs4, nI_lit, nI_addE, nI_mulE, nI_ltE, nI_leE, nI_eqE, nI_eqN, nI_Neq, nI_ltN, nI_Nlt, nI_leN, nI_Nle, nI_NeN, nI_subE, bd1_s, bd2_s, onrN, onrS, grd_t, grd_T, gI_eq, gI_ne, gL_pI, gI_pL, ltT, ltF, leT, leF, eqT, eqF, if_true, if_false, true_or, or_true, ite_true, ite_false, and_true, true_and, and_false, false_and, not_false_eq_true, not_true_eq_false, ↓reduceIte, in_eq, Nat.reduceAdd, Nat.reduceMul, Nat.zero_add, cE_f, cE_t, mE_f, mE_t, within_ok, ne_eq, grd_t ks, B1, grd_t kb]
      · have y8 : gI (pI (pI (pI (pI σ (90 + s) 0 (-nI 9)) (90 + s) 1 (-nI 1)) (90 + s) 2 (nI 0)) (90 + s) 0 (nI b)) 94 8 = nI q.m := by simp (disch := omega) only [gI_ne]; exact m8
        generalize pI (pI (pI (pI σ (90 + s) 0 (-nI 9)) (90 + s) 1 (-nI 1)) (90 + s) 2 (nI 0)) (90 + s) 0 (nI b) = τ at y8 ⊢
        simp (disch := omega) only [f_X10_shelf, f_X10_isHeld, F_X10_shelf_47x1, isShelf_ok hs, nI_lit, nI_addE, nI_mulE, nI_ltE, nI_leE, nI_eqE, nI_eqN, nI_Neq, nI_ltN, nI_Nlt, nI_leN, nI_Nle, nI_NeN, nI_subE, bd1_s, bd2_s, onrN, onrS, grd_t, grd_T, gI_eq, gI_ne, gL_pI, gI_pL, ltT, ltF, leT, leF, eqT, eqF, if_true, if_false, true_or, or_true, ite_true, ite_false, and_true, true_and, and_false, false_and, not_false_eq_true, not_true_eq_false, ↓reduceIte, in_eq, Nat.reduceAdd, Nat.reduceMul, Nat.zero_add, cE_f, cE_t, mE_f, mE_t, within_ok, ne_eq, isBid_ok y8 hm hb, i1, i2, i3]
      · simp (disch := omega) only [gI_eq, gI_ne]
      · simp (disch := omega) only [gI_eq, gI_ne]; rfl
      · simp (disch := omega) only [gI_eq, gI_ne]; rfl
      · simp (disch := omega) only [gI_eq, gI_ne]
  · rcases (arg a3 0 3 (by omega) (by omega)).symm with b | ⟨u, -, hu, rfl⟩
    · refine ⟨-nI 1, σ, σ, q, ?_, ?_, I⟩
      · simp (disch := omega) only [f_X9_shelf, shelfAt_ok hs4, nI_lit, nI_addE, nI_mulE, nI_ltE, nI_leE, nI_eqE, nI_eqN, nI_Neq, nI_ltN, nI_Nlt, nI_leN, nI_Nle, nI_NeN, nI_subE, bd1_s, bd2_s, onrN, onrS, grd_t, grd_T, gI_eq, gI_ne, gL_pI, gI_pL, ltT, ltF, leT, leF, eqT, eqF, if_true, if_false, true_or, or_true, ite_true, ite_false, and_true, true_and, and_false, false_and, not_false_eq_true, not_true_eq_false, ↓reduceIte, in_eq, Nat.reduceAdd, Nat.reduceMul, Nat.zero_add, cE_f, cE_t, mE_f, mE_t, within_ok, ne_eq, grd_t ks, sheetAt_no b]
      · simp (disch := omega) only [f_X10_shelf, f_X10_isHeld, isShelf_ok hs, nI_lit, nI_addE, nI_mulE, nI_ltE, nI_leE, nI_eqE, nI_eqN, nI_Neq, nI_ltN, nI_Nlt, nI_leN, nI_Nle, nI_NeN, nI_subE, bd1_s, bd2_s, onrN, onrS, grd_t, grd_T, gI_eq, gI_ne, gL_pI, gI_pL, ltT, ltF, leT, leF, eqT, eqF, if_true, if_false, true_or, or_true, ite_true, ite_false, and_true, true_and, and_false, false_and, not_false_eq_true, not_true_eq_false, ↓reduceIte, in_eq, Nat.reduceAdd, Nat.reduceMul, Nat.zero_add, cE_f, cE_t, mE_f, mE_t, within_ok, ne_eq, isShelf_no b]
    · have hu4 : u < 4 := by omega
      have ku := kd_sheet hu4
      obtain ⟨x1, ⟨n, hn40, n1, n2⟩, -⟩ := r1.2.2.2.1 u hu4
      have j1 : ixo 118 (nI u) = some u := ixo_118 (by omega)
      have j2 : ixo 119 (nI u) = some u := ixo_119 (by omega)
      rcases x1 with ⟨t1, t2⟩ | ⟨t, ht, t1, t2⟩
      · have gg : (nI 0 ≤ (-1 : Int32)) = False := eq_false (by decide)
        refine ⟨nI 1, pI (pI (pI σ (90 + s) 0 (-nI 9)) (90 + s) 1 (-1)) (90 + s) 2 (nI n), pI (pI (pI (pI (pI (pI σ (90 + s) 0 (-nI 9)) (90 + s) 1 (-1)) (90 + s) 2 (nI n)) 121 s (-nI 1)) 122 s (-1)) 123 s (nI n), q, ?_, ?_, inv_fr I (fun k i c => by simp (disch := omega) only [gI_ne]) (R1_shelf r1 hs4 (fun k i c => by simp (disch := omega) only [gI_ne]) rfl (.inl ⟨?_, ?_, ?_⟩))⟩
        · simp (disch := omega) only [f_X9_shelf, f_X6_holdRow, shelfAt_ok hs4, nI_lit 0, nI_lit 1, nI_lit 2, nI_lit 9, nI_eqE, bd1_s, bd2_s, onrN, onrS, grd_t, grd_T, gI_eq, gI_ne, gL_pI, gI_pL, ltT, ltF, leT, leF, eqT, eqF, ↓reduceIte, grd_t ks, sheetAt_ok hu4, grd_t ku, t1, n1]
        · have y1 : gI (pI (pI (pI σ (90 + s) 0 (-nI 9)) (90 + s) 1 (-1)) (90 + s) 2 (nI n)) 118 u = -1 := by simp (disch := omega) only [gI_ne]; exact t2
          have y2 : gI (pI (pI (pI σ (90 + s) 0 (-nI 9)) (90 + s) 1 (-1)) (90 + s) 2 (nI n)) 119 u = nI n := by simp (disch := omega) only [gI_ne]; exact n2
          generalize pI (pI (pI σ (90 + s) 0 (-nI 9)) (90 + s) 1 (-1)) (90 + s) 2 (nI n) = τ at y1 y2 ⊢
          unfold f_X10_shelf f_X10_isHeld F_X10_shelf_47
          simp (disch := omega) only [isShelf_ok hs, nI_lit 0, nI_lit 2, nI_eqE, nI10, if_false, bd1_s, bd2_s, onrN, onrS, grd_t, grd_T, gI_eq, gI_ne, gL_pI, gI_pL, ltT, ltF, leT, leF, eqT, eqF, ↓reduceIte, Nat.reduceAdd, isShelf_ok hu]
          simp (disch := omega) only [nI_lit 1, nI_eqE, bd1_s, bd2_s, onrN, onrS, grd_t, grd_T, gI_eq, gI_ne, gL_pI, gI_pL, ltT, ltF, leT, leF, eqT, eqF, ↓reduceIte, Nat.reduceAdd, isShelf_ok hu, j1, j2, i1, i2, i3]
          rw [grd_t (.inr trivial)]
          simp (disch := omega) only [nI10, if_false, bd1_s, bd2_s, onrN, onrS, grd_t, grd_T, gI_eq, gI_ne, gL_pI, gI_pL, ↓reduceIte, Nat.reduceAdd, j1, j2, i1, i2, i3, y1, y2]
          rfl
        · simp (disch := omega) only [gI_eq, gI_ne]; rfl
        · simp (disch := omega) only [gI_eq, gI_ne]
        · simp (disch := omega) only [gI_eq, gI_ne]; rfl
      · refine ⟨nI 1, pI (pI (pI σ (90 + s) 0 (-nI 9)) (90 + s) 1 (nI t)) (90 + s) 2 (nI n), pI (pI (pI (pI (pI (pI σ (90 + s) 0 (-nI 9)) (90 + s) 1 (nI t)) (90 + s) 2 (nI n)) 121 s (nI 1)) 122 s (nI t)) 123 s (nI n), q, ?_, ?_, inv_fr I (fun k i c => by simp (disch := omega) only [gI_ne]) (R1_shelf r1 hs4 (fun k i c => by simp (disch := omega) only [gI_ne]) rfl (.inr (.inr ⟨t, n, ht, hn40, ?_, ?_, ?_, ?_, ?_⟩)))⟩
        · simp (disch := omega) only [f_X9_shelf, f_X6_holdRow, shelfAt_ok hs4, nI_lit, nI_addE, nI_mulE, nI_ltE, nI_leE, nI_eqE, nI_eqN, nI_Neq, nI_ltN, nI_Nlt, nI_leN, nI_Nle, nI_NeN, nI_subE, bd1_s, bd2_s, onrN, onrS, grd_t, grd_T, gI_eq, gI_ne, gL_pI, gI_pL, ltT, ltF, leT, leF, eqT, eqF, if_true, if_false, true_or, or_true, ite_true, ite_false, and_true, true_and, and_false, false_and, not_false_eq_true, not_true_eq_false, ↓reduceIte, in_eq, Nat.reduceAdd, Nat.reduceMul, Nat.zero_add, cE_f, cE_t, mE_f, mE_t, within_ok, ne_eq, grd_t ks, sheetAt_ok hu4, grd_t ku, t1, n1]
        · have y1 : gI (pI (pI (pI σ (90 + s) 0 (-nI 9)) (90 + s) 1 (nI t)) (90 + s) 2 (nI n)) 118 u = nI t := by simp (disch := omega) only [gI_ne]; exact t2
          have y2 : gI (pI (pI (pI σ (90 + s) 0 (-nI 9)) (90 + s) 1 (nI t)) (90 + s) 2 (nI n)) 119 u = nI n := by simp (disch := omega) only [gI_ne]; exact n2
          generalize pI (pI (pI σ (90 + s) 0 (-nI 9)) (90 + s) 1 (nI t)) (90 + s) 2 (nI n) = τ at y1 y2 ⊢
          simp (disch := omega) only [f_X10_shelf, f_X10_isHeld, F_X10_shelf_47x1, isShelf_ok hs, nI_lit, nI_addE, nI_mulE, nI_ltE, nI_leE, nI_eqE, nI_eqN, nI_Neq, nI_ltN, nI_Nlt, nI_leN, nI_Nle, nI_NeN, nI_subE, bd1_s, bd2_s, onrN, onrS, grd_t, grd_T, gI_eq, gI_ne, gL_pI, gI_pL, ltT, ltF, leT, leF, eqT, eqF, if_true, if_false, true_or, or_true, ite_true, ite_false, and_true, true_and, and_false, false_and, not_false_eq_true, not_true_eq_false, ↓reduceIte, in_eq, Nat.reduceAdd, Nat.reduceMul, Nat.zero_add, cE_f, cE_t, mE_f, mE_t, within_ok, ne_eq, isShelf_ok hu, j1, j2, i1, i2, i3, y1, y2]
        · simp (disch := omega) only [gI_eq, gI_ne]
        · simp (disch := omega) only [gI_eq, gI_ne]
        · simp (disch := omega) only [gI_eq, gI_ne]; rfl
        · simp (disch := omega) only [gI_eq, gI_ne]
        · simp (disch := omega) only [gI_eq, gI_ne]
  · refine ⟨nI 1, pI (pI (pI σ (90 + s) 0 (-nI 9)) (90 + s) 1 (-nI 1)) (90 + s) 2 (nI 0), pI (pI (pI (pI (pI (pI σ (90 + s) 0 (-nI 9)) (90 + s) 1 (-nI 1)) (90 + s) 2 (nI 0)) 121 s (-nI 1)) 122 s a3) 123 s (nI 0), q, ?_, ?_, inv_fr I (fun k i c => by simp (disch := omega) only [gI_ne]) (R1_shelf r1 hs4 (fun k i c => by simp (disch := omega) only [gI_ne]) rfl (.inl ⟨?_, ?_, ?_⟩))⟩
    · simp (disch := omega) only [f_X9_shelf, f_X6_holdNothing, shelfAt_ok hs4, nI_lit, nI_addE, nI_mulE, nI_ltE, nI_leE, nI_eqE, nI_eqN, nI_Neq, nI_ltN, nI_Nlt, nI_leN, nI_Nle, nI_NeN, nI_subE, bd1_s, bd2_s, onrN, onrS, grd_t, grd_T, gI_eq, gI_ne, gL_pI, gI_pL, ltT, ltF, leT, leF, eqT, eqF, if_true, if_false, true_or, or_true, ite_true, ite_false, and_true, true_and, and_false, false_and, not_false_eq_true, not_true_eq_false, ↓reduceIte, in_eq, Nat.reduceAdd, Nat.reduceMul, Nat.zero_add, cE_f, cE_t, mE_f, mE_t, within_ok, ne_eq, grd_t ks]
    · simp (disch := omega) only [f_X10_shelf, f_X10_isHeld, F_X10_shelf_47, isShelf_ok hs, nI_lit, nI_addE, nI_mulE, nI_ltE, nI_leE, nI_eqE, nI_eqN, nI_Neq, nI_ltN, nI_Nlt, nI_leN, nI_Nle, nI_NeN, nI_subE, bd1_s, bd2_s, onrN, onrS, grd_t, grd_T, gI_eq, gI_ne, gL_pI, gI_pL, ltT, ltF, leT, leF, eqT, eqF, if_true, if_false, true_or, or_true, ite_true, ite_false, and_true, true_and, and_false, false_and, not_false_eq_true, not_true_eq_false, ↓reduceIte, in_eq, Nat.reduceAdd, Nat.reduceMul, Nat.zero_add, cE_f, cE_t, mE_f, mE_t, within_ok, ne_eq, i1, i2, i3]
    · simp (disch := omega) only [gI_eq, gI_ne]; rfl
    · simp (disch := omega) only [gI_eq, gI_ne]; rfl
    · simp (disch := omega) only [gI_eq, gI_ne]; rfl
theorem kindOn_A {s : Nat} (hs : s < 4) (e : gI σ 121 s = -1) : f_X10_kindOn 94 (nI s) σ = some (-nI 1, σ) := by
  have i1 : ixo 121 (nI s) = some s := ixo_121 (by omega)
  have z : ((-1 : Int32) = nI 0) = False := eq_false (by decide)
  have g : (nI 0 ≤ (-1 : Int32)) = False := eq_false (by decide)
  unfold f_X10_kindOn
  simp only [Nat.reduceAdd, i1, bd1_s, e]
  rw [if_neg (by decide), if_neg (by decide)]
  rfl
theorem kindOn_B {s b : Nat} (hs : s < 4) (hm : q.m ≤ 6) (m8 : gI σ 94 8 = nI q.m) (hb : b < q.m) (mb : MHb q σ) (e : gI σ 121 s = 0) (e2 : gI σ 122 s = nI b) : f_X10_kindOn 94 (nI s) σ = some (nI (q.kind b), σ) := by
  have i1 : ixo 121 (nI s) = some s := ixo_121 (by omega)
  have i2 : ixo 122 (nI s) = some s := ixo_122 (by omega)
  have k := (mb b hb).1
  simp (disch := omega) only [f_X10_kindOn, nI_lit, nI_addE, nI_mulE, nI_ltE, nI_leE, nI_eqE, nI_eqN, nI_Neq, nI_ltN, nI_Nlt, nI_leN, nI_Nle, nI_NeN, nI_subE, bd1_s, bd2_s, onrN, onrS, grd_t, grd_T, gI_eq, gI_ne, gL_pI, gI_pL, ltT, ltF, leT, leF, eqT, eqF, if_true, if_false, true_or, or_true, ite_true, ite_false, and_true, true_and, and_false, false_and, not_false_eq_true, not_true_eq_false, ↓reduceIte, in_eq, Nat.reduceAdd, Nat.reduceMul, Nat.zero_add, cE_f, cE_t, mE_f, mE_t, within_ok, ne_eq, i1, i2, e, e2, isBid_ok m8 hm hb, ixo_95, ixo_96, ixo_97, ixo_98, ixo_99, ixo_100, ixo_101, ixo_102, ixo_103, ixo_104, ixo_105, ixo_106, ixo_107, ixo_108, ixo_109, ixo_110, ixo_111, ixo_112, ixo_113, ixo_114, ixo_115, ixo_116, ixo_117, ixo_118, ixo_119, ixo_120, ixo_121, ixo_122, ixo_123, ixo_124, ixo_125, ixo_126, k]
theorem badge {b n : Nat} (h : n ≤ b) (hb : b < 2147483648) : Bad (nI b) n := by
  refine .inr ⟨?_, ?_, ?_⟩
  · rw [nI_ltE (by omega) (by omega)]; omega
  · rw [nI_leE (by omega) (by omega)]; exact h
  · rw [Int32.lt_iff_toInt_lt, nI_subI (by omega) (by omega), nI_toInt (by omega : b < 2 ^ 31)]; omega
theorem kindOn_B0 {s b : Nat} (hs : s < 4) (m8 : gI σ 94 8 = nI q.m) (hb : q.m ≤ b) (hb6 : b < 6) (e : gI σ 121 s = 0) (e2 : gI σ 122 s = nI b) : f_X10_kindOn 94 (nI s) σ = some (-nI 1, σ) := by
  have i1 : ixo 121 (nI s) = some s := ixo_121 (by omega)
  have i2 : ixo 122 (nI s) = some s := ixo_122 (by omega)
  simp (disch := omega) only [f_X10_kindOn, nI_lit, nI_addE, nI_mulE, nI_ltE, nI_leE, nI_eqE, nI_eqN, nI_Neq, nI_ltN, nI_Nlt, nI_leN, nI_Nle, nI_NeN, nI_subE, bd1_s, bd2_s, onrN, onrS, grd_t, grd_T, gI_eq, gI_ne, gL_pI, gI_pL, ltT, ltF, leT, leF, eqT, eqF, if_true, if_false, true_or, or_true, ite_true, ite_false, and_true, true_and, and_false, false_and, not_false_eq_true, not_true_eq_false, ↓reduceIte, in_eq, Nat.reduceAdd, Nat.reduceMul, Nat.zero_add, cE_f, cE_t, mE_f, mE_t, within_ok, ne_eq, i1, i2, e, e2, isBid_no m8 (badge hb (by omega))]
theorem kindOn_C {s : Nat} (hs : s < 4) (e : gI σ 121 s = 1) : f_X10_kindOn 94 (nI s) σ = some (nI 9, σ) := by
  have i1 : ixo 121 (nI s) = some s := ixo_121 (by omega)
  simp (disch := omega) only [f_X10_kindOn, nI_lit, nI_addE, nI_mulE, nI_ltE, nI_leE, nI_eqE, nI_eqN, nI_Neq, nI_ltN, nI_Nlt, nI_leN, nI_Nle, nI_NeN, nI_subE, bd1_s, bd2_s, onrN, onrS, grd_t, grd_T, gI_eq, gI_ne, gL_pI, gI_pL, ltT, ltF, leT, leF, eqT, eqF, if_true, if_false, true_or, or_true, ite_true, ite_false, and_true, true_and, and_false, false_and, not_false_eq_true, not_true_eq_false, ↓reduceIte, in_eq, Nat.reduceAdd, Nat.reduceMul, Nat.zero_add, cE_f, cE_t, mE_f, mE_t, within_ok, ne_eq, i1, e]
theorem holds_no {k : Nat} (e : gI σ k 1 = -1) : f_X6_holdsRow k σ = some (nI 0, σ) := by
  unfold f_X6_holdsRow
  rw [if_pos e]
  rfl
theorem holds_yes {k t : Nat} (ht : t ≤ 3) (e : gI σ k 1 = nI t) : f_X6_holdsRow k σ = some (nI 1, σ) := by
  have : (nI t = -nI 1) = False := nI_eqN (by omega) (by omega) (by omega)
  simp only [f_X6_holdsRow, e, nI_lit, this, if_false]
theorem taken_both (I : Inv q σ) {s w v : Nat} (hs : s < 4) (hw : (v = 0 ∧ w ≤ 5) ∨ (v = 1 ∧ 10 ≤ w ∧ w ≤ 13)) : ∃ r, F_X9_taken_36 0 (90 + s) (nI w) (nI v) σ = some (r, σ) ∧ F_X10_taken_29 94 (nI s) (nI w) σ = some (r, σ) := by
  obtain ⟨⟨⟨hn, hol⟩, hob, hoc⟩, ⟨cs, cd, cl, cb⟩, ⟨ms, mr, md, ml, mb⟩, r0, r1⟩ := id I
  obtain ⟨c1, c3, c5, c6, c7, c8⟩ := id cs
  obtain ⟨m0, m8, m7, m14⟩ := id ms
  have hm := hob.1
  have i1 : ixo 121 (nI s) = some s := ixo_121 (by omega)
  have i2 : ixo 122 (nI s) = some s := ixo_122 (by omega)
  have i3 : ixo 123 (nI s) = some s := ixo_123 (by omega)
  rcases r1.2.2.2.2.1 s hs with ⟨e1, e2, e3⟩ | ⟨b, hb, e1, e2, e3, e4⟩ | ⟨t, n, ht, hn', e1, e2, e3, e4, e5⟩
  · have e1 : gI σ (90 + s) 0 = -nI 9 := e1
    refine ⟨-nI 11, ?_, ?_⟩
    · simp (disch := omega) only [F_X9_taken_36, nI_lit, nI_addE, nI_mulE, nI_ltE, nI_leE, nI_eqE, nI_eqN, nI_Neq, nI_ltN, nI_Nlt, nI_leN, nI_Nle, nI_NeN, nI_subE, bd1_s, bd2_s, onrN, onrS, grd_t, grd_T, gI_eq, gI_ne, gL_pI, gI_pL, ltT, ltF, leT, leF, eqT, eqF, if_true, if_false, true_or, or_true, ite_true, ite_false, and_true, true_and, and_false, false_and, not_false_eq_true, not_true_eq_false, ↓reduceIte, in_eq, Nat.reduceAdd, Nat.reduceMul, Nat.zero_add, cE_f, cE_t, mE_f, mE_t, within_ok, ne_eq, holds_no e2, e1, bidAt_no c3 (bad9 (by omega))]
    · simp (disch := omega) only [F_X10_taken_29, nI_lit, nI_addE, nI_mulE, nI_ltE, nI_leE, nI_eqE, nI_eqN, nI_Neq, nI_ltN, nI_Nlt, nI_leN, nI_Nle, nI_NeN, nI_subE, bd1_s, bd2_s, onrN, onrS, grd_t, grd_T, gI_eq, gI_ne, gL_pI, gI_pL, ltT, ltF, leT, leF, eqT, eqF, if_true, if_false, true_or, or_true, ite_true, ite_false, and_true, true_and, and_false, false_and, not_false_eq_true, not_true_eq_false, ↓reduceIte, in_eq, Nat.reduceAdd, Nat.reduceMul, Nat.zero_add, cE_f, cE_t, mE_f, mE_t, within_ok, ne_eq, kindOn_A hs e3]
  · by_cases g : b < q.m
    · have kb := kd_bid (h := 1) (i := b) (.inl rfl) (by omega)
      simp only [Nat.reduceAdd] at kb
      have B1 : f_X2_bidderAt 1 (nI b) σ = some (some (10 + b), σ) := bidAt_ok (.inl rfl) c3 hm g
      have kk := (cb b g).1
      simp only [Nat.reduceAdd] at kk
      have ok := (hob.2 b g).1
      rcases hw with ⟨rfl, hw⟩ | ⟨rfl, hw⟩
      · refine ⟨if und (q.kind b) w = 0 then -nI 13 else nI b, ?_, ?_⟩
        · by_cases z : und (q.kind b) w = 0
          · simp (disch := omega) only [F_X9_taken_36, nI_lit, nI_addE, nI_mulE, nI_ltE, nI_leE, nI_eqE, nI_eqN, nI_Neq, nI_ltN, nI_Nlt, nI_leN, nI_Nle, nI_NeN, nI_subE, bd1_s, bd2_s, onrN, onrS, grd_t, grd_T, gI_eq, gI_ne, gL_pI, gI_pL, ltT, ltF, leT, leF, eqT, eqF, if_true, if_false, true_or, or_true, ite_true, ite_false, and_true, true_and, and_false, false_and, not_false_eq_true, not_true_eq_false, ↓reduceIte, in_eq, Nat.reduceAdd, Nat.reduceMul, Nat.zero_add, cE_f, cE_t, mE_f, mE_t, within_ok, ne_eq, holds_no e2, e1, B1, grd_t kb, kk, und_c ok hw, z]
          · have u1 : und (q.kind b) w = 1 := by have := und_le (q.kind b) w; omega
            simp (disch := omega) only [F_X9_taken_36, nI_lit, nI_addE, nI_mulE, nI_ltE, nI_leE, nI_eqE, nI_eqN, nI_Neq, nI_ltN, nI_Nlt, nI_leN, nI_Nle, nI_NeN, nI_subE, bd1_s, bd2_s, onrN, onrS, grd_t, grd_T, gI_eq, gI_ne, gL_pI, gI_pL, ltT, ltF, leT, leF, eqT, eqF, if_true, if_false, true_or, or_true, ite_true, ite_false, and_true, true_and, and_false, false_and, not_false_eq_true, not_true_eq_false, ↓reduceIte, in_eq, Nat.reduceAdd, Nat.reduceMul, Nat.zero_add, cE_f, cE_t, mE_f, mE_t, within_ok, ne_eq, holds_no e2, e1, B1, grd_t kb, kk, und_c ok hw, u1]
        · by_cases z : und (q.kind b) w = 0
          · simp (disch := omega) only [F_X10_taken_29, nI_lit, nI_addE, nI_mulE, nI_ltE, nI_leE, nI_eqE, nI_eqN, nI_Neq, nI_ltN, nI_Nlt, nI_leN, nI_Nle, nI_NeN, nI_subE, bd1_s, bd2_s, onrN, onrS, grd_t, grd_T, gI_eq, gI_ne, gL_pI, gI_pL, ltT, ltF, leT, leF, eqT, eqF, if_true, if_false, true_or, or_true, ite_true, ite_false, and_true, true_and, and_false, false_and, not_false_eq_true, not_true_eq_false, ↓reduceIte, in_eq, Nat.reduceAdd, Nat.reduceMul, Nat.zero_add, cE_f, cE_t, mE_f, mE_t, within_ok, ne_eq, kindOn_B hs hm m8 g mb e3 e4, und_m ok hw, z]
          · have u1 : und (q.kind b) w = 1 := by have := und_le (q.kind b) w; omega
            simp (disch := omega) only [F_X10_taken_29, nI_lit, nI_addE, nI_mulE, nI_ltE, nI_leE, nI_eqE, nI_eqN, nI_Neq, nI_ltN, nI_Nlt, nI_leN, nI_Nle, nI_NeN, nI_subE, bd1_s, bd2_s, onrN, onrS, grd_t, grd_T, gI_eq, gI_ne, gL_pI, gI_pL, ltT, ltF, leT, leF, eqT, eqF, if_true, if_false, true_or, or_true, ite_true, ite_false, and_true, true_and, and_false, false_and, not_false_eq_true, not_true_eq_false, ↓reduceIte, in_eq, Nat.reduceAdd, Nat.reduceMul, Nat.zero_add, cE_f, cE_t, mE_f, mE_t, within_ok, ne_eq, kindOn_B hs hm m8 g mb e3 e4, und_m ok hw, u1, i2, e4]
      · refine ⟨-nI 13, ?_, ?_⟩
        · simp (disch := omega) only [F_X9_taken_36, nI_lit, nI_addE, nI_mulE, nI_ltE, nI_leE, nI_eqE, nI_eqN, nI_Neq, nI_ltN, nI_Nlt, nI_leN, nI_Nle, nI_NeN, nI_subE, bd1_s, bd2_s, onrN, onrS, grd_t, grd_T, gI_eq, gI_ne, gL_pI, gI_pL, ltT, ltF, leT, leF, eqT, eqF, if_true, if_false, true_or, or_true, ite_true, ite_false, and_true, true_and, and_false, false_and, not_false_eq_true, not_true_eq_false, ↓reduceIte, in_eq, Nat.reduceAdd, Nat.reduceMul, Nat.zero_add, cE_f, cE_t, mE_f, mE_t, within_ok, ne_eq, holds_no e2, e1, B1, grd_t kb]
        · simp (disch := omega) only [F_X10_taken_29, nI_lit, nI_addE, nI_mulE, nI_ltE, nI_leE, nI_eqE, nI_eqN, nI_Neq, nI_ltN, nI_Nlt, nI_leN, nI_Nle, nI_NeN, nI_subE, bd1_s, bd2_s, onrN, onrS, grd_t, grd_T, gI_eq, gI_ne, gL_pI, gI_pL, ltT, ltF, leT, leF, eqT, eqF, if_true, if_false, true_or, or_true, ite_true, ite_false, and_true, true_and, and_false, false_and, not_false_eq_true, not_true_eq_false, ↓reduceIte, in_eq, Nat.reduceAdd, Nat.reduceMul, Nat.zero_add, cE_f, cE_t, mE_f, mE_t, within_ok, ne_eq, kindOn_B hs hm m8 g mb e3 e4]
    · refine ⟨-nI 11, ?_, ?_⟩
      · simp (disch := omega) only [F_X9_taken_36, nI_lit, nI_addE, nI_mulE, nI_ltE, nI_leE, nI_eqE, nI_eqN, nI_Neq, nI_ltN, nI_Nlt, nI_leN, nI_Nle, nI_NeN, nI_subE, bd1_s, bd2_s, onrN, onrS, grd_t, grd_T, gI_eq, gI_ne, gL_pI, gI_pL, ltT, ltF, leT, leF, eqT, eqF, if_true, if_false, true_or, or_true, ite_true, ite_false, and_true, true_and, and_false, false_and, not_false_eq_true, not_true_eq_false, ↓reduceIte, in_eq, Nat.reduceAdd, Nat.reduceMul, Nat.zero_add, cE_f, cE_t, mE_f, mE_t, within_ok, ne_eq, holds_no e2, e1, bidAt_no c3 (badge (by omega : q.m ≤ b) (by omega))]
      · simp (disch := omega) only [F_X10_taken_29, nI_lit, nI_addE, nI_mulE, nI_ltE, nI_leE, nI_eqE, nI_eqN, nI_Neq, nI_ltN, nI_Nlt, nI_leN, nI_Nle, nI_NeN, nI_subE, bd1_s, bd2_s, onrN, onrS, grd_t, grd_T, gI_eq, gI_ne, gL_pI, gI_pL, ltT, ltF, leT, leF, eqT, eqF, if_true, if_false, true_or, or_true, ite_true, ite_false, and_true, true_and, and_false, false_and, not_false_eq_true, not_true_eq_false, ↓reduceIte, in_eq, Nat.reduceAdd, Nat.reduceMul, Nat.zero_add, cE_f, cE_t, mE_f, mE_t, within_ok, ne_eq, kindOn_B0 hs m8 (by omega : q.m ≤ b) hb e3 e4]
  · rcases hw with ⟨rfl, hw⟩ | ⟨rfl, hw⟩
    · refine ⟨-nI 13, ?_, ?_⟩
      · simp (disch := omega) only [F_X9_taken_36, nI_lit, nI_addE, nI_mulE, nI_ltE, nI_leE, nI_eqE, nI_eqN, nI_Neq, nI_ltN, nI_Nlt, nI_leN, nI_Nle, nI_NeN, nI_subE, bd1_s, bd2_s, onrN, onrS, grd_t, grd_T, gI_eq, gI_ne, gL_pI, gI_pL, ltT, ltF, leT, leF, eqT, eqF, if_true, if_false, true_or, or_true, ite_true, ite_false, and_true, true_and, and_false, false_and, not_false_eq_true, not_true_eq_false, ↓reduceIte, in_eq, Nat.reduceAdd, Nat.reduceMul, Nat.zero_add, cE_f, cE_t, mE_f, mE_t, within_ok, ne_eq, holds_yes ht e1]
      · simp (disch := omega) only [F_X10_taken_29, nI_lit, nI_addE, nI_mulE, nI_ltE, nI_leE, nI_eqE, nI_eqN, nI_Neq, nI_ltN, nI_Nlt, nI_leN, nI_Nle, nI_NeN, nI_subE, bd1_s, bd2_s, onrN, onrS, grd_t, grd_T, gI_eq, gI_ne, gL_pI, gI_pL, ltT, ltF, leT, leF, eqT, eqF, if_true, if_false, true_or, or_true, ite_true, ite_false, and_true, true_and, and_false, false_and, not_false_eq_true, not_true_eq_false, ↓reduceIte, in_eq, Nat.reduceAdd, Nat.reduceMul, Nat.zero_add, cE_f, cE_t, mE_f, mE_t, within_ok, ne_eq, kindOn_C hs e3, i2, e4]
    · by_cases z : w = 10 + t
      · refine ⟨nI n, ?_, ?_⟩
        · simp (disch := omega) only [F_X9_taken_36, nI_lit, nI_addE, nI_mulE, nI_ltE, nI_leE, nI_eqE, nI_eqN, nI_Neq, nI_ltN, nI_Nlt, nI_leN, nI_Nle, nI_NeN, nI_subE, bd1_s, bd2_s, onrN, onrS, grd_t, grd_T, gI_eq, gI_ne, gL_pI, gI_pL, ltT, ltF, leT, leF, eqT, eqF, if_true, if_false, true_or, or_true, ite_true, ite_false, and_true, true_and, and_false, false_and, not_false_eq_true, not_true_eq_false, ↓reduceIte, in_eq, Nat.reduceAdd, Nat.reduceMul, Nat.zero_add, cE_f, cE_t, mE_f, mE_t, within_ok, ne_eq, holds_yes ht e1, e1, e2]
        · simp (disch := omega) only [F_X10_taken_29, nI_lit, nI_addE, nI_mulE, nI_ltE, nI_leE, nI_eqE, nI_eqN, nI_Neq, nI_ltN, nI_Nlt, nI_leN, nI_Nle, nI_NeN, nI_subE, bd1_s, bd2_s, onrN, onrS, grd_t, grd_T, gI_eq, gI_ne, gL_pI, gI_pL, ltT, ltF, leT, leF, eqT, eqF, if_true, if_false, true_or, or_true, ite_true, ite_false, and_true, true_and, and_false, false_and, not_false_eq_true, not_true_eq_false, ↓reduceIte, in_eq, Nat.reduceAdd, Nat.reduceMul, Nat.zero_add, cE_f, cE_t, mE_f, mE_t, within_ok, ne_eq, kindOn_C hs e3, i2, e4, i3, e5]
      · refine ⟨-nI 13, ?_, ?_⟩
        · simp (disch := omega) only [F_X9_taken_36, nI_lit, nI_addE, nI_mulE, nI_ltE, nI_leE, nI_eqE, nI_eqN, nI_Neq, nI_ltN, nI_Nlt, nI_leN, nI_Nle, nI_NeN, nI_subE, bd1_s, bd2_s, onrN, onrS, grd_t, grd_T, gI_eq, gI_ne, gL_pI, gI_pL, ltT, ltF, leT, leF, eqT, eqF, if_true, if_false, true_or, or_true, ite_true, ite_false, and_true, true_and, and_false, false_and, not_false_eq_true, not_true_eq_false, ↓reduceIte, in_eq, Nat.reduceAdd, Nat.reduceMul, Nat.zero_add, cE_f, cE_t, mE_f, mE_t, within_ok, ne_eq, holds_yes ht e1, e1]
        · simp (disch := omega) only [F_X10_taken_29, nI_lit, nI_addE, nI_mulE, nI_ltE, nI_leE, nI_eqE, nI_eqN, nI_Neq, nI_ltN, nI_Nlt, nI_leN, nI_Nle, nI_NeN, nI_subE, bd1_s, bd2_s, onrN, onrS, grd_t, grd_T, gI_eq, gI_ne, gL_pI, gI_pL, ltT, ltF, leT, leF, eqT, eqF, if_true, if_false, true_or, or_true, ite_true, ite_false, and_true, true_and, and_false, false_and, not_false_eq_true, not_true_eq_false, ↓reduceIte, in_eq, Nat.reduceAdd, Nat.reduceMul, Nat.zero_add, cE_f, cE_t, mE_f, mE_t, within_ok, ne_eq, kindOn_C hs e3, i2, e4]
theorem op_taken (I : Inv q σ) (a1 a2 : Int32) : OpOk (f_X9_taken 0 a1 a2) (f_X10_taken 94 a1 a2) σ := by
  rcases (arg a1 0 3 (by omega) (by omega)).symm with b | ⟨s, -, hs, rfl⟩
  · refine ⟨-nI 1, σ, σ, q, ?_, ?_, I⟩
    · rcases (arg a2 10 13 (by omega) (by omega)).symm with b2 | ⟨w, hw1, hw2, rfl⟩
      · simp only [f_X9_taken, shelfAt_no b, bd2_s, onrN, nI_lit, within_no _ b2]
      · simp only [f_X9_taken, shelfAt_no b, bd2_s, onrN, nI_lit, within_ok _ hw1 hw2 (by decide : 13 < 2147483648)]
    · simp only [f_X10_taken, isShelf_no b, bd2_s, nI_lit, if_true]
  have hs4 : s < 4 := by omega
  have ks := kd_shelf hs4
  rcases (arg a2 10 13 (by omega) (by omega)).symm with b2 | ⟨w, hw1, hw2, rfl⟩
  · rcases (arg a2 0 5 (by omega) (by omega)).symm with b3 | ⟨w, -, hw, rfl⟩
    · refine ⟨-nI 1, σ, σ, q, ?_, ?_, I⟩
      · simp only [f_X9_taken, shelfAt_ok hs4, bd2_s, onrS, grd_t ks, nI_lit, within_no _ b2, within_no _ b3, if_true]
      · simp only [f_X10_taken, isShelf_ok hs, bd2_s, nI_lit, nI10, if_false, in_eq, within_no _ b2, within_no _ b3, if_true]
    · obtain ⟨r, t1, t2⟩ := taken_both I hs4 (.inl ⟨rfl, hw⟩)
      refine ⟨r, σ, σ, q, ?_, ?_, I⟩
      · simp only [f_X9_taken, shelfAt_ok hs4, bd2_s, onrS, grd_t ks, nI_lit, within_no _ b2, within_ok _ (Nat.zero_le w) hw (by decide : 5 < 2147483648), nI10, if_false, if_true, t1]
      · simp only [f_X10_taken, isShelf_ok hs, bd2_s, nI_lit, nI10, if_false, in_eq, within_ok _ (Nat.zero_le w) hw (by decide : 5 < 2147483648), t2]
  · obtain ⟨r, t1, t2⟩ := taken_both I hs4 (.inr ⟨rfl, hw1, hw2⟩)
    have b3 : nI w < nI 0 ∨ (¬ nI w < nI 0 ∧ nI 5 < nI w) := .inr ⟨by rw [nI_ltE (by omega) (by omega)]; omega, by rw [nI_ltE (by omega) (by omega)]; omega⟩
    refine ⟨r, σ, σ, q, ?_, ?_, I⟩
    · simp only [f_X9_taken, shelfAt_ok hs4, bd2_s, onrS, grd_t ks, nI_lit, within_ok _ hw1 hw2 (by decide : 13 < 2147483648), nI10, if_false, t1]
    · simp only [f_X10_taken, isShelf_ok hs, bd2_s, nI_lit, nI10, if_false, in_eq, within_no _ b3, within_ok _ hw1 hw2 (by decide : 13 < 2147483648), if_true, t2]
end
