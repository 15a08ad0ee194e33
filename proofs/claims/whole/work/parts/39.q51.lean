section
variable {q : HQ} {σ : Mem} {h o b v l s : Nat}
theorem inv_try {σ' : Mem} (I : Inv q σ) (F : Fr WG σ σ') (C : CH 1 q σ') (M : MH 0 q σ') (a1 : gI σ' 94 13 = nI 0) (a2 : gI σ' 94 33 = mE 9) (g : RG σ') : Inv q σ' :=
  ⟨I.1, C, M, ⟨a1, a2⟩, R1_frg I.2.2.2.2 F g⟩
theorem FH49_WG {k i : Nat} (c : FH 49 k i) : WG k i := by unfold FH at c; unfold WG WH; omega
theorem FT_WG {k i : Nat} (c : FT k i) : WG k i := by unfold FT at c; unfold WG WH; omega
/-- one trial on either side -/
theorem both_try (I : Inv q σ) (hl : l < q.n) : ∃ σ1, f_X8_burnAnew_RIN 48 1 (nI l) σ = some (nI (run q 9 l).1, σ1) ∧ f_X8_winner 48 (nI l) σ1 = some (cE (fin q 9 l).holder, σ1) ∧ f_X8_price 48 (nI l) σ1 = some (nI (fin q 9 l).high, σ1) ∧ Fr (FH 49) σ σ1 ∧ ∃ σ2, f_X10_tries 94 (nI l) σ1 = some σ2 ∧ Inv q σ2 ∧ gI σ2 94 36 = nI (run q 9 l).1 ∧ gI σ2 94 37 = mE (fin q 9 l).holder ∧ gI σ2 94 38 = nI (fin q 9 l).high ∧ MH 0 q σ1 := by
  obtain ⟨ok, C, M, r0, r1⟩ := id I
  have okX := okx ok
  obtain ⟨σ0, a1, a2, a3⟩ := cl_set49 okX hl C
  obtain ⟨σ1, b1, b2, b3, b4⟩ := cl_trial okX hl a2
  have F1 : Fr (FH 49) σ σ1 := Fr_tr a3 b4
  have M1 : MH 0 q σ1 := MH_fr M fun k i c => F1.1 k i (by unfold FH; omega)
  have as1 : gI σ1 94 33 = mE 9 := (F1.1 94 33 (by unfold FH; omega)).trans r0.2
  obtain ⟨σ2, c1, c2, c3, c4, c5, c6, c7, c8, c9⟩ := md_tries (s := 9) (by omega) okX hl as1 M1
  have F : Fr WG σ σ2 := Fr_tr (Fr_mono F1 fun k i c => FH49_WG c) (Fr_mono c9 fun k i c => FT_WG c)
  refine ⟨σ1, ?_, b2, b3, F1, σ2, c1, inv_try I F ?_ c2 c4 c5 ⟨_, c3⟩, c6, c7, c8, M1⟩
  · simp only [f_X8_burnAnew_RIN, Nat.reduceAdd, nI_lit, a1, bd1_s, b1, bd2_s]
  · exact CH_fr ok (CH1_fr okX C F1) fun k i h1 h2 => c9.1 k i (by unfold FT; omega)
theorem op_end (I : Inv q σ) (a1 : Int32) : OpOk (f_X9_end 0 a1) (f_X10_end 94 a1) σ := by
  obtain ⟨⟨⟨hn, hol⟩, hob, hoc⟩, ⟨cs, cd, cl, cb⟩, ⟨ms, mr, md, ml, mb⟩, r0, r1⟩ := id I
  obtain ⟨c1, c3, c5, c6, c7, c8⟩ := id cs
  obtain ⟨m0, m8, m7, m14⟩ := id ms
  have hm := hob.1
  rcases (arg3 a1 q.n (by omega)).symm with b | ⟨l, hl, rfl⟩
  · refine ⟨-1, σ, σ, q, ?_, ?_, I⟩
    · simp (disch := omega) only [f_X9_end, nI_lit, nI_addE, nI_mulE, nI_ltE, nI_leE, nI_eqE, nI_eqN, nI_Neq, nI_ltN, nI_Nlt, nI_leN, nI_Nle, nI_NeN, nI_subE, bd1_s, bd2_s, onrN, onrS, grd_t, grd_T, gI_eq, gI_ne, gL_pI, gI_pL, ltT, ltF, leT, leF, eqT, eqF, if_true, if_false, true_or, or_true, ite_true, ite_false, and_true, true_and, and_false, false_and, not_false_eq_true, not_true_eq_false, ↓reduceIte, in_eq, Nat.reduceAdd, Nat.reduceMul, Nat.zero_add, cE_f, cE_t, mE_f, mE_t, within_ok, ne_eq, unsold_bad c1 b]
    · simp (disch := omega) only [f_X10_end, nI_lit, nI_addE, nI_mulE, nI_ltE, nI_leE, nI_eqE, nI_eqN, nI_Neq, nI_ltN, nI_Nlt, nI_leN, nI_Nle, nI_NeN, nI_subE, bd1_s, bd2_s, onrN, onrS, grd_t, grd_T, gI_eq, gI_ne, gL_pI, gI_pL, ltT, ltF, leT, leF, eqT, eqF, if_true, if_false, true_or, or_true, ite_true, ite_false, and_true, true_and, and_false, false_and, not_false_eq_true, not_true_eq_false, ↓reduceIte, in_eq, Nat.reduceAdd, Nat.reduceMul, Nat.zero_add, cE_f, cE_t, mE_f, mE_t, within_ok, ne_eq, free_bad m0 b]
  have ol := (hol l hl).2.2.1
  by_cases s : q.sold l = 1
  · refine ⟨-1, σ, σ, q, ?_, ?_, I⟩
    · simp (disch := omega) only [f_X9_end, nI_lit, nI_addE, nI_mulE, nI_ltE, nI_leE, nI_eqE, nI_eqN, nI_Neq, nI_ltN, nI_Nlt, nI_leN, nI_Nle, nI_NeN, nI_subE, bd1_s, bd2_s, onrN, onrS, grd_t, grd_T, gI_eq, gI_ne, gL_pI, gI_pL, ltT, ltF, leT, leF, eqT, eqF, if_true, if_false, true_or, or_true, ite_true, ite_false, and_true, true_and, and_false, false_and, not_false_eq_true, not_true_eq_false, ↓reduceIte, in_eq, Nat.reduceAdd, Nat.reduceMul, Nat.zero_add, cE_f, cE_t, mE_f, mE_t, within_ok, ne_eq, unsold_no hn hl c1 cl s]
    · simp (disch := omega) only [f_X10_end, nI_lit, nI_addE, nI_mulE, nI_ltE, nI_leE, nI_eqE, nI_eqN, nI_Neq, nI_ltN, nI_Nlt, nI_leN, nI_Nle, nI_NeN, nI_subE, bd1_s, bd2_s, onrN, onrS, grd_t, grd_T, gI_eq, gI_ne, gL_pI, gI_pL, ltT, ltF, leT, leF, eqT, eqF, if_true, if_false, true_or, or_true, ite_true, ite_false, and_true, true_and, and_false, false_and, not_false_eq_true, not_true_eq_false, ↓reduceIte, in_eq, Nat.reduceAdd, Nat.reduceMul, Nat.zero_add, cE_f, cE_t, mE_f, mE_t, within_ok, ne_eq, free_no hn hl m0 ml s]
  have s0 : q.sold l = 0 := by omega
  obtain ⟨σ1, t1, t2, t3, t4, σ2, u1, u2, u3, u4, u5, M1⟩ := both_try I hl
  refine ⟨nI (run q 9 l).1, σ1, σ2, q, ?_, ?_, u2⟩
  · have kk := kd_lot (h := 1) (i := l) (.inl rfl) (by omega)
    simp only [Nat.reduceAdd] at kk
    simp only [f_X9_end, Nat.reduceAdd, unsold_ok hn hl c1 cl s0, bd2_s, onrS, grd_t kk, t1]
  · simp only [f_X10_end, free_ok hn hl M1.1.1 M1.2.2.2.1 s0, bd2_s, nI_lit, nI10, if_false, u1, bd1_s, u3]
theorem op_wins (I : Inv q σ) (a1 a2 : Int32) : OpOk (f_X9_wins 0 a1 a2) (f_X10_wins 94 a1 a2) σ := by
  obtain ⟨⟨⟨hn, hol⟩, hob, hoc⟩, ⟨cs, cd, cl, cb⟩, ⟨ms, mr, md, ml, mb⟩, r0, r1⟩ := id I
  obtain ⟨c1, c3, c5, c6, c7, c8⟩ := id cs
  obtain ⟨m0, m8, m7, m14⟩ := id ms
  have hm := hob.1
  rcases (arg3 a1 q.n (by omega)).symm with b | ⟨l, hl, rfl⟩
  · refine ⟨-1, σ, σ, q, ?_, ?_, I⟩
    · simp (disch := omega) only [f_X9_wins, nI_lit, nI_addE, nI_mulE, nI_ltE, nI_leE, nI_eqE, nI_eqN, nI_Neq, nI_ltN, nI_Nlt, nI_leN, nI_Nle, nI_NeN, nI_subE, bd1_s, bd2_s, onrN, onrS, grd_t, grd_T, gI_eq, gI_ne, gL_pI, gI_pL, ltT, ltF, leT, leF, eqT, eqF, if_true, if_false, true_or, or_true, ite_true, ite_false, and_true, true_and, and_false, false_and, not_false_eq_true, not_true_eq_false, ↓reduceIte, in_eq, Nat.reduceAdd, Nat.reduceMul, Nat.zero_add, cE_f, cE_t, mE_f, mE_t, within_ok, ne_eq, unsold_bad c1 b]
    · simp (disch := omega) only [f_X10_wins, nI_lit, nI_addE, nI_mulE, nI_ltE, nI_leE, nI_eqE, nI_eqN, nI_Neq, nI_ltN, nI_Nlt, nI_leN, nI_Nle, nI_NeN, nI_subE, bd1_s, bd2_s, onrN, onrS, grd_t, grd_T, gI_eq, gI_ne, gL_pI, gI_pL, ltT, ltF, leT, leF, eqT, eqF, if_true, if_false, true_or, or_true, ite_true, ite_false, and_true, true_and, and_false, false_and, not_false_eq_true, not_true_eq_false, ↓reduceIte, in_eq, Nat.reduceAdd, Nat.reduceMul, Nat.zero_add, cE_f, cE_t, mE_f, mE_t, within_ok, ne_eq, free_bad m0 b]
  have ol := (hol l hl).2.2.1
  by_cases s : q.sold l = 1
  · refine ⟨-1, σ, σ, q, ?_, ?_, I⟩
    · simp (disch := omega) only [f_X9_wins, nI_lit, nI_addE, nI_mulE, nI_ltE, nI_leE, nI_eqE, nI_eqN, nI_Neq, nI_ltN, nI_Nlt, nI_leN, nI_Nle, nI_NeN, nI_subE, bd1_s, bd2_s, onrN, onrS, grd_t, grd_T, gI_eq, gI_ne, gL_pI, gI_pL, ltT, ltF, leT, leF, eqT, eqF, if_true, if_false, true_or, or_true, ite_true, ite_false, and_true, true_and, and_false, false_and, not_false_eq_true, not_true_eq_false, ↓reduceIte, in_eq, Nat.reduceAdd, Nat.reduceMul, Nat.zero_add, cE_f, cE_t, mE_f, mE_t, within_ok, ne_eq, unsold_no hn hl c1 cl s]
    · simp (disch := omega) only [f_X10_wins, nI_lit, nI_addE, nI_mulE, nI_ltE, nI_leE, nI_eqE, nI_eqN, nI_Neq, nI_ltN, nI_Nlt, nI_leN, nI_Nle, nI_NeN, nI_subE, bd1_s, bd2_s, onrN, onrS, grd_t, grd_T, gI_eq, gI_ne, gL_pI, gI_pL, ltT, ltF, leT, leF, eqT, eqF, if_true, if_false, true_or, or_true, ite_true, ite_false, and_true, true_and, and_false, false_and, not_false_eq_true, not_true_eq_false, ↓reduceIte, in_eq, Nat.reduceAdd, Nat.reduceMul, Nat.zero_add, cE_f, cE_t, mE_f, mE_t, within_ok, ne_eq, free_no hn hl m0 ml s]
  have s0 : q.sold l = 0 := by omega
  have kk := kd_lot (h := 1) (i := l) (.inl rfl) (by omega)
  simp only [Nat.reduceAdd] at kk
  rcases (arg a2 0 1 (by omega) (by omega)).symm with b | ⟨k, -, hk, rfl⟩
  · refine ⟨-1, σ, σ, q, ?_, ?_, I⟩
    · simp only [f_X9_wins, Nat.reduceAdd, unsold_ok hn hl c1 cl s0, bd2_s, onrS, grd_t kk, nI_lit, within_no _ b, if_true]
    · simp only [f_X10_wins, free_ok hn hl m0 ml s0, bd2_s, nI_lit, nI10, if_false, isSide_no b, if_true]
  obtain ⟨σ1, t1, t2, t3, t4, σ2, u1, u2, u3, u4, u5, M1⟩ := both_try I hl
  have f := fin_ok (s := 9) (okx I.1) hl
  have hk : k = 0 ∨ k = 1 := by omega
  rcases hk with rfl | rfl
  · refine ⟨cE (fin q 9 l).holder, σ1, σ2, q, ?_, ?_, u2⟩
    · simp (disch := omega) only [f_X9_wins, bd1_s, bd2_s, onrN, onrS, grd_t, grd_T, Nat.reduceAdd, unsold_ok hn hl c1 cl s0, grd_t kk, nI_lit, within_ok, nI10, if_false, if_true, t1, t2]
    · simp (disch := omega) only [f_X10_wins, free_ok hn hl M1.1.1 M1.2.2.2.1 s0, bd1_s, bd2_s, onrN, onrS, grd_t, grd_T, nI_lit, nI10, if_false, isSide_ok, u1, if_true, u4]
      by_cases e : (fin q 9 l).holder = 9 <;> simp (disch := omega) only [f_X10_orNot, nI_lit, nI_addE, nI_mulE, nI_ltE, nI_leE, nI_eqE, nI_eqN, nI_Neq, nI_ltN, nI_Nlt, nI_leN, nI_Nle, nI_NeN, nI_subE, bd1_s, bd2_s, onrN, onrS, grd_t, grd_T, gI_eq, gI_ne, gL_pI, gI_pL, ltT, ltF, leT, leF, eqT, eqF, if_true, if_false, true_or, or_true, ite_true, ite_false, and_true, true_and, and_false, false_and, not_false_eq_true, not_true_eq_false, ↓reduceIte, in_eq, Nat.reduceAdd, Nat.reduceMul, Nat.zero_add, cE_f, cE_t, mE_f, mE_t, within_ok, ne_eq]
  · refine ⟨nI (fin q 9 l).high, σ1, σ2, q, ?_, ?_, u2⟩
    · simp (disch := omega) only [f_X9_wins, bd1_s, bd2_s, onrN, onrS, grd_t, grd_T, Nat.reduceAdd, unsold_ok hn hl c1 cl s0, grd_t kk, nI_lit, within_ok, nI10, if_false, t1, t3]
    · simp (disch := omega) only [f_X10_wins, free_ok hn hl M1.1.1 M1.2.2.2.1 s0, bd1_s, bd2_s, onrN, onrS, grd_t, grd_T, nI_lit, nI10, if_false, isSide_ok, u1, u5]
/-- a trial that is written down -/
theorem cl_anewR {k : Nat} (hk : k = 74 ∨ k = 76) (ok : q.Okx) (hl : l < q.n) (C : CH 1 q σ) (G : LC k lg0 σ) : ∃ σ', f_X8_burnAnew 48 1 (nI l) k σ = some (nI (run q 9 l).1, σ') ∧ LC k (run q 9 l).2.2 σ' ∧ Fr (fun c i => FH 49 c i ∨ c = k ∨ c = k + 1) σ σ' := by
  obtain ⟨σ0, a1, a2, a3⟩ := cl_set49 ok hl C
  have G0 : LC k lg0 σ0 := ⟨G.1, (a3.1 _ _ (by unfold FH; omega)).trans G.2.1, fun j hj => (a3.1 _ _ (by unfold FH; omega)).trans (G.2.2 j hj)⟩
  obtain ⟨σ1, b1, b2, b3, b4⟩ := cl_stageR hk ok hl a2 G0
  refine ⟨σ1, ?_, b3, Fr_tr (Fr_mono a3 fun k i c => .inl c) b4⟩
  simp only [f_X8_burnAnew, Nat.reduceAdd, nI_lit, a1, bd1_s, b1, bd2_s]
theorem md_prove_loop {c : Nat} (hc : c ≤ 20) : ∀ (d i : Nat) (σ1 : Mem) (fuel : Nat), i + d = 3 * c → d < fuel → gI σ 94 45 = nI c → Fr (fun k j => k = 117) σ σ1 → (∀ j, j < i → gI σ1 117 j = gI σ 113 j) → ∃ σ2, iterF (F_X10_prove_25 94) (fun _ _ => none) fuel (nI i) σ1 = some (nI c, σ2) ∧ Fr (fun k j => k = 117) σ σ2 ∧ (∀ j, j < 3 * c → gI σ2 117 j = gI σ 113 j) := by
  intro d
  induction d with
  | zero =>
    intro i σ1 fuel hi hf hC F E
    obtain ⟨f, rfl⟩ : ∃ f, fuel = f + 1 := ⟨fuel - 1, by omega⟩
    have : i = 3 * c := by omega
    subst this
    refine ⟨σ1, ?_, F, E⟩
    have z : gI σ1 94 45 = nI c := (F.1 94 45 (by omega)).trans hC
    show F_X10_prove_25 94 _ _ _ = _
    simp (disch := omega) only [F_X10_prove_25, nI_lit, nI_addE, nI_mulE, nI_ltE, nI_leE, nI_eqE, nI_eqN, nI_Neq, nI_ltN, nI_Nlt, nI_leN, nI_Nle, nI_NeN, nI_subE, bd1_s, bd2_s, onrN, onrS, grd_t, grd_T, gI_eq, gI_ne, gL_pI, gI_pL, ltT, ltF, leT, leF, eqT, eqF, if_true, if_false, true_or, or_true, ite_true, ite_false, and_true, true_and, and_false, false_and, not_false_eq_true, not_true_eq_false, ↓reduceIte, in_eq, Nat.reduceAdd, Nat.reduceMul, Nat.zero_add, cE_f, cE_t, mE_f, mE_t, within_ok, ne_eq, z]
  | succ d ih =>
    intro i σ1 fuel hi hf hC F E
    obtain ⟨f, rfl⟩ : ∃ f, fuel = f + 1 := ⟨fuel - 1, by omega⟩
    have z : gI σ1 94 45 = nI c := (F.1 94 45 (by omega)).trans hC
    have y : gI σ1 113 i = gI σ 113 i := F.1 113 i (by omega)
    obtain ⟨σ2, r1, r2, r3⟩ := ih (i + 1) (pI σ1 117 i (gI σ 113 i)) f (by omega) (by omega) hC (Fr_pI _ F rfl) (fun j hj => by
      by_cases e : j = i
      · simp (disch := omega) only [gI_eq, gI_ne, gL_pI, gI_pL, e]
      · simp (disch := omega) only [gI_eq, gI_ne, gL_pI, gI_pL]; exact E j (by omega))
    refine ⟨σ2, ?_, r2, r3⟩
    show F_X10_prove_25 94 _ _ _ = _
    simp (disch := omega) only [F_X10_prove_25, nI_lit, nI_addE, nI_mulE, nI_ltE, nI_leE, nI_eqE, nI_eqN, nI_Neq, nI_ltN, nI_Nlt, nI_leN, nI_Nle, nI_NeN, nI_subE, bd1_s, bd2_s, onrN, onrS, grd_t, grd_T, gI_eq, gI_ne, gL_pI, gI_pL, ltT, ltF, leT, leF, eqT, eqF, if_true, if_false, true_or, or_true, ite_true, ite_false, and_true, true_and, and_false, false_and, not_false_eq_true, not_true_eq_false, ↓reduceIte, in_eq, Nat.reduceAdd, Nat.reduceMul, Nat.zero_add, cE_f, cE_t, mE_f, mE_t, within_ok, ne_eq, ixo_95, ixo_96, ixo_97, ixo_98, ixo_99, ixo_100, ixo_101, ixo_102, ixo_103, ixo_104, ixo_105, ixo_106, ixo_107, ixo_108, ixo_109, ixo_110, ixo_111, ixo_112, ixo_113, ixo_114, ixo_115, ixo_116, ixo_117, ixo_118, ixo_119, ixo_120, ixo_121, ixo_122, ixo_123, ixo_124, ixo_125, ixo_126, z, y]
    exact r1
theorem op_prove (I : Inv q σ) (a1 : Int32) : OpOk (f_X9_prove 0 a1) (f_X10_prove 94 a1) σ := by
  obtain ⟨⟨⟨hn, hol⟩, hob, hoc⟩, ⟨cs, cd, cl, cb⟩, ⟨ms, mr, md, ml, mb⟩, r0, r1⟩ := id I
  obtain ⟨c1, c3, c5, c6, c7, c8⟩ := id cs
  obtain ⟨m0, m8, m7, m14⟩ := id ms
  have hm := hob.1
  rcases (arg3 a1 q.n (by omega)).symm with b | ⟨l, hl, rfl⟩
  · refine ⟨-1, σ, σ, q, ?_, ?_, I⟩
    · simp (disch := omega) only [f_X9_prove, nI_lit, nI_addE, nI_mulE, nI_ltE, nI_leE, nI_eqE, nI_eqN, nI_Neq, nI_ltN, nI_Nlt, nI_leN, nI_Nle, nI_NeN, nI_subE, bd1_s, bd2_s, onrN, onrS, grd_t, grd_T, gI_eq, gI_ne, gL_pI, gI_pL, ltT, ltF, leT, leF, eqT, eqF, if_true, if_false, true_or, or_true, ite_true, ite_false, and_true, true_and, and_false, false_and, not_false_eq_true, not_true_eq_false, ↓reduceIte, in_eq, Nat.reduceAdd, Nat.reduceMul, Nat.zero_add, cE_f, cE_t, mE_f, mE_t, within_ok, ne_eq, unsold_bad c1 b]
    · simp (disch := omega) only [f_X10_prove, nI_lit, nI_addE, nI_mulE, nI_ltE, nI_leE, nI_eqE, nI_eqN, nI_Neq, nI_ltN, nI_Nlt, nI_leN, nI_Nle, nI_NeN, nI_subE, bd1_s, bd2_s, onrN, onrS, grd_t, grd_T, gI_eq, gI_ne, gL_pI, gI_pL, ltT, ltF, leT, leF, eqT, eqF, if_true, if_false, true_or, or_true, ite_true, ite_false, and_true, true_and, and_false, false_and, not_false_eq_true, not_true_eq_false, ↓reduceIte, in_eq, Nat.reduceAdd, Nat.reduceMul, Nat.zero_add, cE_f, cE_t, mE_f, mE_t, within_ok, ne_eq, free_bad m0 b]
  have ol := (hol l hl).2.2.1
  by_cases s : q.sold l = 1
  · refine ⟨-1, σ, σ, q, ?_, ?_, I⟩
    · simp (disch := omega) only [f_X9_prove, nI_lit, nI_addE, nI_mulE, nI_ltE, nI_leE, nI_eqE, nI_eqN, nI_Neq, nI_ltN, nI_Nlt, nI_leN, nI_Nle, nI_NeN, nI_subE, bd1_s, bd2_s, onrN, onrS, grd_t, grd_T, gI_eq, gI_ne, gL_pI, gI_pL, ltT, ltF, leT, leF, eqT, eqF, if_true, if_false, true_or, or_true, ite_true, ite_false, and_true, true_and, and_false, false_and, not_false_eq_true, not_true_eq_false, ↓reduceIte, in_eq, Nat.reduceAdd, Nat.reduceMul, Nat.zero_add, cE_f, cE_t, mE_f, mE_t, within_ok, ne_eq, unsold_no hn hl c1 cl s]
    · simp (disch := omega) only [f_X10_prove, nI_lit, nI_addE, nI_mulE, nI_ltE, nI_leE, nI_eqE, nI_eqN, nI_Neq, nI_ltN, nI_Nlt, nI_leN, nI_Nle, nI_NeN, nI_subE, bd1_s, bd2_s, onrN, onrS, grd_t, grd_T, gI_eq, gI_ne, gL_pI, gI_pL, ltT, ltF, leT, leF, eqT, eqF, if_true, if_false, true_or, or_true, ite_true, ite_false, and_true, true_and, and_false, false_and, not_false_eq_true, not_true_eq_false, ↓reduceIte, in_eq, Nat.reduceAdd, Nat.reduceMul, Nat.zero_add, cE_f, cE_t, mE_f, mE_t, within_ok, ne_eq, free_no hn hl m0 ml s]
  have s0 : q.sold l = 0 := by omega
  have kk := kd_lot (h := 1) (i := l) (.inl rfl) (by omega)
  simp only [Nat.reduceAdd] at kk
  have okX := okx I.1
  have C0 : CH 1 q (pI σ 74 1 (nI 0)) := CH_fr I.1 I.2.1 fun k i h1 h2 => gI_ne _ _ (by omega)
  have G0 : LC 74 lg0 (pI σ 74 1 (nI 0)) := ⟨Nat.zero_le 20, gI_eq _ _ ⟨rfl, rfl⟩, fun j hj => absurd hj (by show ¬ j < 3 * 0; omega)⟩
  obtain ⟨σ1, t1, t2, t3⟩ := cl_anewR (.inl rfl) okX hl C0 G0
  have F1 : Fr (fun c i => FH 49 c i ∨ c = 74 ∨ c = 75) σ σ1 := Fr_tr (Fr_pI _ (Fr_rfl _ _) (.inr (.inl rfl))) t3
  have M1 : MH 0 q σ1 := MH_fr I.2.2.1 fun k i c => F1.1 k i (by unfold FH; omega)
  have as1 : gI σ1 94 33 = mE 9 := (F1.1 94 33 (by unfold FH; omega)).trans r0.2
  obtain ⟨σ2, u1, u2, u3, u4, u5, u6, u7, u8, u9⟩ := md_tries (s := 9) (by omega) okX hl as1 M1
  generalize run q 9 l = r at *
  obtain ⟨g0, g1, g2⟩ := t2
  obtain ⟨k0, k1, k2⟩ := u3
  obtain ⟨σ3, v1, v2, v3⟩ := md_prove_loop (σ := pI σ2 94 45 (nI r.2.2.1)) g0 (3 * r.2.2.1) 0 (pI σ2 94 45 (nI r.2.2.1)) FU (by omega) (FU_lt (by omega)) (gI_eq _ _ ⟨rfl, rfl⟩) (Fr_rfl _ _) (fun j hj => by omega)
  have F3 : ∀ k i, ¬ (FH 49 k i ∨ k = 74 ∨ k = 75) → ¬ FT k i → ¬ (k = 94 ∧ i = 45) → k ≠ 117 → gI σ3 k i = gI σ k i := fun k i h1 h2 h3 h4 => by
    rw [v2.1 k i h4, gI_ne _ _ h3, u9.1 k i h2, F1.1 k i h1]
  have W3 : ∀ k i, ¬ (k = 94 ∧ i = 45) → k ≠ 117 → gI σ3 k i = gI σ2 k i := fun k i h3 h4 => by
    rw [v2.1 k i h4, gI_ne _ _ h3]
  refine ⟨nI r.2.2.1, σ1, σ3, q, ?_, ?_, I.1, CH_fr I.1 I.2.1 fun k i h1 h2 => F3 k i (by unfold FH; omega) (by unfold FT; omega) (by omega) (by omega), MH_fr u2 fun k i c => W3 k i (by omega) (by omega), ⟨(W3 94 13 (by omega) (by omega)).trans u4, (W3 94 33 (by omega) (by omega)).trans u5⟩, ?_⟩
  · simp (disch := omega) only [f_X9_prove, f_X4_clear, bd1_s, bd2_s, onrN, onrS, grd_t, grd_T, Nat.reduceAdd, unsold_ok hn hl c1 cl s0, grd_t kk, nI_lit, t1, g1]
  · simp (disch := omega) only [f_X10_prove, free_ok hn hl M1.1.1 M1.2.2.2.1 s0, bd1_s, bd2_s, onrN, onrS, grd_t, grd_T, nI_lit, nI10, if_false, u1, k1]
    exact v1
  · obtain ⟨x1, x2, x3, x4, x5, x6, x7, x8⟩ := r1
    refine ⟨RT_fr x1 fun k i c => F3 k i (by unfold FH; omega) (by unfold FT; omega) (by omega) (by omega), ⟨r.2.2.1, g0, ?_, ?_, fun j hj => ?_⟩, RD_fr x3 fun k i c => F3 k i (by unfold FH; omega) (by unfold FT; omega) (by omega) (by omega), RS_fr x4 (fun k i c => F3 k i (by unfold FH; omega) (by unfold FT; omega) (by omega) (by omega)) ?_, RH_fr x5 fun k i c => F3 k i (by unfold FH; omega) (by unfold FT; omega) (by omega) (by omega), RK_fr x6 fun k i c => F3 k i (by unfold FH; omega) (by unfold FT; omega) (by omega) (by omega), RF_fr x7 fun k i c => F3 k i (by unfold FH; omega) (by unfold FT; omega) (by omega) (by omega), ⟨r.2.2, LM_fr ⟨k0, k1, k2⟩ fun k i c => W3 k i (by omega) (by omega)⟩⟩
    · rw [W3 _ _ (by omega) (by omega), u9.1 _ _ (by unfold FT; omega)]; exact g1
    · rw [v2.1 _ _ (by omega)]; exact gI_eq _ _ ⟨rfl, rfl⟩
    · rw [W3 _ _ (by omega) (by omega), u9.1 _ _ (by unfold FT; omega), g2 j hj, v3 j hj, gI_ne _ _ (by omega), k2 j hj]
    · rw [v2.2]
      show σ2.2 = σ.2
      rw [u9.2, F1.2]
def judR (R : Nat → Int32) (g : Lg) (c : Nat) : Nat → Nat → Nat
  | 0, _ => if c < g.1 then 222 else 0
  | d + 1, i => if g.1 ≤ i then i + 1 else if R (3 * i) = nI (g.2 (3 * i)) then (if R (3 * i + 1) = nI (g.2 (3 * i + 1)) then (if R (3 * i + 2) = nI (g.2 (3 * i + 2)) then judR R g c d (i + 1) else i + 1) else i + 1) else i + 1
theorem cell_ok {k c i w : Nat} (hk : k = 74 ∨ k = 76) (hc : c ≤ 20) (e : gI σ k 1 = nI c) (hi : i < c) (hw : w ≤ 2) : f_X4_cell k (nI i) (nI w) σ = some (gI σ (k + 1) (3 * i + w), σ) := by
  have h1 : ixo (k + 1) (nI (i * 3 + w)) = some (i * 3 + w) := by
    rcases hk with rfl | rfl
    · exact ixo_75 (by omega)
    · exact ixo_77 (by omega)
  have e3 : 3 * i = i * 3 := Nat.mul_comm 3 i
  rw [e3]
  simp (disch := omega) only [f_X4_cell, f_X4_has, nI_lit, nI_addE, nI_mulE, nI_ltE, nI_leE, nI_eqE, nI_eqN, nI_Neq, nI_ltN, nI_Nlt, nI_leN, nI_Nle, nI_NeN, nI_subE, bd1_s, bd2_s, onrN, onrS, grd_t, grd_T, gI_eq, gI_ne, gL_pI, gI_pL, ltT, ltF, leT, leF, eqT, eqF, if_true, if_false, true_or, or_true, ite_true, ite_false, and_true, true_and, and_false, false_and, not_false_eq_true, not_true_eq_false, ↓reduceIte, in_eq, Nat.reduceAdd, Nat.reduceMul, Nat.zero_add, cE_f, cE_t, mE_f, mE_t, within_ok, ne_eq, e, h1]
theorem same_step {i w : Nat} {c1 c2 : Nat} (hc1 : c1 ≤ 20) (hc2 : c2 ≤ 20) (e1 : gI σ 74 1 = nI c1) (e2 : gI σ 76 1 = nI c2) (hi1 : i < c1) (hi2 : i < c2) (hw : w ≤ 2) (rec : Int32 → Mem → Option (Int32 × Mem)) : F_X4_isSameRow_2 74 (nI i) 76 rec (nI w) σ = if gI σ 75 (3 * i + w) = gI σ 77 (3 * i + w) then rec (nI (w + 1)) σ else some (nI 0, σ) := by
  have k1 := cell_ok (w := w) (.inl rfl) hc1 e1 hi1 hw
  have k2 := cell_ok (w := w) (.inr rfl) hc2 e2 hi2 hw
  unfold F_X4_isSameRow_2
  rw [nI_lit 3, if_neg (by rw [nI_leE (by omega) (by omega)]; omega), k1, bd2_s, k2, bd2_s, nI_lit 1, nI_addE]
  rfl
theorem same_ok {i : Nat} {c1 : Nat} {g : Lg} (hc1 : c1 ≤ 20) (e1 : gI σ 74 1 = nI c1) (G : LC 76 g σ) (hi1 : i < c1) (hi2 : i < g.1) : f_X4_isSameRow 74 (nI i) 76 σ = some ((if gI σ 75 (3 * i) = nI (g.2 (3 * i)) then (if gI σ 75 (3 * i + 1) = nI (g.2 (3 * i + 1)) then (if gI σ 75 (3 * i + 2) = nI (g.2 (3 * i + 2)) then nI 1 else nI 0) else nI 0) else nI 0), σ) := by
  obtain ⟨g0, g1, g2⟩ := G
  have E := fun w (hw : w ≤ 2) rec => same_step (σ := σ) hc1 g0 e1 g1 hi1 hi2 hw rec
  have R0 := g2 (3 * i) (by omega)
  have R1 := g2 (3 * i + 1) (by omega)
  have R2 := g2 (3 * i + 2) (by omega)
  have T : ∀ rec, F_X4_isSameRow_2 74 (nI i) 76 rec (nI (2 + 1)) σ = some (nI 1, σ) := fun rec => by
    unfold F_X4_isSameRow_2
    rw [nI_lit 3, if_pos (by rw [nI_leE (by omega) (by omega)]; omega)]
    rfl
  show F_X4_isSameRow_2 74 (nI i) 76 (iterF (F_X4_isSameRow_2 74 (nI i) 76) (fun _ _ => none) 999) (nI 0) σ = _
  rw [E 0 (by omega), Nat.add_zero, R0]
  by_cases z0 : gI σ 75 (3 * i) = nI (g.2 (3 * i))
  · rw [if_pos z0, if_pos z0]
    show F_X4_isSameRow_2 74 (nI i) 76 (iterF (F_X4_isSameRow_2 74 (nI i) 76) (fun _ _ => none) 998) (nI (0 + 1)) σ = _
    rw [E (0 + 1) (by omega)]
    show (if gI σ 75 (3 * i + 1) = gI σ 77 (3 * i + 1) then iterF (F_X4_isSameRow_2 74 (nI i) 76) (fun _ _ => none) 998 (nI (1 + 1)) σ else some (nI 0, σ)) = _
    rw [R1]
    by_cases z1 : gI σ 75 (3 * i + 1) = nI (g.2 (3 * i + 1))
    · rw [if_pos z1, if_pos z1]
      show F_X4_isSameRow_2 74 (nI i) 76 (iterF (F_X4_isSameRow_2 74 (nI i) 76) (fun _ _ => none) 997) (nI 2) σ = _
      rw [E 2 (by omega), R2]
      by_cases z2 : gI σ 75 (3 * i + 2) = nI (g.2 (3 * i + 2))
      · rw [if_pos z2, if_pos z2]
        exact T _
      · rw [if_neg z2, if_neg z2]
    · rw [if_neg z1, if_neg z1]
  · rw [if_neg z0, if_neg z0]
theorem cl_judge {c : Nat} {g : Lg} (hc : c ≤ 20) (e1 : gI σ 74 1 = nI c) (G : LC 76 g σ) : ∀ (d i fuel : Nat), i + d = c → d < fuel → iterF (F_X4_judgedBy_2 74 76) (fun _ _ => none) fuel (nI i) σ = some (nI (judR (gI σ 75) g c d i), σ) := by
  have g0 := G.1
  have g1 := G.2.1
  intro d
  induction d with
  | zero =>
    intro i fuel hi hf
    obtain ⟨f, rfl⟩ : ∃ f, fuel = f + 1 := ⟨fuel - 1, by omega⟩
    show F_X4_judgedBy_2 74 76 _ _ _ = _
    unfold judR
    by_cases e : c < g.1 <;> simp (disch := omega) only [F_X4_judgedBy_2, nI_lit, nI_addE, nI_mulE, nI_ltE, nI_leE, nI_eqE, nI_eqN, nI_Neq, nI_ltN, nI_Nlt, nI_leN, nI_Nle, nI_NeN, nI_subE, bd1_s, bd2_s, onrN, onrS, grd_t, grd_T, gI_eq, gI_ne, gL_pI, gI_pL, ltT, ltF, leT, leF, eqT, eqF, if_true, if_false, true_or, or_true, ite_true, ite_false, and_true, true_and, and_false, false_and, not_false_eq_true, not_true_eq_false, ↓reduceIte, in_eq, Nat.reduceAdd, Nat.reduceMul, Nat.zero_add, cE_f, cE_t, mE_f, mE_t, within_ok, ne_eq, e1, g1]
  | succ d ih =>
    intro i fuel hi hf
    obtain ⟨f, rfl⟩ : ∃ f, fuel = f + 1 := ⟨fuel - 1, by omega⟩
    show F_X4_judgedBy_2 74 76 _ _ _ = _
    unfold judR
    by_cases e : g.1 ≤ i
    · simp (disch := omega) only [F_X4_judgedBy_2, nI_lit, nI_addE, nI_mulE, nI_ltE, nI_leE, nI_eqE, nI_eqN, nI_Neq, nI_ltN, nI_Nlt, nI_leN, nI_Nle, nI_NeN, nI_subE, bd1_s, bd2_s, onrN, onrS, grd_t, grd_T, gI_eq, gI_ne, gL_pI, gI_pL, ltT, ltF, leT, leF, eqT, eqF, if_true, if_false, true_or, or_true, ite_true, ite_false, and_true, true_and, and_false, false_and, not_false_eq_true, not_true_eq_false, ↓reduceIte, in_eq, Nat.reduceAdd, Nat.reduceMul, Nat.zero_add, cE_f, cE_t, mE_f, mE_t, within_ok, ne_eq, e1, g1]
    · have S := same_ok (i := i) hc e1 G (by omega) (by omega)
      rw [if_neg e]
      have st : ∀ rec, F_X4_judgedBy_2 74 76 rec (nI i) σ = bd2 (f_X4_isSameRow 74 (nI i) 76 σ) fun r6 σ4 => if r6 = nI 0 then some (nI (i + 1), σ4) else rec (nI (i + 1)) σ4 := fun rec => by
        unfold F_X4_judgedBy_2
        rw [e1, g1, if_neg (by rw [nI_leE (by omega) (by omega)]; omega), if_neg (by rw [nI_leE (by omega) (by omega)]; omega), nI_lit 1, nI_addE]
        rfl
      rw [st, S, bd2_s]
      by_cases z0 : gI σ 75 (3 * i) = nI (g.2 (3 * i))
      · rw [if_pos z0, if_pos z0]
        by_cases z1 : gI σ 75 (3 * i + 1) = nI (g.2 (3 * i + 1))
        · rw [if_pos z1, if_pos z1]
          by_cases z2 : gI σ 75 (3 * i + 2) = nI (g.2 (3 * i + 2))
          · rw [if_pos z2, if_pos z2, if_neg (by rw [nI10]; exact id)]
            exact ih (i + 1) f (by omega) (by omega)
          · rw [if_neg z2, if_neg z2, if_pos rfl]
        · rw [if_neg z1, if_neg z1, if_pos rfl]
      · rw [if_neg z0, if_neg z0, if_pos rfl]
theorem md_judge {c : Nat} {g : Lg} (hc : c ≤ 20) (e1 : gI σ 94 45 = nI c) (G : LM g σ) : ∀ (d i fuel : Nat), i + d = c → d < fuel → iterF (F_X10_judge_17 94) (fun _ _ => none) fuel (nI i) σ = some (nI (judR (gI σ 117) g c d i), σ) := by
  obtain ⟨g0, g1, g2⟩ := G
  intro d
  induction d with
  | zero =>
    intro i fuel hi hf
    obtain ⟨f, rfl⟩ : ∃ f, fuel = f + 1 := ⟨fuel - 1, by omega⟩
    show F_X10_judge_17 94 _ _ _ = _
    unfold judR
    by_cases e : c < g.1 <;> simp (disch := omega) only [F_X10_judge_17, nI_lit, nI_addE, nI_mulE, nI_ltE, nI_leE, nI_eqE, nI_eqN, nI_Neq, nI_ltN, nI_Nlt, nI_leN, nI_Nle, nI_NeN, nI_subE, bd1_s, bd2_s, onrN, onrS, grd_t, grd_T, gI_eq, gI_ne, gL_pI, gI_pL, ltT, ltF, leT, leF, eqT, eqF, if_true, if_false, true_or, or_true, ite_true, ite_false, and_true, true_and, and_false, false_and, not_false_eq_true, not_true_eq_false, ↓reduceIte, in_eq, Nat.reduceAdd, Nat.reduceMul, Nat.zero_add, cE_f, cE_t, mE_f, mE_t, within_ok, ne_eq, e1, g1]
  | succ d ih =>
    intro i fuel hi hf
    obtain ⟨f, rfl⟩ : ∃ f, fuel = f + 1 := ⟨fuel - 1, by omega⟩
    show F_X10_judge_17 94 (iterF (F_X10_judge_17 94) (fun _ _ => none) f) (nI i) σ = _
    have IH := ih (i + 1) f (by omega) (by omega)
    generalize iterF (F_X10_judge_17 94) (fun _ _ => none) f = R at IH ⊢
    unfold judR
    have z4 : ∀ v4 : Nat, v4 ≤ 3 → ∀ rec2, F_X10_judge_42 94 (nI i) R rec2 (nI 0) (nI v4) σ = some (nI (i + 1), σ) := fun v4 h4 rec2 => by
      by_cases e : 3 ≤ v4 <;> simp (disch := omega) only [F_X10_judge_42, nI_lit, nI_addE, nI_mulE, nI_ltE, nI_leE, nI_eqE, nI_eqN, nI_Neq, nI_ltN, nI_Nlt, nI_leN, nI_Nle, nI_NeN, nI_subE, bd1_s, bd2_s, onrN, onrS, grd_t, grd_T, gI_eq, gI_ne, gL_pI, gI_pL, ltT, ltF, leT, leF, eqT, eqF, if_true, if_false, true_or, or_true, ite_true, ite_false, and_true, true_and, and_false, false_and, not_false_eq_true, not_true_eq_false, ↓reduceIte, in_eq, Nat.reduceAdd, Nat.reduceMul, Nat.zero_add, cE_f, cE_t, mE_f, mE_t, within_ok, ne_eq]
    by_cases e : g.1 ≤ i
    · simp (disch := omega) only [F_X10_judge_17, nI_lit, nI_addE, nI_mulE, nI_ltE, nI_leE, nI_eqE, nI_eqN, nI_Neq, nI_ltN, nI_Nlt, nI_leN, nI_Nle, nI_NeN, nI_subE, bd1_s, bd2_s, onrN, onrS, grd_t, grd_T, gI_eq, gI_ne, gL_pI, gI_pL, ltT, ltF, leT, leF, eqT, eqF, if_true, if_false, true_or, or_true, ite_true, ite_false, and_true, true_and, and_false, false_and, not_false_eq_true, not_true_eq_false, ↓reduceIte, in_eq, Nat.reduceAdd, Nat.reduceMul, Nat.zero_add, cE_f, cE_t, mE_f, mE_t, within_ok, ne_eq, e1, g1]
      exact z4 0 (by omega) _
    · rw [if_neg e]
      have st : F_X10_judge_17 94 R (nI i) σ = iterF (F_X10_judge_42 94 (nI i) R) (fun _ _ _ => none) FU (nI 1) (nI 0) σ := by
        simp (disch := omega) only [F_X10_judge_17, nI_lit, nI_addE, nI_mulE, nI_ltE, nI_leE, nI_eqE, nI_eqN, nI_Neq, nI_ltN, nI_Nlt, nI_leN, nI_Nle, nI_NeN, nI_subE, bd1_s, bd2_s, onrN, onrS, grd_t, grd_T, gI_eq, gI_ne, gL_pI, gI_pL, ltT, ltF, leT, leF, eqT, eqF, if_true, if_false, true_or, or_true, ite_true, ite_false, and_true, true_and, and_false, false_and, not_false_eq_true, not_true_eq_false, ↓reduceIte, in_eq, Nat.reduceAdd, Nat.reduceMul, Nat.zero_add, cE_f, cE_t, mE_f, mE_t, within_ok, ne_eq, e1, g1]
      have t3 : ∀ rec2, F_X10_judge_42 94 (nI i) R rec2 (nI 1) (nI 3) σ = R (nI (i + 1)) σ := fun rec2 => by
        simp (disch := omega) only [F_X10_judge_42, nI_lit, nI_addE, nI_mulE, nI_ltE, nI_leE, nI_eqE, nI_eqN, nI_Neq, nI_ltN, nI_Nlt, nI_leN, nI_Nle, nI_NeN, nI_subE, bd1_s, bd2_s, onrN, onrS, grd_t, grd_T, gI_eq, gI_ne, gL_pI, gI_pL, ltT, ltF, leT, leF, eqT, eqF, if_true, if_false, true_or, or_true, ite_true, ite_false, and_true, true_and, and_false, false_and, not_false_eq_true, not_true_eq_false, ↓reduceIte, in_eq, Nat.reduceAdd, Nat.reduceMul, Nat.zero_add, cE_f, cE_t, mE_f, mE_t, within_ok, ne_eq]
      have tw : ∀ w : Nat, w ≤ 2 → ∀ rec2, F_X10_judge_42 94 (nI i) R rec2 (nI 1) (nI w) σ = if gI σ 117 (3 * i + w) = nI (g.2 (3 * i + w)) then rec2 (nI 1) (nI (w + 1)) σ else rec2 (nI 0) (nI (w + 1)) σ := fun w hw rec2 => by
        have y := g2 (3 * i + w) (by omega)
        have i1 : ixo 117 (nI (3 * i + w)) = some (3 * i + w) := ixo_117 (by omega)
        have i2 : ixo 113 (nI (3 * i + w)) = some (3 * i + w) := ixo_113 (by omega)
        unfold F_X10_judge_42
        rw [nI_lit 3, if_neg (by rw [nI_leE (by omega) (by omega)]; omega), nI_lit 0, if_neg (by rw [nI10]; exact id), nI_mulE, nI_addE]
        simp only [Nat.reduceAdd, i1, i2, bd1_s, y, nI_lit, nI_addE]
      rw [st]
      show F_X10_judge_42 94 (nI i) R (iterF (F_X10_judge_42 94 (nI i) R) (fun _ _ _ => none) 999) (nI 1) (nI 0) σ = _
      rw [tw 0 (by omega), Nat.add_zero]
      by_cases z0 : gI σ 117 (3 * i) = nI (g.2 (3 * i))
      · rw [if_pos z0, if_pos z0]
        show F_X10_judge_42 94 (nI i) R (iterF (F_X10_judge_42 94 (nI i) R) (fun _ _ _ => none) 998) (nI 1) (nI 1) σ = _
        rw [tw 1 (by omega)]
        by_cases z1 : gI σ 117 (3 * i + 1) = nI (g.2 (3 * i + 1))
        · rw [if_pos z1, if_pos z1]
          show F_X10_judge_42 94 (nI i) R (iterF (F_X10_judge_42 94 (nI i) R) (fun _ _ _ => none) 997) (nI 1) (nI 2) σ = _
          rw [tw 2 (by omega)]
          by_cases z2 : gI σ 117 (3 * i + 2) = nI (g.2 (3 * i + 2))
          · rw [if_pos z2, if_pos z2]
            exact (t3 _).trans IH
          · rw [if_neg z2, if_neg z2]
            exact z4 3 (by omega) _
        · rw [if_neg z1, if_neg z1]
          exact z4 2 (by omega) _
      · rw [if_neg z0, if_neg z0]
        exact z4 1 (by omega) _
theorem judR_c (R R' : Nat → Int32) (g : Lg) (c : Nat) (e : ∀ j, j < 3 * c → R j = R' j) : ∀ (d i : Nat), i + d = c → judR R g c d i = judR R' g c d i := by
  intro d
  induction d with
  | zero => intro i _; rfl
  | succ d ih =>
    intro i hi
    unfold judR
    rw [e (3 * i) (by omega), e (3 * i + 1) (by omega), e (3 * i + 2) (by omega), ih (i + 1) (by omega)]
theorem op_judge (I : Inv q σ) (a1 : Int32) : OpOk (f_X9_judge 0 a1) (f_X10_judge 94 a1) σ := by
  obtain ⟨⟨⟨hn, hol⟩, hob, hoc⟩, ⟨cs, cd, cl, cb⟩, ⟨ms, mr, md, ml, mb⟩, r0, r1⟩ := id I
  obtain ⟨c1, c3, c5, c6, c7, c8⟩ := id cs
  obtain ⟨m0, m8, m7, m14⟩ := id ms
  have hm := hob.1
  rcases (arg3 a1 q.n (by omega)).symm with b | ⟨l, hl, rfl⟩
  · refine ⟨-1, σ, σ, q, ?_, ?_, I⟩
    · simp (disch := omega) only [f_X9_judge, nI_lit, nI_addE, nI_mulE, nI_ltE, nI_leE, nI_eqE, nI_eqN, nI_Neq, nI_ltN, nI_Nlt, nI_leN, nI_Nle, nI_NeN, nI_subE, bd1_s, bd2_s, onrN, onrS, grd_t, grd_T, gI_eq, gI_ne, gL_pI, gI_pL, ltT, ltF, leT, leF, eqT, eqF, if_true, if_false, true_or, or_true, ite_true, ite_false, and_true, true_and, and_false, false_and, not_false_eq_true, not_true_eq_false, ↓reduceIte, in_eq, Nat.reduceAdd, Nat.reduceMul, Nat.zero_add, cE_f, cE_t, mE_f, mE_t, within_ok, ne_eq, unsold_bad c1 b]
    · simp (disch := omega) only [f_X10_judge, nI_lit, nI_addE, nI_mulE, nI_ltE, nI_leE, nI_eqE, nI_eqN, nI_Neq, nI_ltN, nI_Nlt, nI_leN, nI_Nle, nI_NeN, nI_subE, bd1_s, bd2_s, onrN, onrS, grd_t, grd_T, gI_eq, gI_ne, gL_pI, gI_pL, ltT, ltF, leT, leF, eqT, eqF, if_true, if_false, true_or, or_true, ite_true, ite_false, and_true, true_and, and_false, false_and, not_false_eq_true, not_true_eq_false, ↓reduceIte, in_eq, Nat.reduceAdd, Nat.reduceMul, Nat.zero_add, cE_f, cE_t, mE_f, mE_t, within_ok, ne_eq, free_bad m0 b]
  have ol := (hol l hl).2.2.1
  by_cases s : q.sold l = 1
  · refine ⟨-1, σ, σ, q, ?_, ?_, I⟩
    · simp (disch := omega) only [f_X9_judge, nI_lit, nI_addE, nI_mulE, nI_ltE, nI_leE, nI_eqE, nI_eqN, nI_Neq, nI_ltN, nI_Nlt, nI_leN, nI_Nle, nI_NeN, nI_subE, bd1_s, bd2_s, onrN, onrS, grd_t, grd_T, gI_eq, gI_ne, gL_pI, gI_pL, ltT, ltF, leT, leF, eqT, eqF, if_true, if_false, true_or, or_true, ite_true, ite_false, and_true, true_and, and_false, false_and, not_false_eq_true, not_true_eq_false, ↓reduceIte, in_eq, Nat.reduceAdd, Nat.reduceMul, Nat.zero_add, cE_f, cE_t, mE_f, mE_t, within_ok, ne_eq, unsold_no hn hl c1 cl s]
    · simp (disch := omega) only [f_X10_judge, nI_lit, nI_addE, nI_mulE, nI_ltE, nI_leE, nI_eqE, nI_eqN, nI_Neq, nI_ltN, nI_Nlt, nI_leN, nI_Nle, nI_NeN, nI_subE, bd1_s, bd2_s, onrN, onrS, grd_t, grd_T, gI_eq, gI_ne, gL_pI, gI_pL, ltT, ltF, leT, leF, eqT, eqF, if_true, if_false, true_or, or_true, ite_true, ite_false, and_true, true_and, and_false, false_and, not_false_eq_true, not_true_eq_false, ↓reduceIte, in_eq, Nat.reduceAdd, Nat.reduceMul, Nat.zero_add, cE_f, cE_t, mE_f, mE_t, within_ok, ne_eq, free_no hn hl m0 ml s]
  have s0 : q.sold l = 0 := by omega
  have kk := kd_lot (h := 1) (i := l) (.inl rfl) (by omega)
  simp only [Nat.reduceAdd] at kk
  have okX := okx I.1
  have C0 : CH 1 q (pI σ 76 1 (nI 0)) := CH_fr I.1 I.2.1 fun k i h1 h2 => gI_ne _ _ (by omega)
  have G0 : LC 76 lg0 (pI σ 76 1 (nI 0)) := ⟨Nat.zero_le 20, gI_eq _ _ ⟨rfl, rfl⟩, fun j hj => absurd hj (by show ¬ j < 3 * 0; omega)⟩
  obtain ⟨σ1, t1, t2, t3⟩ := cl_anewR (.inr rfl) okX hl C0 G0
  have F1 : Fr (fun c i => FH 49 c i ∨ c = 76 ∨ c = 77) σ σ1 := Fr_tr (Fr_pI _ (Fr_rfl _ _) (.inr (.inl rfl))) t3
  have M1 : MH 0 q σ1 := MH_fr I.2.2.1 fun k i c => F1.1 k i (by unfold FH; omega)
  have as1 : gI σ1 94 33 = mE 9 := (F1.1 94 33 (by unfold FH; omega)).trans r0.2
  obtain ⟨σ2, u1, u2, u3, u4, u5, u6, u7, u8, u9⟩ := md_tries (s := 9) (by omega) okX hl as1 M1
  generalize run q 9 l = r at *
  obtain ⟨c, hc, d1, d2, d3⟩ := r1.2.1
  have x1 : gI σ1 74 1 = nI c := (F1.1 _ _ (by unfold FH; omega)).trans d1
  have x2 : gI σ2 94 45 = nI c := (u9.1 _ _ (by unfold FT; omega)).trans ((F1.1 _ _ (by unfold FH; omega)).trans d2)
  have J1 := cl_judge hc x1 t2 c 0 FU (by omega) (FU_lt (by omega))
  have J2 := md_judge hc x2 u3 c 0 FU (by omega) (FU_lt (by omega))
  have ee := judR_c (gI σ1 75) (gI σ2 117) r.2.2 c (fun j hj => by
    rw [F1.1 75 j (by unfold FH; omega), u9.1 117 j (by unfold FT; omega), F1.1 117 j (by unfold FH; omega)]
    exact d3 j hj) c 0 (by omega)
  rw [← ee] at J2
  have F : Fr WG σ σ2 := Fr_tr (Fr_mono F1 fun k i c => by unfold FH at c; unfold WG WH; omega) (Fr_mono u9 fun k i c => FT_WG c)
  refine ⟨nI (judR (gI σ1 75) r.2.2 c c 0), σ1, σ2, q, ?_, ?_, inv_try I F (CH_fr I.1 I.2.1 fun k i h1 h2 => ?_) u2 u4 u5 ⟨_, u3⟩⟩
  · have J1 : f_X4_judgedBy 74 76 σ1 = _ := J1
    simp (disch := omega) only [f_X9_judge, f_X4_clear, bd1_s, bd2_s, onrN, onrS, grd_t, grd_T, Nat.reduceAdd, unsold_ok hn hl c1 cl s0, grd_t kk, nI_lit, t1, J1]
  · simp (disch := omega) only [f_X10_judge, free_ok hn hl M1.1.1 M1.2.2.2.1 s0, bd1_s, bd2_s, onrN, onrS, grd_t, grd_T, nI_lit, nI10, if_false, u1]
    exact J2
  · rw [u9.1 k i (by unfold FT; omega), F1.1 k i (by unfold FH; omega)]
end
