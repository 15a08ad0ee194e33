section
variable {q : HQ} {σ : Mem} {h o b v l s : Nat}
theorem cl_gustI (ok : q.Okx) (hb : b < q.m) (hl : l < q.n) {p : Nat} (hp : p < 12) (R : Int32 → Mem → Option (Int32 × Mem)) : ∀ (d v : Nat) (x : Nat × Nat) (σ : Mem) (fuel : Nat), v + d = 4 → d < fuel → CH 1 q σ → x.1 ≤ 9999 → x.2 ≤ 9999 → gI σ 48 1 = bE x.1 → gI σ 48 2 = nI x.2 → ∃ σ' y, y = bestL (cG q b l) (pG q l) hG d (4 * p + v) x ∧ iterF (F_X8_bestGust_17 48 1 (nI b) (nI l) (nI p) R) (fun _ _ => none) fuel (nI v) σ = R (nI (p + 1)) σ' ∧ Fr FS σ σ' ∧ y.1 ≤ 9999 ∧ y.2 ≤ 9999 ∧ gI σ' 48 1 = bE y.1 ∧ gI σ' 48 2 = nI y.2 := by
  intro d
  induction d with
  | zero =>
    intro v x σ fuel hi hf C h1 h2 e1 e2
    obtain ⟨f, rfl⟩ : ∃ f, fuel = f + 1 := ⟨fuel - 1, by omega⟩
    refine ⟨σ, x, rfl, ?_, Fr_rfl _ _, h1, h2, e1, e2⟩
    show F_X8_bestGust_17 48 1 (nI b) (nI l) (nI p) R _ _ _ = _
    simp (disch := omega) only [F_X8_bestGust_17, nI_lit, nI_addE, nI_mulE, nI_ltE, nI_leE, nI_eqE, nI_eqN, nI_Neq, nI_ltN, nI_Nlt, nI_leN, nI_Nle, nI_NeN, nI_subE, bd1_s, bd2_s, onrN, onrS, grd_t, grd_T, gI_eq, gI_ne, gL_pI, gI_pL, ltT, ltF, leT, leF, eqT, eqF, if_true, if_false, true_or, or_true, ite_true, ite_false, and_true, true_and, and_false, false_and, not_false_eq_true, not_true_eq_false, ↓reduceIte, in_eq, Nat.reduceAdd, Nat.reduceMul, Nat.zero_add, cE_f, cE_t, mE_f, mE_t, within_ok, ne_eq]
  | succ d ih =>
    intro v x σ fuel hi hf C h1 h2 e1 e2
    obtain ⟨f, rfl⟩ : ∃ f, fuel = f + 1 := ⟨fuel - 1, by omega⟩
    have hm := ok.2.1.1
    obtain ⟨σ1, a1, a2, a3⟩ := cl_set49 ok hl C
    have L := lits_ok ok hl
    have C2 : CH 49 (lits (qs q 11 p v) l) (pI σ1 52 p (nI v)) := by
      rw [lits_qs q (by omega)]
      exact CH_setd L.1 L.2.1 a2
    have F2 : Fr FS σ (pI σ1 52 p (nI v)) := Fr_pI _ (Fr_mono a3 fun k i c => FS_FH c) (by unfold FS; omega)
    have oki := okd (p := p) ok (by omega : v ≤ 3)
    have j1 : (4 * p + v) / 4 = p := by omega
    have j2 : (4 * p + v) % 4 = v := by omega
    have jh : hG (4 * p + v) = 10 * p + v := by unfold hG; rw [j1, j2]
    have jp : pG q l (4 * p + v) = (fin (qs q 11 p v) 9 l).high := by unfold pG; rw [j1, j2]
    obtain ⟨σ3, b1, b2, b3, b4, b5, b6, σ4, c1, c2, c3, c4⟩ := cl_weighed (c := 10 * p + v) oki hl C2 h1 h2 (by omega)
      (by rw [gI_ne _ _ (by omega), a3.1 _ _ (by unfold FH; omega)]; exact e1) (by rw [gI_ne _ _ (by omega), a3.1 _ _ (by unfold FH; omega)]; exact e2)
    have fo := fin_ok (s := 9) oki hl
    have hd : (fin (qs q 11 p v) 9 l).holder < q.m ∨ (fin (qs q 11 p v) 9 l).holder = 9 := fo.2.1
    have ip : ixo 52 (nI p) = some p := ixo_52 (by omega)
    show ∃ σ' y, y = bestL (cG q b l) (pG q l) hG d (4 * p + v + 1) (if cG q b l (4 * p + v) = 1 then weigh x (hG (4 * p + v)) (pG q l (4 * p + v)) else x) ∧ F_X8_bestGust_17 48 1 (nI b) (nI l) (nI p) R (iterF (F_X8_bestGust_17 48 1 (nI b) (nI l) (nI p) R) (fun _ _ => none) f) (nI v) σ = R (nI (p + 1)) σ' ∧ _
    by_cases e : (fin (qs q 11 p v) 9 l).holder = b
    · have ec : cG q b l (4 * p + v) = 1 := by unfold cG; rw [j1, j2, if_pos e]
      rw [if_pos ec, jh, jp]
      have W := weigh_le (c := 10 * p + v) h1 h2 (by omega) fo.1
      obtain ⟨σ5, y, r0, r1, r2, r3⟩ := ih (v + 1) (weigh x (10 * p + v) (fin (qs q 11 p v) 9 l).high) σ4 f (by omega) (by omega) (CH1_fs ok C (Fr_tr F2 c4)) W.1 W.2 c2 c3
      refine ⟨σ5, y, r0, Eq.trans ?_ r1, Fr_tr (Fr_tr F2 c4) r2, r3⟩
      generalize iterF (F_X8_bestGust_17 48 1 (nI b) (nI l) (nI p) R) (fun _ _ => none) f = R2
      have ew : cE (fin (qs q 11 p v) 9 l).holder = nI b := by rw [e, cE_f (by omega)]
      simp (disch := omega) only [F_X8_bestGust_17, nI_lit, nI_ltE, nI_addE, nI_mulE, ltT, ltF, leT, leF, eqT, eqF, ↓reduceIte, Nat.reduceAdd, bd1_s, bd2_s, onrN, onrS, grd_t, grd_T, a1, ip, b1, b2, ew, b3, c1]
    · have ec : ¬ cG q b l (4 * p + v) = 1 := by unfold cG; rw [j1, j2, if_neg e]; omega
      rw [if_neg ec]
      obtain ⟨σ5, y, r0, r1, r2, r3⟩ := ih (v + 1) x σ3 f (by omega) (by omega) (CH1_fs ok C (Fr_tr F2 b4)) h1 h2 b5 b6
      refine ⟨σ5, y, r0, Eq.trans ?_ r1, Fr_tr (Fr_tr F2 b4) r2, r3⟩
      generalize iterF (F_X8_bestGust_17 48 1 (nI b) (nI l) (nI p) R) (fun _ _ => none) f = R2
      have ew : (cE (fin (qs q 11 p v) 9 l).holder = nI b) = False := by
        by_cases e9 : (fin (qs q 11 p v) 9 l).holder = 9 <;> simp (disch := omega) only [nI_lit, nI_addE, nI_mulE, nI_ltE, nI_leE, nI_eqE, nI_eqN, nI_Neq, nI_ltN, nI_Nlt, nI_leN, nI_Nle, nI_NeN, nI_subE, bd1_s, bd2_s, onrN, onrS, grd_t, grd_T, gI_eq, gI_ne, gL_pI, gI_pL, ltT, ltF, leT, leF, eqT, eqF, if_true, if_false, true_or, or_true, ite_true, ite_false, and_true, true_and, and_false, false_and, not_false_eq_true, not_true_eq_false, ↓reduceIte, in_eq, Nat.reduceAdd, Nat.reduceMul, Nat.zero_add, cE_f, cE_t, mE_f, mE_t, within_ok, ne_eq]
      simp (disch := omega) only [F_X8_bestGust_17, nI_lit, nI_ltE, nI_addE, ltT, ltF, leT, leF, eqT, eqF, ↓reduceIte, Nat.reduceAdd, bd1_s, bd2_s, onrN, onrS, grd_t, grd_T, a1, ip, b1, b2, ew]
theorem cl_gust (ok : q.Okx) (hb : b < q.m) (hl : l < q.n) : ∀ (d p : Nat) (x : Nat × Nat) (σ : Mem) (fuel : Nat), p + d = 12 → d < fuel → CH 1 q σ → x.1 ≤ 9999 → x.2 ≤ 9999 → gI σ 48 1 = bE x.1 → gI σ 48 2 = nI x.2 → ∃ σ', iterF (F_X8_bestGust_7 48 1 (nI b) (nI l)) (fun _ _ => none) fuel (nI p) σ = some (bE (bestL (cG q b l) (pG q l) hG (4 * d) (4 * p) x).1, σ') ∧ Fr FS σ σ' := by
  intro d
  induction d with
  | zero =>
    intro p x σ fuel hi hf C h1 h2 e1 e2
    obtain ⟨f, rfl⟩ : ∃ f, fuel = f + 1 := ⟨fuel - 1, by omega⟩
    refine ⟨σ, ?_, Fr_rfl _ _⟩
    show F_X8_bestGust_7 48 1 (nI b) (nI l) _ _ _ = _
    simp (disch := omega) only [F_X8_bestGust_7, nI_lit, nI_addE, nI_mulE, nI_ltE, nI_leE, nI_eqE, nI_eqN, nI_Neq, nI_ltN, nI_Nlt, nI_leN, nI_Nle, nI_NeN, nI_subE, bd1_s, bd2_s, onrN, onrS, grd_t, grd_T, gI_eq, gI_ne, gL_pI, gI_pL, ltT, ltF, leT, leF, eqT, eqF, if_true, if_false, true_or, or_true, ite_true, ite_false, and_true, true_and, and_false, false_and, not_false_eq_true, not_true_eq_false, ↓reduceIte, in_eq, Nat.reduceAdd, Nat.reduceMul, Nat.zero_add, cE_f, cE_t, mE_f, mE_t, within_ok, ne_eq, e1, bestL]
  | succ d ih =>
    intro p x σ fuel hi hf C h1 h2 e1 e2
    obtain ⟨f, rfl⟩ : ∃ f, fuel = f + 1 := ⟨fuel - 1, by omega⟩
    obtain ⟨σ1, y, r0, r1, r2, r3, r4, r5, r6⟩ := cl_gustI ok hb hl (p := p) (by omega) (iterF (F_X8_bestGust_7 48 1 (nI b) (nI l)) (fun _ _ => none) f) 4 0 x σ FU (by omega) (FU_lt (by omega)) C h1 h2 e1 e2
    obtain ⟨σ2, s1, s2⟩ := ih (p + 1) y σ1 f (by omega) (by omega) (CH1_fs ok C r2) r3 r4 r5 r6
    have e4 : 4 * (d + 1) = 4 + 4 * d := by omega
    rw [e4, bestL_add]
    rw [Nat.add_zero] at r0
    rw [r0] at s1
    have e5 : 4 * (p + 1) = 4 * p + 4 := by omega
    rw [e5] at s1
    refine ⟨σ2, Eq.trans ?_ s1, Fr_tr r2 s2⟩
    refine Eq.trans ?_ r1
    show F_X8_bestGust_7 48 1 (nI b) (nI l) _ _ _ = _
    generalize iterF (F_X8_bestGust_7 48 1 (nI b) (nI l)) (fun _ _ => none) f = R
    simp (disch := omega) only [F_X8_bestGust_7, nI_lit, nI_leE, ltT, ltF, leT, leF, eqT, eqF, ↓reduceIte]
theorem md_gustI (ok : q.Okx) (hb : b < q.m) (hl : l < q.n) {p : Nat} (hp : p < 12) (R : Int32 → Int32 → Int32 → Mem → Option (Int32 × Mem)) : ∀ (d v w : Nat) (x : Nat × Nat) (σ : Mem) (fuel : Nat), v + d = 4 → d < fuel → MH 0 (qs q 11 p w) σ → gI σ 94 13 = nI 0 → gI σ 94 33 = mE 9 → RG σ → x.1 ≤ 9999 → x.2 ≤ 9999 → ∃ σ' y, y = bestL (cG q b l) (pG q l) hG d (4 * p + v) x ∧ iterF (F_X10_gust_46 94 (nI b) (nI l) (nI p) (nI (q.dr p)) R) (fun _ _ _ _ => none) fuel (bE x.1) (nI x.2) (nI v) σ = R (bE y.1) (nI y.2) (nI (p + 1)) σ' ∧ MH 0 q σ' ∧ gI σ' 94 13 = nI 0 ∧ gI σ' 94 33 = mE 9 ∧ RG σ' ∧ Fr FP σ σ' ∧ y.1 ≤ 9999 ∧ y.2 ≤ 9999 := by
  intro d
  induction d with
  | zero =>
    intro v w x σ fuel hi hf M at' as' G h1 h2
    obtain ⟨f, rfl⟩ : ∃ f, fuel = f + 1 := ⟨fuel - 1, by omega⟩
    have M2 := MH_setd (p := p) (v := q.dr p) M
    rw [qs_qs] at M2
    have id' : qs q 11 p (q.dr p) = q := qs_id q 11 p
    rw [id'] at M2
    refine ⟨pI σ 100 p (nI (q.dr p)), x, rfl, ?_, M2, (gI_ne _ _ (by omega)).trans at', (gI_ne _ _ (by omega)).trans as', RG_fr G fun k i c => gI_ne _ _ (by omega), Fr_pI _ (Fr_rfl _ _) (by unfold FP; omega), h1, h2⟩
    show F_X10_gust_46 94 (nI b) (nI l) (nI p) _ _ _ _ _ _ _ = _
    simp (disch := omega) only [F_X10_gust_46, nI_lit, nI_addE, nI_mulE, nI_ltE, nI_leE, nI_eqE, nI_eqN, nI_Neq, nI_ltN, nI_Nlt, nI_leN, nI_Nle, nI_NeN, nI_subE, bd1_s, bd2_s, onrN, onrS, grd_t, grd_T, gI_eq, gI_ne, gL_pI, gI_pL, ltT, ltF, leT, leF, eqT, eqF, if_true, if_false, true_or, or_true, ite_true, ite_false, and_true, true_and, and_false, false_and, not_false_eq_true, not_true_eq_false, ↓reduceIte, in_eq, Nat.reduceAdd, Nat.reduceMul, Nat.zero_add, cE_f, cE_t, mE_f, mE_t, within_ok, ne_eq, ixo_95, ixo_96, ixo_97, ixo_98, ixo_99, ixo_100, ixo_101, ixo_102, ixo_103, ixo_104, ixo_105, ixo_106, ixo_107, ixo_108, ixo_109, ixo_110, ixo_111, ixo_112, ixo_113, ixo_114, ixo_115, ixo_116, ixo_117, ixo_118, ixo_119, ixo_120, ixo_121, ixo_122, ixo_123, ixo_124, ixo_125, ixo_126]
  | succ d ih =>
    intro v w x σ fuel hi hf M at' as' G h1 h2
    obtain ⟨f, rfl⟩ : ∃ f, fuel = f + 1 := ⟨fuel - 1, by omega⟩
    have hm := ok.2.1.1
    have M2 := MH_setd (p := p) (v := v) M
    rw [qs_qs] at M2
    have oki := okd (p := p) ok (by omega : v ≤ 3)
    obtain ⟨σ2, u1, u2, u3, u4, u5, u6, u7, u8, u9⟩ := md_tries (s := 9) (l := l) (by omega) oki hl ((gI_ne _ _ (by omega)).trans as') M2
    have fo := fin_ok (s := 9) oki hl
    have j1 : (4 * p + v) / 4 = p := by omega
    have j2 : (4 * p + v) % 4 = v := by omega
    have jh : hG (4 * p + v) = 10 * p + v := by unfold hG; rw [j1, j2]
    have jp : pG q l (4 * p + v) = (fin (qs q 11 p v) 9 l).high := by unfold pG; rw [j1, j2]
    have hd : (fin (qs q 11 p v) 9 l).holder < q.m ∨ (fin (qs q 11 p v) 9 l).holder = 9 := fo.2.1
    have u7 : gI σ2 94 37 = mE (fin (qs q 11 p v) 9 l).holder := u7
    have u8 : gI σ2 94 38 = nI (fin (qs q 11 p v) 9 l).high := u8
    have F2 : Fr FP σ σ2 := Fr_tr (Fr_pI _ (Fr_rfl _ _) (by unfold FP; omega)) (Fr_mono u9 fun k i c => .inl c)
    show ∃ σ' y, y = bestL (cG q b l) (pG q l) hG d (4 * p + v + 1) (if cG q b l (4 * p + v) = 1 then weigh x (hG (4 * p + v)) (pG q l (4 * p + v)) else x) ∧ F_X10_gust_46 94 (nI b) (nI l) (nI p) (nI (q.dr p)) R (iterF (F_X10_gust_46 94 (nI b) (nI l) (nI p) (nI (q.dr p)) R) (fun _ _ _ _ => none) f) (bE x.1) (nI x.2) (nI v) σ = _ ∧ _
    by_cases e : (fin (qs q 11 p v) 9 l).holder = b
    · have ec : cG q b l (4 * p + v) = 1 := by unfold cG; rw [j1, j2, if_pos e]
      rw [if_pos ec, jh, jp]
      have W := weigh_le (c := 10 * p + v) h1 h2 (by omega) fo.1
      obtain ⟨σ5, y, r0, r1, r2, r3, r4, r5, r6, r7⟩ := ih (v + 1) v (weigh x (10 * p + v) (fin (qs q 11 p v) 9 l).high) σ2 f (by omega) (by omega) u2 u4 u5 ⟨_, u3⟩ W.1 W.2
      refine ⟨σ5, y, r0, Eq.trans ?_ r1, r2, r3, r4, r5, Fr_tr F2 r6, r7⟩
      generalize iterF (F_X10_gust_46 94 (nI b) (nI l) (nI p) (nI (q.dr p)) R) (fun _ _ _ _ => none) f = R2
      have ew : mE (fin (qs q 11 p v) 9 l).holder = nI b := by rw [e, mE_f (by omega)]
      have fh := fo.1
      unfold weigh
      by_cases e1 : x.1 = 9999
      · simp (disch := omega) only [F_X10_gust_46, nI_lit, nI_leE, nI_ltE, nI_Nlt, nI_addE, nI_mulE, ltT, ltF, leT, leF, eqT, eqF, if_true, if_false, true_or, or_true, ite_true, ite_false, and_true, true_and, and_false, false_and, not_false_eq_true, not_true_eq_false, ↓reduceIte, Nat.reduceAdd, bd1_s, bd2_s, onrN, onrS, grd_t, grd_T, ixo_95, ixo_96, ixo_97, ixo_98, ixo_99, ixo_100, ixo_101, ixo_102, ixo_103, ixo_104, ixo_105, ixo_106, ixo_107, ixo_108, ixo_109, ixo_110, ixo_111, ixo_112, ixo_113, ixo_114, ixo_115, ixo_116, ixo_117, ixo_118, ixo_119, ixo_120, ixo_121, ixo_122, ixo_123, ixo_124, ixo_125, ixo_126, u1, u7, ew, u8, bE_t, bE_f]
      · by_cases e2 : (fin (qs q 11 p v) 9 l).high < x.2
        · simp (disch := omega) only [F_X10_gust_46, nI_lit, nI_leE, nI_ltE, nI_addE, nI_mulE, ltT, ltF, leT, leF, eqT, eqF, if_true, if_false, true_or, or_true, ite_true, ite_false, and_true, true_and, and_false, false_and, not_false_eq_true, not_true_eq_false, ↓reduceIte, Nat.reduceAdd, bd1_s, bd2_s, onrN, onrS, grd_t, grd_T, ixo_95, ixo_96, ixo_97, ixo_98, ixo_99, ixo_100, ixo_101, ixo_102, ixo_103, ixo_104, ixo_105, ixo_106, ixo_107, ixo_108, ixo_109, ixo_110, ixo_111, ixo_112, ixo_113, ixo_114, ixo_115, ixo_116, ixo_117, ixo_118, ixo_119, ixo_120, ixo_121, ixo_122, ixo_123, ixo_124, ixo_125, ixo_126, u1, u7, ew, u8, bE_f]
        · simp (disch := omega) only [F_X10_gust_46, nI_lit, nI_leE, nI_ltE, nI_addE, nI_mulE, ltT, ltF, leT, leF, eqT, eqF, if_true, if_false, true_or, or_true, ite_true, ite_false, and_true, true_and, and_false, false_and, not_false_eq_true, not_true_eq_false, ↓reduceIte, Nat.reduceAdd, bd1_s, bd2_s, onrN, onrS, grd_t, grd_T, ixo_95, ixo_96, ixo_97, ixo_98, ixo_99, ixo_100, ixo_101, ixo_102, ixo_103, ixo_104, ixo_105, ixo_106, ixo_107, ixo_108, ixo_109, ixo_110, ixo_111, ixo_112, ixo_113, ixo_114, ixo_115, ixo_116, ixo_117, ixo_118, ixo_119, ixo_120, ixo_121, ixo_122, ixo_123, ixo_124, ixo_125, ixo_126, u1, u7, ew, u8, bE_f]
    · have ec : ¬ cG q b l (4 * p + v) = 1 := by unfold cG; rw [j1, j2, if_neg e]; omega
      rw [if_neg ec]
      obtain ⟨σ5, y, r0, r1, r2, r3, r4, r5, r6, r7⟩ := ih (v + 1) v x σ2 f (by omega) (by omega) u2 u4 u5 ⟨_, u3⟩ h1 h2
      refine ⟨σ5, y, r0, Eq.trans ?_ r1, r2, r3, r4, r5, Fr_tr F2 r6, r7⟩
      generalize iterF (F_X10_gust_46 94 (nI b) (nI l) (nI p) (nI (q.dr p)) R) (fun _ _ _ _ => none) f = R2
      have ew : (mE (fin (qs q 11 p v) 9 l).holder = nI b) = False := by
        by_cases e9 : (fin (qs q 11 p v) 9 l).holder = 9 <;> simp (disch := omega) only [nI_lit, nI_addE, nI_mulE, nI_ltE, nI_leE, nI_eqE, nI_eqN, nI_Neq, nI_ltN, nI_Nlt, nI_leN, nI_Nle, nI_NeN, nI_subE, bd1_s, bd2_s, onrN, onrS, grd_t, grd_T, gI_eq, gI_ne, gL_pI, gI_pL, ltT, ltF, leT, leF, eqT, eqF, if_true, if_false, true_or, or_true, ite_true, ite_false, and_true, true_and, and_false, false_and, not_false_eq_true, not_true_eq_false, ↓reduceIte, in_eq, Nat.reduceAdd, Nat.reduceMul, Nat.zero_add, cE_f, cE_t, mE_f, mE_t, within_ok, ne_eq]
      simp (disch := omega) only [F_X10_gust_46, nI_lit, nI_leE, nI_addE, ltT, ltF, leT, leF, eqT, eqF, if_true, if_false, true_or, or_true, ite_true, ite_false, and_true, true_and, and_false, false_and, not_false_eq_true, not_true_eq_false, ↓reduceIte, Nat.reduceAdd, bd1_s, bd2_s, onrN, onrS, grd_t, grd_T, ixo_95, ixo_96, ixo_97, ixo_98, ixo_99, ixo_100, ixo_101, ixo_102, ixo_103, ixo_104, ixo_105, ixo_106, ixo_107, ixo_108, ixo_109, ixo_110, ixo_111, ixo_112, ixo_113, ixo_114, ixo_115, ixo_116, ixo_117, ixo_118, ixo_119, ixo_120, ixo_121, ixo_122, ixo_123, ixo_124, ixo_125, ixo_126, u1, u7, ew]
theorem md_gust (ok : q.Okx) (hb : b < q.m) (hl : l < q.n) : ∀ (d p : Nat) (x : Nat × Nat) (σ : Mem) (fuel : Nat), p + d = 12 → d < fuel → MH 0 q σ → gI σ 94 13 = nI 0 → gI σ 94 33 = mE 9 → RG σ → x.1 ≤ 9999 → x.2 ≤ 9999 → ∃ σ', iterF (F_X10_gust_27 94 (nI b) (nI l)) (fun _ _ _ _ => none) fuel (bE x.1) (nI x.2) (nI p) σ = some (bE (bestL (cG q b l) (pG q l) hG (4 * d) (4 * p) x).1, σ') ∧ MH 0 q σ' ∧ gI σ' 94 13 = nI 0 ∧ gI σ' 94 33 = mE 9 ∧ RG σ' ∧ Fr FP σ σ' := by
  intro d
  induction d with
  | zero =>
    intro p x σ fuel hi hf M at' as' G h1 h2
    obtain ⟨f, rfl⟩ : ∃ f, fuel = f + 1 := ⟨fuel - 1, by omega⟩
    refine ⟨σ, ?_, M, at', as', G, Fr_rfl _ _⟩
    show F_X10_gust_27 94 (nI b) (nI l) _ _ _ _ _ = _
    simp (disch := omega) only [F_X10_gust_27, nI_lit, nI_addE, nI_mulE, nI_ltE, nI_leE, nI_eqE, nI_eqN, nI_Neq, nI_ltN, nI_Nlt, nI_leN, nI_Nle, nI_NeN, nI_subE, bd1_s, bd2_s, onrN, onrS, grd_t, grd_T, gI_eq, gI_ne, gL_pI, gI_pL, ltT, ltF, leT, leF, eqT, eqF, if_true, if_false, true_or, or_true, ite_true, ite_false, and_true, true_and, and_false, false_and, not_false_eq_true, not_true_eq_false, ↓reduceIte, in_eq, Nat.reduceAdd, Nat.reduceMul, Nat.zero_add, cE_f, cE_t, mE_f, mE_t, within_ok, ne_eq, bestL]
  | succ d ih =>
    intro p x σ fuel hi hf M at' as' G h1 h2
    obtain ⟨f, rfl⟩ : ∃ f, fuel = f + 1 := ⟨fuel - 1, by omega⟩
    have id' : qs q 11 p (q.dr p) = q := qs_id q 11 p
    obtain ⟨σ1, y, r0, r1, r2, r3, r4, r5, r6, r7, r8⟩ := md_gustI ok hb hl (p := p) (by omega) (iterF (F_X10_gust_27 94 (nI b) (nI l)) (fun _ _ _ _ => none) f) 4 0 (q.dr p) x σ FU (by omega) (FU_lt (by omega)) (by rw [id']; exact M) at' as' G h1 h2
    obtain ⟨σ2, s1, s2, s3, s4, s5, s6⟩ := ih (p + 1) y σ1 f (by omega) (by omega) r2 r3 r4 r5 r7 r8
    have e4 : 4 * (d + 1) = 4 + 4 * d := by omega
    rw [e4, bestL_add]
    rw [Nat.add_zero] at r0
    rw [r0] at s1 r1
    have e5 : 4 * (p + 1) = 4 * p + 4 := by omega
    rw [e5] at s1
    refine ⟨σ2, Eq.trans ?_ s1, s2, s3, s4, s5, Fr_tr r6 s6⟩
    refine Eq.trans ?_ r1
    have w := M.2.2.1 p (by omega)
    have ip : ixo 100 (nI p) = some p := ixo_100 (by omega)
    show F_X10_gust_27 94 (nI b) (nI l) _ _ _ _ _ = _
    generalize iterF (F_X10_gust_27 94 (nI b) (nI l)) (fun _ _ _ _ => none) f = R
    unfold F_X10_gust_27
    rw [nI_lit 12, if_neg (by rw [nI_leE (by omega) (by omega)]; omega)]
    simp only [Nat.reduceAdd, ip, bd1_s, w]
    rfl
theorem cl_gust0 (ok : q.Okx) (hb : b < q.m) (hl : l < q.n) (C : CH 1 q σ) (e1 : gI σ 48 1 = bE 9999) (e2 : gI σ 48 2 = nI 0) : ∃ σ', iterF (F_X8_bestGust_7 48 1 (nI b) (nI l)) (fun _ _ => none) FU (nI 0) σ = some (bE (bestL (cG q b l) (pG q l) hG 48 0 (9999, 0)).1, σ') ∧ Fr FS σ σ' :=
  cl_gust ok hb hl 12 0 (9999, 0) σ FU rfl (FU_lt (by omega)) C (Nat.le_refl 9999) (Nat.zero_le _) e1 e2
theorem md_gust0 (ok : q.Okx) (hb : b < q.m) (hl : l < q.n) (M : MH 0 q σ) (a1 : gI σ 94 13 = nI 0) (a2 : gI σ 94 33 = mE 9) (G : RG σ) : ∃ σ', iterF (F_X10_gust_27 94 (nI b) (nI l)) (fun _ _ _ _ => none) FU (bE 9999) (nI 0) (nI 0) σ = some (bE (bestL (cG q b l) (pG q l) hG 48 0 (9999, 0)).1, σ') ∧ MH 0 q σ' ∧ gI σ' 94 13 = nI 0 ∧ gI σ' 94 33 = mE 9 ∧ RG σ' ∧ Fr FP σ σ' :=
  md_gust ok hb hl 12 0 (9999, 0) σ FU rfl (FU_lt (by omega)) M a1 a2 G (Nat.le_refl 9999) (Nat.zero_le _)
theorem op_gust (I : Inv q σ) (a1 a2 : Int32) : OpOk (f_X9_gust 0 a1 a2) (f_X10_gust 94 a1 a2) σ := by
  obtain ⟨⟨⟨hn, hol⟩, hob, hoc⟩, ⟨cs, cd, cl, cb⟩, ⟨ms, mr, md, ml, mb⟩, r0, r1⟩ := id I
  obtain ⟨c1, c3, c5, c6, c7, c8⟩ := id cs
  obtain ⟨m0, m8, m7, m14⟩ := id ms
  have hm := hob.1
  rcases (arg3 a1 q.m (by omega)).symm with b | ⟨b, hb, rfl⟩
  · refine ⟨-1, σ, σ, q, ?_, ?_, I⟩
    · simp (disch := omega) only [f_X9_gust, nI_lit, nI_addE, nI_mulE, nI_ltE, nI_leE, nI_eqE, nI_eqN, nI_Neq, nI_ltN, nI_Nlt, nI_leN, nI_Nle, nI_NeN, nI_subE, bd1_s, bd2_s, onrN, onrS, grd_t, grd_T, gI_eq, gI_ne, gL_pI, gI_pL, ltT, ltF, leT, leF, eqT, eqF, if_true, if_false, true_or, or_true, ite_true, ite_false, and_true, true_and, and_false, false_and, not_false_eq_true, not_true_eq_false, ↓reduceIte, in_eq, Nat.reduceAdd, Nat.reduceMul, Nat.zero_add, cE_f, cE_t, mE_f, mE_t, within_ok, ne_eq, bidAt_no c3 b]
    · simp (disch := omega) only [f_X10_gust, nI_lit, nI_addE, nI_mulE, nI_ltE, nI_leE, nI_eqE, nI_eqN, nI_Neq, nI_ltN, nI_Nlt, nI_leN, nI_Nle, nI_NeN, nI_subE, bd1_s, bd2_s, onrN, onrS, grd_t, grd_T, gI_eq, gI_ne, gL_pI, gI_pL, ltT, ltF, leT, leF, eqT, eqF, if_true, if_false, true_or, or_true, ite_true, ite_false, and_true, true_and, and_false, false_and, not_false_eq_true, not_true_eq_false, ↓reduceIte, in_eq, Nat.reduceAdd, Nat.reduceMul, Nat.zero_add, cE_f, cE_t, mE_f, mE_t, within_ok, ne_eq, isBid_no m8 b]
  have kb := kd_bid (h := 1) (i := b) (.inl rfl) (by omega)
  simp only [Nat.reduceAdd] at kb
  have B1 : f_X2_bidderAt 1 (nI b) σ = some (some (10 + b), σ) := bidAt_ok (.inl rfl) c3 hm hb
  rcases (arg3 a2 q.n (by omega)).symm with b2 | ⟨l, hl, rfl⟩
  · refine ⟨-1, σ, σ, q, ?_, ?_, I⟩
    · simp only [f_X9_gust, Nat.reduceAdd, B1, bd1_s, bd2_s, onrN, onrS, grd_t, grd_T, grd_t kb, unsold_bad c1 b2]
    · simp only [f_X10_gust, isBid_ok m8 hm hb, bd1_s, bd2_s, onrN, onrS, grd_t, grd_T, nI_lit, nI10, if_false, free_bad m0 b2, if_true]
  have ol := (hol l hl).2.2.1
  by_cases s : q.sold l = 1
  · refine ⟨-1, σ, σ, q, ?_, ?_, I⟩
    · simp only [f_X9_gust, Nat.reduceAdd, B1, bd1_s, bd2_s, onrN, onrS, grd_t, grd_T, grd_t kb, unsold_no hn hl c1 cl s]
    · simp only [f_X10_gust, isBid_ok m8 hm hb, bd1_s, bd2_s, onrN, onrS, grd_t, grd_T, nI_lit, nI10, if_false, free_no hn hl m0 ml s, if_true]
  have s0 : q.sold l = 0 := by omega
  have kk := kd_lot (h := 1) (i := l) (.inl rfl) (by omega)
  simp only [Nat.reduceAdd] at kk
  have okX := okx I.1
  have C0 : CH 1 q (pI (pI σ 48 1 (-nI 3)) 48 2 (nI 0)) := CH_fr I.1 I.2.1 fun k i h1 h2 => by simp (disch := omega) only [gI_eq, gI_ne, gL_pI, gI_pL]
  obtain ⟨σ1, t1, t2⟩ := cl_gust0 okX hb hl C0 (by rw [gI_ne _ _ (by omega), gI_eq _ _ ⟨rfl, rfl⟩, bE_t rfl]) (gI_eq _ _ ⟨rfl, rfl⟩)
  have F1 : Fr FS σ σ1 := Fr_tr (Fr_pI _ (Fr_pI _ (Fr_rfl _ _) (by unfold FS; omega)) (by unfold FS; omega)) t2
  have M1 : MH 0 q σ1 := MH_fr I.2.2.1 fun k i c => F1.1 k i (by unfold FS; omega)
  have G1 : RG σ1 := RG_fr r1.2.2.2.2.2.2.2 fun k i c => F1.1 k i (by unfold FS; omega)
  obtain ⟨σ2, u1, u2, u3, u4, u5, u6⟩ := md_gust0 okX hb hl M1 ((F1.1 _ _ (by unfold FS; omega)).trans r0.1) ((F1.1 _ _ (by unfold FS; omega)).trans r0.2) G1
  have F : Fr WG σ σ2 := Fr_tr (Fr_mono F1 fun k i c => FS_WG c) (Fr_mono u6 fun k i c => FP_WG c)
  obtain ⟨y, ey⟩ : ∃ y, y = bestL (cG q b l) (pG q l) hG 48 0 (9999, 0) := ⟨_, rfl⟩
  rw [← ey] at t1 u1
  clear ey
  refine ⟨bE y.1, σ1, σ2, q, ?_, ?_, inv_try I F (CH_fr I.1 (CH1_fs okX I.2.1 F1) fun k i h1 h2 => u6.1 k i (by unfold FP FT; omega)) u2 u3 u4 u5⟩
  · have E : f_X9_gust 0 (nI b) (nI l) σ = bd2 (f_X8_bestGust 48 1 (nI b) (nI l) σ) fun r13 σ11 => some (r13, σ11) := by
      simp only [f_X9_gust, Nat.reduceAdd, B1, bd1_s, bd2_s, onrN, onrS, grd_t, grd_T, grd_t kb, unsold_ok hn hl c1 cl s0, grd_t kk]
    have E2 : f_X8_bestGust 48 1 (nI b) (nI l) σ = some (bE y.1, σ1) := by
      unfold f_X8_bestGust
      rw [forget_eq, bd1_s]
      exact t1
    rw [E, E2, bd2_s]
  · have E : f_X10_gust 94 (nI b) (nI l) σ1 = iterF (F_X10_gust_27 94 (nI b) (nI l)) (fun _ _ _ _ => none) FU (-nI 3) (nI 0) (nI 0) σ1 := by
      unfold f_X10_gust
      rw [isBid_ok M1.1.2.1 hm hb, bd2_s, if_neg (by rw [nI_lit, nI10]; exact id), free_ok hn hl M1.1.1 M1.2.2.2.1 s0, bd2_s, if_neg (by rw [nI_lit, nI10]; exact id)]
      rfl
    rw [bE_t rfl] at u1
    exact E.trans u1
/-- the wax that brings most -/
theorem cl_waxstep (ok : q.Okx) (hl : l < q.n) (hv : 1 ≤ v) (hv2 : v ≤ 60) (C : CH 1 q σ) : ∃ σ1, Fr FS σ σ1 ∧ gI σ1 48 1 = gI σ 48 1 ∧ gI σ1 48 2 = gI σ 48 2 ∧ ∀ rec, F_X8_bestWax_6 48 1 (nI l) rec (nI v) σ = bd1 (f_X8_weighGreatest 48 (nI v) (nI (pW q l v)) σ1) fun σ27 => rec (nI (v + 1)) σ27 := by
  have hn := ok.1.1
  obtain ⟨σ1, a1, a2, a3⟩ := cl_set49 ok hl C
  have L := lits_ok ok hl
  have C2 : CH 49 (lits (qs q 1 l v) l) (pI σ1 (53 + l) 0 (nI v)) := by
    rw [lits_qs q (by omega)]
    exact CH_setw L.1 L.2.1 hl a2
  have F2 : Fr FS σ (pI σ1 (53 + l) 0 (nI v)) := Fr_pI _ (Fr_mono a3 fun k i c => FS_FH c) (by unfold FS; omega)
  have oki := okw (l := l) ok hv hv2
  obtain ⟨σ3, b1, b2, b3, b4⟩ := cl_trial oki hl C2
  have B := lot49 L.1 hl a2
  have b3 : f_X8_price 48 (nI l) σ3 = some (nI (pW q l v), σ3) := b3
  refine ⟨σ3, Fr_tr F2 (Fr_mono b4 fun k i c => FS_FH c), ?_, ?_, fun rec => ?_⟩
  · rw [b4.1 _ _ (by unfold FH; omega), gI_ne _ _ (by omega), a3.1 _ _ (by unfold FH; omega)]
  · rw [b4.1 _ _ (by unfold FH; omega), gI_ne _ _ (by omega), a3.1 _ _ (by unfold FH; omega)]
  · simp (disch := omega) only [F_X8_bestWax_6, nI_lit, nI_ltE, nI_addE, ltT, ltF, leT, leF, eqT, eqF, ↓reduceIte, Nat.reduceAdd, bd1_s, bd2_s, onrN, onrS, grd_t, grd_T, a1, B, grd_t (kd49l (by omega : l < 5)), b1, b3]
theorem pW_le (ok : q.Okx) (hl : l < q.n) (hv : 1 ≤ v) (hv2 : v ≤ 60) : pW q l v ≤ 9999 := (fin_ok (s := 9) (okw (l := l) ok hv hv2) hl).1
theorem cl_wax (ok : q.Okx) (hl : l < q.n) : ∀ (d v : Nat) (x : Nat × Nat) (σ : Mem) (fuel : Nat), v + d = 61 → 1 ≤ v → d < fuel → CH 1 q σ → x.1 ≤ 60 → x.2 ≤ 9999 → gI σ 48 1 = nI x.1 → gI σ 48 2 = nI x.2 → ∃ σ', iterF (F_X8_bestWax_6 48 1 (nI l)) (fun _ _ => none) fuel (nI v) σ = some (nI (bestG (pW q l) d v x).1, σ') ∧ gI σ' 48 2 = nI (bestG (pW q l) d v x).2 ∧ Fr FS σ σ' := by
  intro d
  induction d with
  | zero =>
    intro v x σ fuel hi hv1 hf C h1 h2 e1 e2
    obtain ⟨f, rfl⟩ : ∃ f, fuel = f + 1 := ⟨fuel - 1, by omega⟩
    refine ⟨σ, ?_, e2, Fr_rfl _ _⟩
    show F_X8_bestWax_6 48 1 (nI l) _ _ _ = _
    simp (disch := omega) only [F_X8_bestWax_6, nI_lit, nI_addE, nI_mulE, nI_ltE, nI_leE, nI_eqE, nI_eqN, nI_Neq, nI_ltN, nI_Nlt, nI_leN, nI_Nle, nI_NeN, nI_subE, bd1_s, bd2_s, onrN, onrS, grd_t, grd_T, gI_eq, gI_ne, gL_pI, gI_pL, ltT, ltF, leT, leF, eqT, eqF, if_true, if_false, true_or, or_true, ite_true, ite_false, and_true, true_and, and_false, false_and, not_false_eq_true, not_true_eq_false, ↓reduceIte, in_eq, Nat.reduceAdd, Nat.reduceMul, Nat.zero_add, cE_f, cE_t, mE_f, mE_t, within_ok, ne_eq, e1, bestG]
  | succ d ih =>
    intro v x σ fuel hi hv1 hf C h1 h2 e1 e2
    obtain ⟨f, rfl⟩ : ∃ f, fuel = f + 1 := ⟨fuel - 1, by omega⟩
    obtain ⟨σ1, a1, a2, a3, a4⟩ := cl_waxstep ok hl hv1 (by omega) C
    have pl := pW_le ok hl hv1 (by omega)
    rw [e1] at a2
    rw [e2] at a3
    show ∃ σ', F_X8_bestWax_6 48 1 (nI l) (iterF (F_X8_bestWax_6 48 1 (nI l)) (fun _ _ => none) f) (nI v) σ = _ ∧ _
    rw [a4]
    unfold bestG
    by_cases g : x.2 < pW q l v
    · rw [if_pos g]
      obtain ⟨σ2, r1, r2, r3⟩ := ih (v + 1) (v, pW q l v) (pI (pI σ1 48 1 (nI v)) 48 2 (nI (pW q l v))) f (by omega) (by omega) (by omega) (CH1_fs ok C (Fr_pI _ (Fr_pI _ a1 (by unfold FS; omega)) (by unfold FS; omega))) (by show v ≤ 60; omega) pl (by rw [gI_ne _ _ (by omega), gI_eq _ _ ⟨rfl, rfl⟩]) (gI_eq _ _ ⟨rfl, rfl⟩)
      refine ⟨σ2, Eq.trans ?_ r1, r2, Fr_tr (Fr_pI _ (Fr_pI _ a1 (by unfold FS; omega)) (by unfold FS; omega)) r3⟩
      generalize iterF (F_X8_bestWax_6 48 1 (nI l)) (fun _ _ => none) f = R
      simp (disch := omega) only [f_X8_weighGreatest, nI_lit, nI_addE, nI_mulE, nI_ltE, nI_leE, nI_eqE, nI_eqN, nI_Neq, nI_ltN, nI_Nlt, nI_leN, nI_Nle, nI_NeN, nI_subE, bd1_s, bd2_s, onrN, onrS, grd_t, grd_T, gI_eq, gI_ne, gL_pI, gI_pL, ltT, ltF, leT, leF, eqT, eqF, if_true, if_false, true_or, or_true, ite_true, ite_false, and_true, true_and, and_false, false_and, not_false_eq_true, not_true_eq_false, ↓reduceIte, in_eq, Nat.reduceAdd, Nat.reduceMul, Nat.zero_add, cE_f, cE_t, mE_f, mE_t, within_ok, ne_eq, a2, a3]
    · rw [if_neg g]
      obtain ⟨σ2, r1, r2, r3⟩ := ih (v + 1) x σ1 f (by omega) (by omega) (by omega) (CH1_fs ok C a1) h1 h2 a2 a3
      refine ⟨σ2, Eq.trans ?_ r1, r2, Fr_tr a1 r3⟩
      generalize iterF (F_X8_bestWax_6 48 1 (nI l)) (fun _ _ => none) f = R
      simp (disch := omega) only [f_X8_weighGreatest, nI_lit, nI_addE, nI_mulE, nI_ltE, nI_leE, nI_eqE, nI_eqN, nI_Neq, nI_ltN, nI_Nlt, nI_leN, nI_Nle, nI_NeN, nI_subE, bd1_s, bd2_s, onrN, onrS, grd_t, grd_T, gI_eq, gI_ne, gL_pI, gI_pL, ltT, ltF, leT, leF, eqT, eqF, if_true, if_false, true_or, or_true, ite_true, ite_false, and_true, true_and, and_false, false_and, not_false_eq_true, not_true_eq_false, ↓reduceIte, in_eq, Nat.reduceAdd, Nat.reduceMul, Nat.zero_add, cE_f, cE_t, mE_f, mE_t, within_ok, ne_eq, a2, a3]
theorem cl_bestWax (ok : q.Okx) (hl : l < q.n) (C : CH 1 q σ) : ∃ σ', f_X8_bestWax 48 1 (nI l) σ = some (nI (bestG (pW q l) 59 2 (1, pW q l 1)).1, σ') ∧ gI σ' 48 2 = nI (bestG (pW q l) 59 2 (1, pW q l 1)).2 ∧ Fr FS σ σ' := by
  have F0 : Fr FS σ (pI (pI σ 48 1 (-nI 3)) 48 2 (nI 0)) := Fr_pI _ (Fr_pI _ (Fr_rfl _ _) (by unfold FS; omega)) (by unfold FS; omega)
  have C0 := CH1_fs ok C F0
  obtain ⟨σ1, a1, a2, a3, a4⟩ := cl_waxstep (v := 1) ok hl (by omega) (by omega) C0
  have pl := pW_le (v := 1) ok hl (by omega) (by omega)
  have a2 : gI σ1 48 1 = -nI 3 := by rw [a2, gI_ne _ _ (by omega), gI_eq _ _ ⟨rfl, rfl⟩]
  have F1 : Fr FS σ (pI (pI σ1 48 1 (nI 1)) 48 2 (nI (pW q l 1))) := Fr_pI _ (Fr_pI _ (Fr_tr F0 a1) (by unfold FS; omega)) (by unfold FS; omega)
  obtain ⟨σ2, r1, r2, r3⟩ := cl_wax ok hl 59 2 (1, pW q l 1) (pI (pI σ1 48 1 (nI 1)) 48 2 (nI (pW q l 1))) 999 (by omega) (by omega) (by omega) (CH1_fs ok C F1) (by show 1 ≤ 60; omega) pl (by rw [gI_ne _ _ (by omega), gI_eq _ _ ⟨rfl, rfl⟩]) (gI_eq _ _ ⟨rfl, rfl⟩)
  refine ⟨σ2, ?_, r2, Fr_tr F1 r3⟩
  unfold f_X8_bestWax
  rw [forget_eq, bd1_s]
  show F_X8_bestWax_6 48 1 (nI l) (iterF (F_X8_bestWax_6 48 1 (nI l)) (fun _ _ => none) 999) (nI 1) _ = _
  rw [a4]
  refine Eq.trans ?_ r1
  generalize iterF (F_X8_bestWax_6 48 1 (nI l)) (fun _ _ => none) 999 = R
  simp (disch := omega) only [f_X8_weighGreatest, nI_lit, nI_addE, nI_mulE, nI_ltE, nI_leE, nI_eqE, nI_eqN, nI_Neq, nI_ltN, nI_Nlt, nI_leN, nI_Nle, nI_NeN, nI_subE, bd1_s, bd2_s, onrN, onrS, grd_t, grd_T, gI_eq, gI_ne, gL_pI, gI_pL, ltT, ltF, leT, leF, eqT, eqF, if_true, if_false, true_or, or_true, ite_true, ite_false, and_true, true_and, and_false, false_and, not_false_eq_true, not_true_eq_false, ↓reduceIte, in_eq, Nat.reduceAdd, Nat.reduceMul, Nat.zero_add, cE_f, cE_t, mE_f, mE_t, within_ok, ne_eq, a2]
theorem md_wax (ok : q.Okx) (hl : l < q.n) {k : Nat} (hk : k ≤ 1) : ∀ (d v w : Nat) (x : Nat × Nat) (σ : Mem) (fuel : Nat), v + d = 61 → 1 ≤ v → d < fuel → MH 0 (qs q 1 l w) σ → gI σ 94 33 = mE 9 → gI σ 94 13 = nI 0 → RG σ → x.1 ≤ 60 → x.2 ≤ 9999 → ∃ σ', iterF (F_X10_wax_33 94 (nI l) (nI k) (nI (q.wax l))) (fun _ _ _ _ => none) fuel (nI x.1) (nI x.2) (nI v) σ = some ((if k = 0 then nI (bestG (pW q l) d v x).1 else nI (bestG (pW q l) d v x).2), σ') ∧ MH 0 q σ' ∧ gI σ' 94 13 = nI 0 ∧ gI σ' 94 33 = mE 9 ∧ RG σ' ∧ Fr FP σ σ' := by
  intro d
  induction d with
  | zero =>
    intro v w x σ fuel hi hv1 hf M as' at' G h1 h2
    obtain ⟨f, rfl⟩ : ∃ f, fuel = f + 1 := ⟨fuel - 1, by omega⟩
    have hn := ok.1.1
    have M2 := MH_setw (v := q.wax l) (by exact hl) M
    rw [qs_qs] at M2
    have id' : qs q 1 l (q.wax l) = q := qs_id q 1 l
    rw [id'] at M2
    refine ⟨pI σ 95 l (nI (q.wax l)), ?_, M2, (gI_ne _ _ (by omega)).trans at', (gI_ne _ _ (by omega)).trans as', RG_fr G fun k i c => gI_ne _ _ (by omega), Fr_pI _ (Fr_rfl _ _) (by unfold FP; omega)⟩
    show F_X10_wax_33 94 (nI l) _ _ _ _ _ _ _ = _
    by_cases e : k = 0 <;> simp (disch := omega) only [F_X10_wax_33, nI_lit, nI_addE, nI_mulE, nI_ltE, nI_leE, nI_eqE, nI_eqN, nI_Neq, nI_ltN, nI_Nlt, nI_leN, nI_Nle, nI_NeN, nI_subE, bd1_s, bd2_s, onrN, onrS, grd_t, grd_T, gI_eq, gI_ne, gL_pI, gI_pL, ltT, ltF, leT, leF, eqT, eqF, if_true, if_false, true_or, or_true, ite_true, ite_false, and_true, true_and, and_false, false_and, not_false_eq_true, not_true_eq_false, ↓reduceIte, in_eq, Nat.reduceAdd, Nat.reduceMul, Nat.zero_add, cE_f, cE_t, mE_f, mE_t, within_ok, ne_eq, ixo_95, ixo_96, ixo_97, ixo_98, ixo_99, ixo_100, ixo_101, ixo_102, ixo_103, ixo_104, ixo_105, ixo_106, ixo_107, ixo_108, ixo_109, ixo_110, ixo_111, ixo_112, ixo_113, ixo_114, ixo_115, ixo_116, ixo_117, ixo_118, ixo_119, ixo_120, ixo_121, ixo_122, ixo_123, ixo_124, ixo_125, ixo_126, bestG]
  | succ d ih =>
    intro v w x σ fuel hi hv1 hf M as' at' G h1 h2
    obtain ⟨f, rfl⟩ : ∃ f, fuel = f + 1 := ⟨fuel - 1, by omega⟩
    have hn := ok.1.1
    have M2 := MH_setw (v := v) (by exact hl) M
    rw [qs_qs] at M2
    have oki := okw (l := l) ok hv1 (by omega : v ≤ 60)
    obtain ⟨σ2, u1, u2, u3, u4, u5, u6, u7, u8, u9⟩ := md_tries (s := 9) (l := l) (by omega) oki hl ((gI_ne _ _ (by omega)).trans as') M2
    have pl := pW_le ok hl hv1 (by omega)
    have u8 : gI σ2 94 38 = nI (pW q l v) := u8
    have F2 : Fr FP σ σ2 := Fr_tr (Fr_pI _ (Fr_rfl _ _) (by unfold FP; omega)) (Fr_mono u9 fun k i c => .inl c)
    show ∃ σ', F_X10_wax_33 94 (nI l) (nI k) (nI (q.wax l)) (iterF (F_X10_wax_33 94 (nI l) (nI k) (nI (q.wax l))) (fun _ _ _ _ => none) f) (nI x.1) (nI x.2) (nI v) σ = _ ∧ _
    unfold bestG
    by_cases g : x.2 < pW q l v
    · rw [if_pos g]
      obtain ⟨σ5, r1, r2, r3, r4, r5, r6⟩ := ih (v + 1) v (v, pW q l v) σ2 f (by omega) (by omega) (by omega) u2 u5 u4 ⟨_, u3⟩ (by show v ≤ 60; omega) pl
      refine ⟨σ5, Eq.trans ?_ r1, r2, r3, r4, r5, Fr_tr F2 r6⟩
      generalize iterF (F_X10_wax_33 94 (nI l) (nI k) (nI (q.wax l))) (fun _ _ _ _ => none) f = R
      simp (disch := omega) only [F_X10_wax_33, nI_lit, nI_leE, nI_ltE, nI_addE, ltT, ltF, leT, leF, eqT, eqF, if_true, if_false, true_or, or_true, ite_true, ite_false, and_true, true_and, and_false, false_and, not_false_eq_true, not_true_eq_false, ↓reduceIte, Nat.reduceAdd, bd1_s, bd2_s, onrN, onrS, grd_t, grd_T, ixo_95, ixo_96, ixo_97, ixo_98, ixo_99, ixo_100, ixo_101, ixo_102, ixo_103, ixo_104, ixo_105, ixo_106, ixo_107, ixo_108, ixo_109, ixo_110, ixo_111, ixo_112, ixo_113, ixo_114, ixo_115, ixo_116, ixo_117, ixo_118, ixo_119, ixo_120, ixo_121, ixo_122, ixo_123, ixo_124, ixo_125, ixo_126, u1, u8]
    · rw [if_neg g]
      obtain ⟨σ5, r1, r2, r3, r4, r5, r6⟩ := ih (v + 1) v x σ2 f (by omega) (by omega) (by omega) u2 u5 u4 ⟨_, u3⟩ h1 h2
      refine ⟨σ5, Eq.trans ?_ r1, r2, r3, r4, r5, Fr_tr F2 r6⟩
      generalize iterF (F_X10_wax_33 94 (nI l) (nI k) (nI (q.wax l))) (fun _ _ _ _ => none) f = R
      simp (disch := omega) only [F_X10_wax_33, nI_lit, nI_leE, nI_ltE, nI_addE, ltT, ltF, leT, leF, eqT, eqF, if_true, if_false, true_or, or_true, ite_true, ite_false, and_true, true_and, and_false, false_and, not_false_eq_true, not_true_eq_false, ↓reduceIte, Nat.reduceAdd, bd1_s, bd2_s, onrN, onrS, grd_t, grd_T, ixo_95, ixo_96, ixo_97, ixo_98, ixo_99, ixo_100, ixo_101, ixo_102, ixo_103, ixo_104, ixo_105, ixo_106, ixo_107, ixo_108, ixo_109, ixo_110, ixo_111, ixo_112, ixo_113, ixo_114, ixo_115, ixo_116, ixo_117, ixo_118, ixo_119, ixo_120, ixo_121, ixo_122, ixo_123, ixo_124, ixo_125, ixo_126, u1, u8]
theorem md_wax1 (ok : q.Okx) (hl : l < q.n) {k : Nat} (hk : k ≤ 1) (M : MH 0 q σ) (as' : gI σ 94 33 = mE 9) : ∃ σ', iterF (F_X10_wax_33 94 (nI l) (nI k) (nI (q.wax l))) (fun _ _ _ _ => none) FU (nI 1) (-nI 1) (nI 1) σ = some ((if k = 0 then nI (bestG (pW q l) 59 2 (1, pW q l 1)).1 else nI (bestG (pW q l) 59 2 (1, pW q l 1)).2), σ') ∧ MH 0 q σ' ∧ gI σ' 94 13 = nI 0 ∧ gI σ' 94 33 = mE 9 ∧ RG σ' ∧ Fr FP σ σ' := by
  have hn := ok.1.1
  have M2 := MH_setw (v := 1) hl M
  have oki := okw (l := l) (v := 1) ok (by omega) (by omega)
  obtain ⟨σ2, u1, u2, u3, u4, u5, u6, u7, u8, u9⟩ := md_tries (s := 9) (l := l) (by omega) oki hl ((gI_ne _ _ (by omega)).trans as') M2
  have pl := pW_le (v := 1) ok hl (by omega) (by omega)
  have u8 : gI σ2 94 38 = nI (pW q l 1) := u8
  have F2 : Fr FP σ σ2 := Fr_tr (Fr_pI _ (Fr_rfl _ _) (by unfold FP; omega)) (Fr_mono u9 fun k i c => .inl c)
  obtain ⟨σ5, r1, r2, r3, r4, r5, r6⟩ := md_wax ok hl hk 59 2 1 (1, pW q l 1) σ2 999 (by omega) (by omega) (by omega) u2 u5 u4 ⟨_, u3⟩ (by show 1 ≤ 60; omega) pl
  refine ⟨σ5, Eq.trans ?_ r1, r2, r3, r4, r5, Fr_tr F2 r6⟩
  show F_X10_wax_33 94 (nI l) (nI k) (nI (q.wax l)) (iterF (F_X10_wax_33 94 (nI l) (nI k) (nI (q.wax l))) (fun _ _ _ _ => none) 999) (nI 1) (-nI 1) (nI 1) σ = _
  generalize iterF (F_X10_wax_33 94 (nI l) (nI k) (nI (q.wax l))) (fun _ _ _ _ => none) 999 = R
  simp (disch := omega) only [F_X10_wax_33, nI_lit, nI_leE, nI_ltE, nI_addE, nI_leN, ltT, ltF, leT, leF, eqT, eqF, if_true, if_false, true_or, or_true, ite_true, ite_false, and_true, true_and, and_false, false_and, not_false_eq_true, not_true_eq_false, ↓reduceIte, Nat.reduceAdd, bd1_s, bd2_s, onrN, onrS, grd_t, grd_T, ixo_95, ixo_96, ixo_97, ixo_98, ixo_99, ixo_100, ixo_101, ixo_102, ixo_103, ixo_104, ixo_105, ixo_106, ixo_107, ixo_108, ixo_109, ixo_110, ixo_111, ixo_112, ixo_113, ixo_114, ixo_115, ixo_116, ixo_117, ixo_118, ixo_119, ixo_120, ixo_121, ixo_122, ixo_123, ixo_124, ixo_125, ixo_126, u1, u8]
theorem op_wax (I : Inv q σ) (a1 a2 : Int32) : OpOk (f_X9_wax 0 a1 a2) (f_X10_wax 94 a1 a2) σ := by
  obtain ⟨⟨⟨hn, hol⟩, hob, hoc⟩, ⟨cs, cd, cl, cb⟩, ⟨ms, mr, md, ml, mb⟩, r0, r1⟩ := id I
  obtain ⟨c1, c3, c5, c6, c7, c8⟩ := id cs
  obtain ⟨m0, m8, m7, m14⟩ := id ms
  have hm := hob.1
  rcases (arg3 a1 q.n (by omega)).symm with b | ⟨l, hl, rfl⟩
  · refine ⟨-1, σ, σ, q, ?_, ?_, I⟩
    · simp (disch := omega) only [f_X9_wax, nI_lit, nI_addE, nI_mulE, nI_ltE, nI_leE, nI_eqE, nI_eqN, nI_Neq, nI_ltN, nI_Nlt, nI_leN, nI_Nle, nI_NeN, nI_subE, bd1_s, bd2_s, onrN, onrS, grd_t, grd_T, gI_eq, gI_ne, gL_pI, gI_pL, ltT, ltF, leT, leF, eqT, eqF, if_true, if_false, true_or, or_true, ite_true, ite_false, and_true, true_and, and_false, false_and, not_false_eq_true, not_true_eq_false, ↓reduceIte, in_eq, Nat.reduceAdd, Nat.reduceMul, Nat.zero_add, cE_f, cE_t, mE_f, mE_t, within_ok, ne_eq, unsold_bad c1 b]
    · simp (disch := omega) only [f_X10_wax, nI_lit, nI_addE, nI_mulE, nI_ltE, nI_leE, nI_eqE, nI_eqN, nI_Neq, nI_ltN, nI_Nlt, nI_leN, nI_Nle, nI_NeN, nI_subE, bd1_s, bd2_s, onrN, onrS, grd_t, grd_T, gI_eq, gI_ne, gL_pI, gI_pL, ltT, ltF, leT, leF, eqT, eqF, if_true, if_false, true_or, or_true, ite_true, ite_false, and_true, true_and, and_false, false_and, not_false_eq_true, not_true_eq_false, ↓reduceIte, in_eq, Nat.reduceAdd, Nat.reduceMul, Nat.zero_add, cE_f, cE_t, mE_f, mE_t, within_ok, ne_eq, free_bad m0 b]
  have ol := (hol l hl).2.2.1
  by_cases s : q.sold l = 1
  · refine ⟨-1, σ, σ, q, ?_, ?_, I⟩
    · simp (disch := omega) only [f_X9_wax, nI_lit, nI_addE, nI_mulE, nI_ltE, nI_leE, nI_eqE, nI_eqN, nI_Neq, nI_ltN, nI_Nlt, nI_leN, nI_Nle, nI_NeN, nI_subE, bd1_s, bd2_s, onrN, onrS, grd_t, grd_T, gI_eq, gI_ne, gL_pI, gI_pL, ltT, ltF, leT, leF, eqT, eqF, if_true, if_false, true_or, or_true, ite_true, ite_false, and_true, true_and, and_false, false_and, not_false_eq_true, not_true_eq_false, ↓reduceIte, in_eq, Nat.reduceAdd, Nat.reduceMul, Nat.zero_add, cE_f, cE_t, mE_f, mE_t, within_ok, ne_eq, unsold_no hn hl c1 cl s]
    · simp (disch := omega) only [f_X10_wax, nI_lit, nI_addE, nI_mulE, nI_ltE, nI_leE, nI_eqE, nI_eqN, nI_Neq, nI_ltN, nI_Nlt, nI_leN, nI_Nle, nI_NeN, nI_subE, bd1_s, bd2_s, onrN, onrS, grd_t, grd_T, gI_eq, gI_ne, gL_pI, gI_pL, ltT, ltF, leT, leF, eqT, eqF, if_true, if_false, true_or, or_true, ite_true, ite_false, and_true, true_and, and_false, false_and, not_false_eq_true, not_true_eq_false, ↓reduceIte, in_eq, Nat.reduceAdd, Nat.reduceMul, Nat.zero_add, cE_f, cE_t, mE_f, mE_t, within_ok, ne_eq, free_no hn hl m0 ml s]
  have s0 : q.sold l = 0 := by omega
  have kk := kd_lot (h := 1) (i := l) (.inl rfl) (by omega)
  simp only [Nat.reduceAdd] at kk
  rcases (arg a2 0 1 (by omega) (by omega)).symm with b | ⟨k, -, hk, rfl⟩
  · refine ⟨-1, σ, σ, q, ?_, ?_, I⟩
    · simp only [f_X9_wax, Nat.reduceAdd, unsold_ok hn hl c1 cl s0, bd1_s, bd2_s, onrN, onrS, grd_t, grd_T, grd_t kk, nI_lit, within_no _ b, if_true]
    · simp only [f_X10_wax, free_ok hn hl m0 ml s0, bd1_s, bd2_s, onrN, onrS, grd_t, grd_T, nI_lit, nI10, if_false, isSide_no b, if_true]
  have okX := okx I.1
  obtain ⟨σ1, t1, t3, t2⟩ := cl_bestWax okX hl I.2.1
  have M1 : MH 0 q σ1 := MH_fr I.2.2.1 fun k i c => t2.1 k i (by unfold FS; omega)
  obtain ⟨σ2, u1, u2, u3, u4, u5, u6⟩ := md_wax1 okX hl hk M1 ((t2.1 _ _ (by unfold FS; omega)).trans r0.2)
  have F : Fr WG σ σ2 := Fr_tr (Fr_mono t2 fun k i c => FS_WG c) (Fr_mono u6 fun k i c => FP_WG c)
  refine ⟨(if k = 0 then nI (bestG (pW q l) 59 2 (1, pW q l 1)).1 else nI (bestG (pW q l) 59 2 (1, pW q l 1)).2), σ1, σ2, q, ?_, ?_, inv_try I F (CH_fr I.1 (CH1_fs okX I.2.1 t2) fun k i h1 h2 => u6.1 k i (by unfold FP FT; omega)) u2 u3 u4 u5⟩
  · by_cases e : k = 0
    · simp (disch := omega) only [f_X9_wax, nI_lit, nI_addE, nI_mulE, nI_ltE, nI_leE, nI_eqE, nI_eqN, nI_Neq, nI_ltN, nI_Nlt, nI_leN, nI_Nle, nI_NeN, nI_subE, bd1_s, bd2_s, onrN, onrS, grd_t, grd_T, gI_eq, gI_ne, gL_pI, gI_pL, ltT, ltF, leT, leF, eqT, eqF, if_true, if_false, true_or, or_true, ite_true, ite_false, and_true, true_and, and_false, false_and, not_false_eq_true, not_true_eq_false, ↓reduceIte, in_eq, Nat.reduceAdd, Nat.reduceMul, Nat.zero_add, cE_f, cE_t, mE_f, mE_t, within_ok, ne_eq, unsold_ok hn hl c1 cl s0, grd_t kk, t1]
    · simp (disch := omega) only [f_X9_wax, nI_lit, nI_addE, nI_mulE, nI_ltE, nI_leE, nI_eqE, nI_eqN, nI_Neq, nI_ltN, nI_Nlt, nI_leN, nI_Nle, nI_NeN, nI_subE, bd1_s, bd2_s, onrN, onrS, grd_t, grd_T, gI_eq, gI_ne, gL_pI, gI_pL, ltT, ltF, leT, leF, eqT, eqF, if_true, if_false, true_or, or_true, ite_true, ite_false, and_true, true_and, and_false, false_and, not_false_eq_true, not_true_eq_false, ↓reduceIte, in_eq, Nat.reduceAdd, Nat.reduceMul, Nat.zero_add, cE_f, cE_t, mE_f, mE_t, within_ok, ne_eq, unsold_ok hn hl c1 cl s0, grd_t kk, t1, t3]
  · have w := (M1.2.2.2.1 l hl).1
    have i1 : ixo 95 (nI l) = some l := ixo_95 (by omega)
    simp only [f_X10_wax, bd1_s, bd2_s, onrN, onrS, grd_t, grd_T, nI_lit, nI10, if_false, free_ok hn hl M1.1.1 M1.2.2.2.1 s0, isSide_ok hk, Nat.reduceAdd, i1, w]
    exact u1
end
