def FS (k _i : Nat) : Prop := 48 ≤ k ∧ k ≤ 72
def cP (q : HQ) (b l i : Nat) : Nat := if (fin (qs q 8 b i) 9 l).holder = b then 1 else 0
def pP (q : HQ) (b l i : Nat) : Nat := (fin (qs q 8 b i) 9 l).high
def cG (q : HQ) (b l j : Nat) : Nat := if (fin (qs q 11 (j / 4) (j % 4)) 9 l).holder = b then 1 else 0
def pG (q : HQ) (l j : Nat) : Nat := (fin (qs q 11 (j / 4) (j % 4)) 9 l).high
def hG (j : Nat) : Nat := 10 * (j / 4) + j % 4
def pW (q : HQ) (l v : Nat) : Nat := (fin (qs q 1 l v) 9 l).high
def cS (q : HQ) (l i : Nat) : Nat := if (fin q i l).holder = 9 then 0 else 1
def pS (q : HQ) (l i : Nat) : Nat := (fin q i l).high
section
variable {q : HQ} {σ : Mem} {h o b v l s : Nat}
theorem weigh_le {x : Nat × Nat} {c p : Nat} (h1 : x.1 ≤ 9999) (h2 : x.2 ≤ 9999) (hc : c ≤ 9999) (hp : p ≤ 9999) : (weigh x c p).1 ≤ 9999 ∧ (weigh x c p).2 ≤ 9999 := by
  unfold weigh
  repeat' split
  all_goals exact ⟨by assumption, by assumption⟩
theorem cl_weigh {x : Nat × Nat} {c p : Nat} (h1 : x.1 ≤ 9999) (h2 : x.2 ≤ 9999) (hc : c < 9999) (hp : p ≤ 9999) (e1 : gI σ 48 1 = bE x.1) (e2 : gI σ 48 2 = nI x.2) : ∃ σ', f_X8_weighLeast 48 (nI c) (nI p) σ = some σ' ∧ gI σ' 48 1 = bE (weigh x c p).1 ∧ gI σ' 48 2 = nI (weigh x c p).2 ∧ Fr (fun k _ => k = 48) σ σ' := by
  unfold f_X8_weighLeast weigh
  by_cases e : x.1 = 9999
  · refine ⟨pI (pI σ 48 1 (nI c)) 48 2 (nI p), ?_, ?_, ?_, Fr_pI _ (Fr_pI _ (Fr_rfl _ _) rfl) rfl⟩
    · simp (disch := omega) only [nI_lit, nI_addE, nI_mulE, nI_ltE, nI_leE, nI_eqE, nI_eqN, nI_Neq, nI_ltN, nI_Nlt, nI_leN, nI_Nle, nI_NeN, nI_subE, bd1_s, bd2_s, onrN, onrS, grd_t, grd_T, gI_eq, gI_ne, gL_pI, gI_pL, ltT, ltF, leT, leF, eqT, eqF, if_true, if_false, true_or, or_true, ite_true, ite_false, and_true, true_and, and_false, false_and, not_false_eq_true, not_true_eq_false, ↓reduceIte, in_eq, Nat.reduceAdd, Nat.reduceMul, Nat.zero_add, cE_f, cE_t, mE_f, mE_t, within_ok, ne_eq, e1, bE_t]
    · rw [if_pos e]; simp (disch := omega) only [gI_eq, gI_ne, gL_pI, gI_pL]; exact (bE_f (by omega)).symm
    · rw [if_pos e]; simp (disch := omega) only [gI_eq, gI_ne, gL_pI, gI_pL]
  · by_cases g : p < x.2
    · refine ⟨pI (pI σ 48 1 (nI c)) 48 2 (nI p), ?_, ?_, ?_, Fr_pI _ (Fr_pI _ (Fr_rfl _ _) rfl) rfl⟩
      · simp (disch := omega) only [nI_lit, nI_addE, nI_mulE, nI_ltE, nI_leE, nI_eqE, nI_eqN, nI_Neq, nI_ltN, nI_Nlt, nI_leN, nI_Nle, nI_NeN, nI_subE, bd1_s, bd2_s, onrN, onrS, grd_t, grd_T, gI_eq, gI_ne, gL_pI, gI_pL, ltT, ltF, leT, leF, eqT, eqF, if_true, if_false, true_or, or_true, ite_true, ite_false, and_true, true_and, and_false, false_and, not_false_eq_true, not_true_eq_false, ↓reduceIte, in_eq, Nat.reduceAdd, Nat.reduceMul, Nat.zero_add, cE_f, cE_t, mE_f, mE_t, within_ok, ne_eq, e1, bE_f, e2]
      · rw [if_neg e, if_pos g]; simp (disch := omega) only [gI_eq, gI_ne, gL_pI, gI_pL]; exact (bE_f (by omega)).symm
      · rw [if_neg e, if_pos g]; simp (disch := omega) only [gI_eq, gI_ne, gL_pI, gI_pL]
    · refine ⟨σ, ?_, ?_, ?_, Fr_rfl _ _⟩
      · simp (disch := omega) only [nI_lit, nI_addE, nI_mulE, nI_ltE, nI_leE, nI_eqE, nI_eqN, nI_Neq, nI_ltN, nI_Nlt, nI_leN, nI_Nle, nI_NeN, nI_subE, bd1_s, bd2_s, onrN, onrS, grd_t, grd_T, gI_eq, gI_ne, gL_pI, gI_pL, ltT, ltF, leT, leF, eqT, eqF, if_true, if_false, true_or, or_true, ite_true, ite_false, and_true, true_and, and_false, false_and, not_false_eq_true, not_true_eq_false, ↓reduceIte, in_eq, Nat.reduceAdd, Nat.reduceMul, Nat.zero_add, cE_f, cE_t, mE_f, mE_t, within_ok, ne_eq, e1, bE_f, e2]
      · rw [if_neg e, if_neg g]; exact e1
      · rw [if_neg e, if_neg g]; exact e2
theorem FS_FH {k i : Nat} (c : FH 49 k i) : FS k i := by unfold FH at c; unfold FS; omega
theorem CH1_fs {σ' : Mem} (ok : q.Okx) (C : CH 1 q σ) (F : Fr FS σ σ') : CH 1 q σ' := by
  have e : ∀ k i, 1 ≤ k → k < 1 + 15 → gI σ' k i = gI σ k i := fun k i h1 h2 => F.1 k i (by unfold FS; omega)
  exact ⟨CHs_fr C.1 (fun i => e _ _ (by omega) (by omega)), CHd_fr C.2.1 (fun i => e _ _ (by omega) (by omega)), CHl_fr ok.1.1 C.2.2.1 (fun j i hj => e _ _ (by omega) (by omega)), CHb_fr ok.2.1.1 C.2.2.2 (fun j i hj => e _ _ (by omega) (by omega))⟩
theorem kd49 {i : Nat} (h : i < 6) : kd (58 + i) = 0 := kd_bid (h := 49) (.inr (.inr (.inr rfl))) h
theorem kd49l {i : Nat} (h : i < 5) : kd (53 + i) = 3 := kd_lot (h := 49) (.inr (.inr (.inr rfl))) h
theorem bid49 {i : Nat} (ob : q.Okb) (hi : i < q.m) (C : CH 49 q σ) : f_X2_bidderAt 49 (nI i) σ = some (some (58 + i), σ) := bidAt_ok (.inr (.inr (.inr rfl))) C.1.2.1 ob.1 hi
theorem lot49 {i : Nat} (ol : q.Okl) (hi : i < q.n) (C : CH 49 q σ) : f_X2_lotAt 49 (nI i) σ = some (some (53 + i), σ) := lotAt_ok (.inr (.inr (.inr rfl))) C.1.1 ol.1 hi
/-- a trial, weighed if it counts -/
theorem cl_weighed {q1 : HQ} {x : Nat × Nat} {c : Nat} (ok : q1.Okx) (hl : l < q1.n) (C : CH 49 (lits q1 l) σ) (h1 : x.1 ≤ 9999) (h2 : x.2 ≤ 9999) (hc : c < 9999) (e1 : gI σ 48 1 = bE x.1) (e2 : gI σ 48 2 = nI x.2) : ∃ σ1, f_X2_goTicks_IN 49 (nI 60) σ = some (nI (run q1 9 l).1, σ1) ∧ f_X8_winner 48 (nI l) σ1 = some (cE (fin q1 9 l).holder, σ1) ∧ f_X8_price 48 (nI l) σ1 = some (nI (fin q1 9 l).high, σ1) ∧ Fr FS σ σ1 ∧ gI σ1 48 1 = bE x.1 ∧ gI σ1 48 2 = nI x.2 ∧ ∃ σ2, f_X8_weighLeast 48 (nI c) (nI (fin q1 9 l).high) σ1 = some σ2 ∧ gI σ2 48 1 = bE (weigh x c (fin q1 9 l).high).1 ∧ gI σ2 48 2 = nI (weigh x c (fin q1 9 l).high).2 ∧ Fr FS σ σ2 := by
  obtain ⟨σ1, b1, b2, b3, b4⟩ := cl_trial ok hl C
  have f := fin_ok (s := 9) ok hl
  have y1 : gI σ1 48 1 = bE x.1 := (b4.1 _ _ (by unfold FH; omega)).trans e1
  have y2 : gI σ1 48 2 = nI x.2 := (b4.1 _ _ (by unfold FH; omega)).trans e2
  obtain ⟨σ2, c1, c2, c3, c4⟩ := cl_weigh h1 h2 hc f.1 y1 y2
  have F1 : Fr FS σ σ1 := Fr_mono b4 fun k i c => FS_FH c
  exact ⟨σ1, b1, b2, b3, F1, y1, y2, σ2, c1, c2, c3, Fr_tr F1 (Fr_mono c4 fun k i c => by unfold FS; omega)⟩
theorem cl_pat (ok : q.Okx) (hb : b < q.m) (hl : l < q.n) : ∀ (d i : Nat) (x : Nat × Nat) (σ : Mem) (fuel : Nat), i + d = 10 → d < fuel → CH 1 q σ → x.1 ≤ 9999 → x.2 ≤ 9999 → gI σ 48 1 = bE x.1 → gI σ 48 2 = nI x.2 → ∃ σ', iterF (F_X8_bestPatience_7 48 1 (nI b) (nI l)) (fun _ _ => none) fuel (nI i) σ = some (bE (bestL (cP q b l) (pP q b l) (fun i => i) d i x).1, σ') ∧ Fr FS σ σ' := by
  intro d
  induction d with
  | zero =>
    intro i x σ fuel hi hf C h1 h2 e1 e2
    obtain ⟨f, rfl⟩ : ∃ f, fuel = f + 1 := ⟨fuel - 1, by omega⟩
    refine ⟨σ, ?_, Fr_rfl _ _⟩
    show F_X8_bestPatience_7 48 1 (nI b) (nI l) _ _ _ = _
    simp (disch := omega) only [F_X8_bestPatience_7, nI_lit, nI_addE, nI_mulE, nI_ltE, nI_leE, nI_eqE, nI_eqN, nI_Neq, nI_ltN, nI_Nlt, nI_leN, nI_Nle, nI_NeN, nI_subE, bd1_s, bd2_s, onrN, onrS, grd_t, grd_T, gI_eq, gI_ne, gL_pI, gI_pL, ltT, ltF, leT, leF, eqT, eqF, if_true, if_false, true_or, or_true, ite_true, ite_false, and_true, true_and, and_false, false_and, not_false_eq_true, not_true_eq_false, ↓reduceIte, in_eq, Nat.reduceAdd, Nat.reduceMul, Nat.zero_add, cE_f, cE_t, mE_f, mE_t, within_ok, ne_eq, e1, bestL]
  | succ d ih =>
    intro i x σ fuel hi hf C h1 h2 e1 e2
    obtain ⟨f, rfl⟩ : ∃ f, fuel = f + 1 := ⟨fuel - 1, by omega⟩
    have hm := ok.2.1.1
    obtain ⟨σ1, a1, a2, a3⟩ := cl_set49 ok hl C
    have L := lits_ok ok hl
    have C2 : CH 49 (lits (qs q 8 b i) l) (pI σ1 (58 + b) 1 (nI i)) := by
      rw [lits_qs q (by omega)]
      exact CH_seta L.1 L.2.1 hb a2
    have F2 : Fr FS σ (pI σ1 (58 + b) 1 (nI i)) := Fr_pI _ (Fr_mono a3 fun k i c => FS_FH c) (by unfold FS; omega)
    have oki := oka (b := b) ok (by omega : i ≤ 9)
    obtain ⟨σ3, b1, b2, b3, b4, b5, b6, σ4, c1, c2, c3, c4⟩ := cl_weighed (c := i) oki hl C2 h1 h2 (by omega)
      (by rw [gI_ne _ _ (by omega), a3.1 _ _ (by unfold FH; omega)]; exact e1) (by rw [gI_ne _ _ (by omega), a3.1 _ _ (by unfold FH; omega)]; exact e2)
    have fo := fin_ok (s := 9) oki hl
    have hd : (fin (qs q 8 b i) 9 l).holder < q.m ∨ (fin (qs q 8 b i) 9 l).holder = 9 := fo.2.1
    have B := bid49 L.2.1 hb a2
    show ∃ σ', F_X8_bestPatience_7 48 1 (nI b) (nI l) (iterF (F_X8_bestPatience_7 48 1 (nI b) (nI l)) (fun _ _ => none) f) (nI i) σ = some (bE (bestL (cP q b l) (pP q b l) (fun i => i) d (i + 1) (if cP q b l i = 1 then weigh x i (pP q b l i) else x)).1, σ') ∧ Fr FS σ σ'
    by_cases e : (fin (qs q 8 b i) 9 l).holder = b
    · have ec : cP q b l i = 1 := if_pos e
      rw [if_pos ec]
      have W := weigh_le (c := i) h1 h2 (by omega) fo.1
      obtain ⟨σ5, r1, r2⟩ := ih (i + 1) (weigh x i (pP q b l i)) σ4 f (by omega) (by omega) (CH1_fs ok C (Fr_tr F2 c4)) W.1 W.2 c2 c3
      refine ⟨σ5, Eq.trans ?_ r1, Fr_tr (Fr_tr F2 c4) r2⟩
      generalize iterF (F_X8_bestPatience_7 48 1 (nI b) (nI l)) (fun _ _ => none) f = R
      have ew : cE (fin (qs q 8 b i) 9 l).holder = nI b := by rw [e, cE_f (by omega)]
      simp (disch := omega) only [F_X8_bestPatience_7, nI_lit, nI_ltE, nI_addE, ltT, ltF, leT, leF, eqT, eqF, ↓reduceIte, Nat.reduceAdd, bd1_s, bd2_s, onrN, onrS, grd_t, grd_T, a1, B, grd_t (kd49 (by omega : b < 6)), b1, b2, ew, b3, c1]
    · have ec : ¬ cP q b l i = 1 := by unfold cP; rw [if_neg e]; omega
      rw [if_neg ec]
      obtain ⟨σ5, r1, r2⟩ := ih (i + 1) x σ3 f (by omega) (by omega) (CH1_fs ok C (Fr_tr F2 b4)) h1 h2 b5 b6
      refine ⟨σ5, Eq.trans ?_ r1, Fr_tr (Fr_tr F2 b4) r2⟩
      generalize iterF (F_X8_bestPatience_7 48 1 (nI b) (nI l)) (fun _ _ => none) f = R
      have ew : (cE (fin (qs q 8 b i) 9 l).holder = nI b) = False := by
        by_cases e9 : (fin (qs q 8 b i) 9 l).holder = 9 <;> simp (disch := omega) only [nI_lit, nI_addE, nI_mulE, nI_ltE, nI_leE, nI_eqE, nI_eqN, nI_Neq, nI_ltN, nI_Nlt, nI_leN, nI_Nle, nI_NeN, nI_subE, bd1_s, bd2_s, onrN, onrS, grd_t, grd_T, gI_eq, gI_ne, gL_pI, gI_pL, ltT, ltF, leT, leF, eqT, eqF, if_true, if_false, true_or, or_true, ite_true, ite_false, and_true, true_and, and_false, false_and, not_false_eq_true, not_true_eq_false, ↓reduceIte, in_eq, Nat.reduceAdd, Nat.reduceMul, Nat.zero_add, cE_f, cE_t, mE_f, mE_t, within_ok, ne_eq]
      simp (disch := omega) only [F_X8_bestPatience_7, nI_lit, nI_ltE, nI_addE, ltT, ltF, leT, leF, eqT, eqF, ↓reduceIte, Nat.reduceAdd, bd1_s, bd2_s, onrN, onrS, grd_t, grd_T, a1, B, grd_t (kd49 (by omega : b < 6)), b1, b2, ew]
def FP (k i : Nat) : Prop := FT k i ∨ k = 102 ∨ k = 100 ∨ k = 95 ∨ (k = 94 ∧ i = 33)
theorem md_pat (ok : q.Okx) (hb : b < q.m) (hl : l < q.n) : ∀ (d i w : Nat) (x : Nat × Nat) (σ : Mem) (fuel : Nat), i + d = 10 → d < fuel → MH 0 (qs q 8 b w) σ → gI σ 94 13 = nI 0 → gI σ 94 33 = mE 9 → RG σ → x.1 ≤ 9999 → x.2 ≤ 9999 → ∃ σ', iterF (F_X10_patience_35 94 (nI b) (nI l) (nI (q.a b))) (fun _ _ _ _ => none) fuel (bE x.1) (nI x.2) (nI i) σ = some (bE (bestL (cP q b l) (pP q b l) (fun i => i) d i x).1, σ') ∧ MH 0 q σ' ∧ gI σ' 94 13 = nI 0 ∧ gI σ' 94 33 = mE 9 ∧ RG σ' ∧ Fr FP σ σ' := by
  intro d
  induction d with
  | zero =>
    intro i w x σ fuel hi hf M at' as' G h1 h2
    obtain ⟨f, rfl⟩ : ∃ f, fuel = f + 1 := ⟨fuel - 1, by omega⟩
    have hm := ok.2.1.1
    have M2 := MH_seta (v := q.a b) (by exact hb) M
    rw [qs_qs] at M2
    have id' : qs q 8 b (q.a b) = q := qs_id q 8 b
    rw [id'] at M2
    refine ⟨pI σ 102 b (nI (q.a b)), ?_, M2, (gI_ne _ _ (by omega)).trans at', (gI_ne _ _ (by omega)).trans as', RG_fr G fun k i c => gI_ne _ _ (by omega), Fr_pI _ (Fr_rfl _ _) (by unfold FP; omega)⟩
    show F_X10_patience_35 94 (nI b) (nI l) _ _ _ _ _ _ = _
    simp (disch := omega) only [F_X10_patience_35, nI_lit, nI_addE, nI_mulE, nI_ltE, nI_leE, nI_eqE, nI_eqN, nI_Neq, nI_ltN, nI_Nlt, nI_leN, nI_Nle, nI_NeN, nI_subE, bd1_s, bd2_s, onrN, onrS, grd_t, grd_T, gI_eq, gI_ne, gL_pI, gI_pL, ltT, ltF, leT, leF, eqT, eqF, if_true, if_false, true_or, or_true, ite_true, ite_false, and_true, true_and, and_false, false_and, not_false_eq_true, not_true_eq_false, ↓reduceIte, in_eq, Nat.reduceAdd, Nat.reduceMul, Nat.zero_add, cE_f, cE_t, mE_f, mE_t, within_ok, ne_eq, ixo_95, ixo_96, ixo_97, ixo_98, ixo_99, ixo_100, ixo_101, ixo_102, ixo_103, ixo_104, ixo_105, ixo_106, ixo_107, ixo_108, ixo_109, ixo_110, ixo_111, ixo_112, ixo_113, ixo_114, ixo_115, ixo_116, ixo_117, ixo_118, ixo_119, ixo_120, ixo_121, ixo_122, ixo_123, ixo_124, ixo_125, ixo_126, bestL]
  | succ d ih =>
    intro i w x σ fuel hi hf M at' as' G h1 h2
    obtain ⟨f, rfl⟩ : ∃ f, fuel = f + 1 := ⟨fuel - 1, by omega⟩
    have hm := ok.2.1.1
    have M2 := MH_seta (v := i) (by exact hb) M
    rw [qs_qs] at M2
    have oki := oka (b := b) ok (by omega : i ≤ 9)
    obtain ⟨σ2, u1, u2, u3, u4, u5, u6, u7, u8, u9⟩ := md_tries (s := 9) (l := l) (by omega) oki hl ((gI_ne _ _ (by omega)).trans as') M2
    have fo := fin_ok (s := 9) oki hl
    have hd : (fin (qs q 8 b i) 9 l).holder < q.m ∨ (fin (qs q 8 b i) 9 l).holder = 9 := fo.2.1
    have u7 : gI σ2 94 37 = mE (fin (qs q 8 b i) 9 l).holder := u7
    have u8 : gI σ2 94 38 = nI (fin (qs q 8 b i) 9 l).high := u8
    have F2 : Fr FP σ σ2 := Fr_tr (Fr_pI _ (Fr_rfl _ _) (by unfold FP; omega)) (Fr_mono u9 fun k i c => .inl c)
    show ∃ σ', F_X10_patience_35 94 (nI b) (nI l) (nI (q.a b)) (iterF (F_X10_patience_35 94 (nI b) (nI l) (nI (q.a b))) (fun _ _ _ _ => none) f) (bE x.1) (nI x.2) (nI i) σ = some (bE (bestL (cP q b l) (pP q b l) (fun i => i) d (i + 1) (if cP q b l i = 1 then weigh x i (pP q b l i) else x)).1, σ') ∧ _
    by_cases e : (fin (qs q 8 b i) 9 l).holder = b
    · have ec : cP q b l i = 1 := if_pos e
      rw [if_pos ec]
      have W := weigh_le (c := i) h1 h2 (by omega) fo.1
      obtain ⟨σ5, r1, r2, r3, r4, r5, r6⟩ := ih (i + 1) i (weigh x i (pP q b l i)) σ2 f (by omega) (by omega) u2 u4 u5 ⟨_, u3⟩ W.1 W.2
      refine ⟨σ5, Eq.trans ?_ r1, r2, r3, r4, r5, Fr_tr F2 r6⟩
      generalize iterF (F_X10_patience_35 94 (nI b) (nI l) (nI (q.a b))) (fun _ _ _ _ => none) f = R
      have ew : mE (fin (qs q 8 b i) 9 l).holder = nI b := by rw [e, mE_f (by omega)]
      have fh := fo.1
      unfold weigh pP
      by_cases e1 : x.1 = 9999
      · simp (disch := omega) only [F_X10_patience_35, nI_lit, nI_leE, nI_ltE, nI_Nlt, nI_addE, ltT, ltF, leT, leF, eqT, eqF, if_true, if_false, true_or, or_true, ite_true, ite_false, and_true, true_and, and_false, false_and, not_false_eq_true, not_true_eq_false, ↓reduceIte, Nat.reduceAdd, bd1_s, bd2_s, onrN, onrS, grd_t, grd_T, ixo_95, ixo_96, ixo_97, ixo_98, ixo_99, ixo_100, ixo_101, ixo_102, ixo_103, ixo_104, ixo_105, ixo_106, ixo_107, ixo_108, ixo_109, ixo_110, ixo_111, ixo_112, ixo_113, ixo_114, ixo_115, ixo_116, ixo_117, ixo_118, ixo_119, ixo_120, ixo_121, ixo_122, ixo_123, ixo_124, ixo_125, ixo_126, u1, u7, ew, u8, bE_t, bE_f]
      · by_cases e2 : (fin (qs q 8 b i) 9 l).high < x.2
        · simp (disch := omega) only [F_X10_patience_35, nI_lit, nI_leE, nI_ltE, nI_addE, ltT, ltF, leT, leF, eqT, eqF, if_true, if_false, true_or, or_true, ite_true, ite_false, and_true, true_and, and_false, false_and, not_false_eq_true, not_true_eq_false, ↓reduceIte, Nat.reduceAdd, bd1_s, bd2_s, onrN, onrS, grd_t, grd_T, ixo_95, ixo_96, ixo_97, ixo_98, ixo_99, ixo_100, ixo_101, ixo_102, ixo_103, ixo_104, ixo_105, ixo_106, ixo_107, ixo_108, ixo_109, ixo_110, ixo_111, ixo_112, ixo_113, ixo_114, ixo_115, ixo_116, ixo_117, ixo_118, ixo_119, ixo_120, ixo_121, ixo_122, ixo_123, ixo_124, ixo_125, ixo_126, u1, u7, ew, u8, bE_f]
        · simp (disch := omega) only [F_X10_patience_35, nI_lit, nI_leE, nI_ltE, nI_addE, ltT, ltF, leT, leF, eqT, eqF, if_true, if_false, true_or, or_true, ite_true, ite_false, and_true, true_and, and_false, false_and, not_false_eq_true, not_true_eq_false, ↓reduceIte, Nat.reduceAdd, bd1_s, bd2_s, onrN, onrS, grd_t, grd_T, ixo_95, ixo_96, ixo_97, ixo_98, ixo_99, ixo_100, ixo_101, ixo_102, ixo_103, ixo_104, ixo_105, ixo_106, ixo_107, ixo_108, ixo_109, ixo_110, ixo_111, ixo_112, ixo_113, ixo_114, ixo_115, ixo_116, ixo_117, ixo_118, ixo_119, ixo_120, ixo_121, ixo_122, ixo_123, ixo_124, ixo_125, ixo_126, u1, u7, ew, u8, bE_f]
    · have ec : ¬ cP q b l i = 1 := by unfold cP; rw [if_neg e]; omega
      rw [if_neg ec]
      obtain ⟨σ5, r1, r2, r3, r4, r5, r6⟩ := ih (i + 1) i x σ2 f (by omega) (by omega) u2 u4 u5 ⟨_, u3⟩ h1 h2
      refine ⟨σ5, Eq.trans ?_ r1, r2, r3, r4, r5, Fr_tr F2 r6⟩
      generalize iterF (F_X10_patience_35 94 (nI b) (nI l) (nI (q.a b))) (fun _ _ _ _ => none) f = R
      have ew : (mE (fin (qs q 8 b i) 9 l).holder = nI b) = False := by
        by_cases e9 : (fin (qs q 8 b i) 9 l).holder = 9 <;> simp (disch := omega) only [nI_lit, nI_addE, nI_mulE, nI_ltE, nI_leE, nI_eqE, nI_eqN, nI_Neq, nI_ltN, nI_Nlt, nI_leN, nI_Nle, nI_NeN, nI_subE, bd1_s, bd2_s, onrN, onrS, grd_t, grd_T, gI_eq, gI_ne, gL_pI, gI_pL, ltT, ltF, leT, leF, eqT, eqF, if_true, if_false, true_or, or_true, ite_true, ite_false, and_true, true_and, and_false, false_and, not_false_eq_true, not_true_eq_false, ↓reduceIte, in_eq, Nat.reduceAdd, Nat.reduceMul, Nat.zero_add, cE_f, cE_t, mE_f, mE_t, within_ok, ne_eq]
      simp (disch := omega) only [F_X10_patience_35, nI_lit, nI_leE, nI_addE, ltT, ltF, leT, leF, eqT, eqF, if_true, if_false, true_or, or_true, ite_true, ite_false, and_true, true_and, and_false, false_and, not_false_eq_true, not_true_eq_false, ↓reduceIte, Nat.reduceAdd, bd1_s, bd2_s, onrN, onrS, grd_t, grd_T, ixo_95, ixo_96, ixo_97, ixo_98, ixo_99, ixo_100, ixo_101, ixo_102, ixo_103, ixo_104, ixo_105, ixo_106, ixo_107, ixo_108, ixo_109, ixo_110, ixo_111, ixo_112, ixo_113, ixo_114, ixo_115, ixo_116, ixo_117, ixo_118, ixo_119, ixo_120, ixo_121, ixo_122, ixo_123, ixo_124, ixo_125, ixo_126, u1, u7, ew]
theorem FS_WG {k i : Nat} (c : FS k i) : WG k i := by unfold FS at c; unfold WG WH; omega
theorem FP_WG {k i : Nat} (c : FP k i) : WG k i := by unfold FP FT at c; unfold WG WH; omega
theorem forget_eq : f_X8_forgetBest 48 σ = some (pI (pI σ 48 1 (-nI 3)) 48 2 (nI 0)) := rfl
theorem op_patience (I : Inv q σ) (a1 a2 : Int32) : OpOk (f_X9_patience 0 a1 a2) (f_X10_patience 94 a1 a2) σ := by
  obtain ⟨⟨⟨hn, hol⟩, hob, hoc⟩, ⟨cs, cd, cl, cb⟩, ⟨ms, mr, md, ml, mb⟩, r0, r1⟩ := id I
  obtain ⟨c1, c3, c5, c6, c7, c8⟩ := id cs
  obtain ⟨m0, m8, m7, m14⟩ := id ms
  have hm := hob.1
  rcases (arg3 a1 q.m (by omega)).symm with b | ⟨b, hb, rfl⟩
  · refine ⟨-1, σ, σ, q, ?_, ?_, I⟩
    · simp (disch := omega) only [f_X9_patience, nI_lit, nI_addE, nI_mulE, nI_ltE, nI_leE, nI_eqE, nI_eqN, nI_Neq, nI_ltN, nI_Nlt, nI_leN, nI_Nle, nI_NeN, nI_subE, bd1_s, bd2_s, onrN, onrS, grd_t, grd_T, gI_eq, gI_ne, gL_pI, gI_pL, ltT, ltF, leT, leF, eqT, eqF, if_true, if_false, true_or, or_true, ite_true, ite_false, and_true, true_and, and_false, false_and, not_false_eq_true, not_true_eq_false, ↓reduceIte, in_eq, Nat.reduceAdd, Nat.reduceMul, Nat.zero_add, cE_f, cE_t, mE_f, mE_t, within_ok, ne_eq, bidAt_no c3 b]
    · simp (disch := omega) only [f_X10_patience, nI_lit, nI_addE, nI_mulE, nI_ltE, nI_leE, nI_eqE, nI_eqN, nI_Neq, nI_ltN, nI_Nlt, nI_leN, nI_Nle, nI_NeN, nI_subE, bd1_s, bd2_s, onrN, onrS, grd_t, grd_T, gI_eq, gI_ne, gL_pI, gI_pL, ltT, ltF, leT, leF, eqT, eqF, if_true, if_false, true_or, or_true, ite_true, ite_false, and_true, true_and, and_false, false_and, not_false_eq_true, not_true_eq_false, ↓reduceIte, in_eq, Nat.reduceAdd, Nat.reduceMul, Nat.zero_add, cE_f, cE_t, mE_f, mE_t, within_ok, ne_eq, isBid_no m8 b]
  have kb := kd_bid (h := 1) (i := b) (.inl rfl) (by omega)
  simp only [Nat.reduceAdd] at kb
  have B1 : f_X2_bidderAt 1 (nI b) σ = some (some (10 + b), σ) := bidAt_ok (.inl rfl) c3 hm hb
  rcases (arg3 a2 q.n (by omega)).symm with b2 | ⟨l, hl, rfl⟩
  · refine ⟨-1, σ, σ, q, ?_, ?_, I⟩
    · simp only [f_X9_patience, Nat.reduceAdd, B1, bd1_s, bd2_s, onrN, onrS, grd_t, grd_T, grd_t kb, unsold_bad c1 b2]
    · simp only [f_X10_patience, isBid_ok m8 hm hb, bd1_s, bd2_s, onrN, onrS, grd_t, grd_T, nI_lit, nI10, if_false, free_bad m0 b2, if_true]
  have ol := (hol l hl).2.2.1
  by_cases s : q.sold l = 1
  · refine ⟨-1, σ, σ, q, ?_, ?_, I⟩
    · simp only [f_X9_patience, Nat.reduceAdd, B1, bd1_s, bd2_s, onrN, onrS, grd_t, grd_T, grd_t kb, unsold_no hn hl c1 cl s]
    · simp only [f_X10_patience, isBid_ok m8 hm hb, bd1_s, bd2_s, onrN, onrS, grd_t, grd_T, nI_lit, nI10, if_false, free_no hn hl m0 ml s, if_true]
  have s0 : q.sold l = 0 := by omega
  have kk := kd_lot (h := 1) (i := l) (.inl rfl) (by omega)
  simp only [Nat.reduceAdd] at kk
  have okX := okx I.1
  have C0 : CH 1 q (pI (pI σ 48 1 (-nI 3)) 48 2 (nI 0)) := CH_fr I.1 I.2.1 fun k i h1 h2 => by simp (disch := omega) only [gI_eq, gI_ne, gL_pI, gI_pL]
  obtain ⟨σ1, t1, t2⟩ := cl_pat okX hb hl 10 0 (9999, 0) _ FU (by omega) (FU_lt (by omega)) C0 (Nat.le_refl 9999) (Nat.zero_le _) (by rw [gI_ne _ _ (by omega), gI_eq _ _ ⟨rfl, rfl⟩]; rfl) (gI_eq _ _ ⟨rfl, rfl⟩)
  have F1 : Fr FS σ σ1 := Fr_tr (Fr_pI _ (Fr_pI _ (Fr_rfl _ _) (by unfold FS; omega)) (by unfold FS; omega)) t2
  have M1 : MH 0 q σ1 := MH_fr I.2.2.1 fun k i c => F1.1 k i (by unfold FS; omega)
  have G1 : RG σ1 := RG_fr r1.2.2.2.2.2.2.2 fun k i c => F1.1 k i (by unfold FS; omega)
  have id' : qs q 8 b (q.a b) = q := qs_id q 8 b
  obtain ⟨σ2, u1, u2, u3, u4, u5, u6⟩ := md_pat okX hb hl 10 0 (q.a b) (9999, 0) σ1 FU (by omega) (FU_lt (by omega)) (by rw [id']; exact M1) ((F1.1 _ _ (by unfold FS; omega)).trans r0.1) ((F1.1 _ _ (by unfold FS; omega)).trans r0.2) G1 (Nat.le_refl 9999) (Nat.zero_le _)
  have F : Fr WG σ σ2 := Fr_tr (Fr_mono F1 fun k i c => FS_WG c) (Fr_mono u6 fun k i c => FP_WG c)
  refine ⟨bE (bestL (cP q b l) (pP q b l) (fun i => i) 10 0 (9999, 0)).1, σ1, σ2, q, ?_, ?_, inv_try I F (CH_fr I.1 (CH1_fs okX I.2.1 F1) fun k i h1 h2 => u6.1 k i (by unfold FP FT; omega)) u2 u3 u4 u5⟩
  · have t1 : iterF (F_X8_bestPatience_7 48 1 (nI b) (nI l)) (fun _ _ => none) FU (nI 0) (pI (pI σ 48 1 (-nI 3)) 48 2 (nI 0)) = _ := t1
    simp only [f_X9_patience, f_X8_bestPatience, Nat.reduceAdd, B1, bd1_s, bd2_s, onrN, onrS, grd_t, grd_T, grd_t kb, unsold_ok hn hl c1 cl s0, grd_t kk, forget_eq, nI_lit, t1]
  · have w := (M1.2.2.2.2 b hb).2.1
    have i1 : ixo 102 (nI b) = some b := ixo_102 (by omega)
    simp only [f_X10_patience, isBid_ok M1.1.2.1 hm hb, bd1_s, bd2_s, onrN, onrS, grd_t, grd_T, nI_lit, nI10, if_false, free_ok hn hl M1.1.1 M1.2.2.2.1 s0, Nat.reduceAdd, i1, w]
    exact u1
end
