/-! the silent one -/
def hush (s : Nat) (x : HQ × Lg) : HQ × Lg := (qs x.1 9 s 0, x.2)
section
variable {q : HQ} {σ : Mem} {h o b v l s : Nat}
theorem callv_hush (h1 : 1 ≤ q.step) : callv (qs q 9 s 0) s = 0 := by
  have h2 : 1 ≤ rais (qs q 9 s 0) s := by
    unfold rais
    have : (qs q 9 s 0).step = q.step := rfl
    rw [this]
    repeat' split
    all_goals omega
  have h3 : limw (qs q 9 s 0) s ((qs q 9 s 0).worth (qs q 9 s 0).lit) = 0 := by
    unfold limw
    have : (qs q 9 s 0).val s = 0 := val_qt q rfl
    rw [this, Nat.zero_mul, Nat.zero_div, if_neg (Nat.not_lt_zero _)]
    split <;> rfl
  unfold callv
  rw [h3]
  split
  · rfl
  · split
    · rfl
    · rw [if_pos (by omega)]
theorem callv_hush2 (h1 : b ≠ s) : callv (qs q 9 s 0) b = callv q b := by
  have h3 : limw (qs q 9 s 0) b ((qs q 9 s 0).worth (qs q 9 s 0).lit) = limw q b (q.worth q.lit) := by
    have : (qs q 9 s 0).val b = q.val b := val_qs q (by omega)
    unfold limw
    rw [this]
    rfl
  unfold callv
  rw [h3]
  rfl
theorem bid1_hush {g : Lg} (h1 : 1 ≤ q.step) (hs : s < 9) (hb : b < 9) : bid1 9 (hush s (q, g)) b = hush s (bid1 s (q, g) b) := by
  unfold bid1 hush
  rw [if_neg (by omega)]
  by_cases e : b = s
  · subst e
    rw [if_pos rfl, if_pos (callv_hush h1)]
  · rw [if_neg e]
    by_cases z : callv q b = 0
    · rw [if_pos z, if_pos ((callv_hush2 e).trans z)]
    · rw [if_neg z, if_neg (by rw [callv_hush2 e]; exact z)]
      show (takes (qs q 9 s 0) b (callv (qs q 9 s 0) b), lnote g q.tick b (callv (qs q 9 s 0) b)) = (qs (takes q b (callv q b)) 9 s 0, lnote g q.tick b (callv q b))
      rw [callv_hush2 e]
      unfold takes
      rw [qs_comm (qs q 17 0 b) (by omega : (16 : Nat) ≠ 9), qs_comm q (by omega : (17 : Nat) ≠ 9)]
theorem bids_hush (hs : s < 9) : ∀ (d i : Nat) (x : HQ × Lg), Liv x.1 → i + d ≤ x.1.m → bidsR 9 d i (hush s x) = hush s (bidsR s d i x) := by
  intro d
  induction d with
  | zero => intro i x _ _; rfl
  | succ d ih =>
    intro i x L hi
    obtain ⟨q, g⟩ := x
    have hi : i + (d + 1) ≤ q.m := hi
    have hm := L.1.2.1.1
    have hm : q.m ≤ 6 := hm
    have A := bid1_liv (s := s) (g := g) L (by show i < q.m; omega)
    show bidsR 9 d (i + 1) (bid1 9 (hush s (q, g)) i) = hush s (bidsR s d (i + 1) (bid1 s (q, g) i))
    rw [bid1_hush L.1.2.2.2.1.1 hs (by omega)]
    exact ih (i + 1) _ A.1 (by rw [A.2.2.1]; show i + 1 + d ≤ q.m; omega)
theorem tick_hush {x : HQ × Lg} (hs : s < 9) (L : Liv x.1) : tickq 9 (hush s x) = hush s (tickq s x) := by
  unfold tickq
  have : (hush s x).1.m = x.1.m := rfl
  rw [this, bids_hush hs _ _ _ L (by omega)]
  generalize bidsR s x.1.m 0 x = y
  show (burnq (qs y.1 9 s 0), y.2) = (qs (burnq y.1) 9 s 0, y.2)
  unfold burnq
  rw [qs_comm (qs y.1 15 0 (y.1.burnt + burns y.1)) (by omega : (14 : Nat) ≠ 9), qs_comm y.1 (by omega : (15 : Nat) ≠ 9)]
  rfl
theorem run_hush (hs : s < 9) : ∀ (d : Nat) (x : HQ × Lg), Liv x.1 → runR 9 d (hush s x) = ((runR s d x).1, hush s (runR s d x).2) := by
  intro d
  induction d with
  | zero => intro x _; rfl
  | succ d ih =>
    intro x L
    unfold runR
    rw [tick_hush hs L]
    have e : (hush s (tickq s x)).1.wax (hush s (tickq s x)).1.lit = (tickq s x).1.wax (tickq s x).1.lit := rfl
    have e2 : (hush s (tickq s x)).1.burnt = (tickq s x).1.burnt := rfl
    rw [e, e2]
    by_cases z : (tickq s x).1.wax (tickq s x).1.lit ≤ (tickq s x).1.burnt
    · rw [if_pos z, if_pos z]
    · rw [if_neg z, if_neg z, ih _ (tick_liv L z)]
theorem fin_hush (ok : q.Okx) (hl : l < q.n) (hs : s < 9) : (fin (qs q 9 s 0) 9 l).holder = (fin q s l).holder ∧ (fin (qs q 9 s 0) 9 l).high = (fin q s l).high := by
  have e : lits (qs q 9 s 0) l = qs (lits q l) 9 s 0 := by
    unfold lits
    rw [qs_comm _ (by omega : (17 : Nat) ≠ 9), qs_comm _ (by omega : (16 : Nat) ≠ 9), qs_comm _ (by omega : (15 : Nat) ≠ 9), qs_comm _ (by omega : (14 : Nat) ≠ 9), qs_comm _ (by omega : (13 : Nat) ≠ 9)]
  have R := run_hush hs 60 (lits q l, lg0) (lits_liv ok hl)
  have R : runR 9 60 (qs (lits q l) 9 s 0, lg0) = _ := R
  unfold fin run
  rw [e, R]
  exact ⟨rfl, rfl⟩
theorem cl_sil (ok : q.Okx) (hl : l < q.n) : ∀ (d i : Nat) (x : Nat × Nat) (σ : Mem) (fuel : Nat), i + d = q.m → d < fuel → CH 1 q σ → x.1 ≤ 9999 → x.2 ≤ 9999 → gI σ 48 1 = bE x.1 → gI σ 48 2 = nI x.2 → ∃ σ', iterF (F_X8_bestSilent_6 48 1 (nI l)) (fun _ _ => none) fuel (nI i) σ = some (bE (bestL (cS q l) (pS q l) (fun i => i) d i x).1, σ') ∧ Fr FS σ σ' := by
  intro d
  induction d with
  | zero =>
    intro i x σ fuel hi hf C h1 h2 e1 e2
    obtain ⟨f, rfl⟩ : ∃ f, fuel = f + 1 := ⟨fuel - 1, by omega⟩
    have c3 := C.1.2.1
    have hm := ok.2.1.1
    refine ⟨σ, ?_, Fr_rfl _ _⟩
    show F_X8_bestSilent_6 48 1 (nI l) _ _ _ = _
    simp (disch := omega) only [F_X8_bestSilent_6, nI_lit, nI_addE, nI_mulE, nI_ltE, nI_leE, nI_eqE, nI_eqN, nI_Neq, nI_ltN, nI_Nlt, nI_leN, nI_Nle, nI_NeN, nI_subE, bd1_s, bd2_s, onrN, onrS, grd_t, grd_T, gI_eq, gI_ne, gL_pI, gI_pL, ltT, ltF, leT, leF, eqT, eqF, if_true, if_false, true_or, or_true, ite_true, ite_false, and_true, true_and, and_false, false_and, not_false_eq_true, not_true_eq_false, ↓reduceIte, in_eq, Nat.reduceAdd, Nat.reduceMul, Nat.zero_add, cE_f, cE_t, mE_f, mE_t, within_ok, ne_eq, e1, c3, bestL]
  | succ d ih =>
    intro i x σ fuel hi hf C h1 h2 e1 e2
    obtain ⟨f, rfl⟩ : ∃ f, fuel = f + 1 := ⟨fuel - 1, by omega⟩
    have c3 := C.1.2.1
    have hm := ok.2.1.1
    have hb : i < q.m := by omega
    obtain ⟨σ1, a1, a2, a3⟩ := cl_set49 ok hl C
    have L := lits_ok ok hl
    have C2 : CH 49 (lits (qs q 9 i 0) l) (pI σ1 (58 + i) 2 (nI 0)) := by
      rw [lits_qs q (by omega)]
      exact CH_setv L.1 L.2.1 hb a2
    have F2 : Fr FS σ (pI σ1 (58 + i) 2 (nI 0)) := Fr_pI _ (Fr_mono a3 fun k i c => FS_FH c) (by unfold FS; omega)
    have oki := okv (b := i) (v := 0) ok (by omega)
    obtain ⟨σ3, b1, b2, b3, b4, b5, b6, σ4, c1, c2, c3', c4⟩ := cl_weighed (c := i) oki hl C2 h1 h2 (by omega)
      (by rw [gI_ne _ _ (by omega), a3.1 _ _ (by unfold FH; omega)]; exact e1) (by rw [gI_ne _ _ (by omega), a3.1 _ _ (by unfold FH; omega)]; exact e2)
    have hu := fin_hush (s := i) ok hl (by omega)
    rw [hu.1] at b2
    rw [hu.2] at b3 c1 c2 c3'
    have fo := fin_ok (s := i) ok hl
    have hd := fo.2.1
    have B := bid49 L.2.1 hb a2
    show ∃ σ', F_X8_bestSilent_6 48 1 (nI l) (iterF (F_X8_bestSilent_6 48 1 (nI l)) (fun _ _ => none) f) (nI i) σ = some (bE (bestL (cS q l) (pS q l) (fun i => i) d (i + 1) (if cS q l i = 1 then weigh x i (pS q l i) else x)).1, σ') ∧ Fr FS σ σ'
    by_cases e : (fin q i l).holder = 9
    · have ec : ¬ cS q l i = 1 := by unfold cS; rw [if_pos e]; omega
      rw [if_neg ec]
      obtain ⟨σ5, r1, r2⟩ := ih (i + 1) x σ3 f (by omega) (by omega) (CH1_fs ok C (Fr_tr F2 b4)) h1 h2 b5 b6
      refine ⟨σ5, Eq.trans ?_ r1, Fr_tr (Fr_tr F2 b4) r2⟩
      generalize iterF (F_X8_bestSilent_6 48 1 (nI l)) (fun _ _ => none) f = R
      have ew : cE (fin q i l).holder = -nI 9 := cE_t e
      simp (disch := omega) only [F_X8_bestSilent_6, nI_lit, nI_leE, nI_addE, ltT, ltF, leT, leF, eqT, eqF, ↓reduceIte, Nat.reduceAdd, bd1_s, bd2_s, onrN, onrS, grd_t, grd_T, c3, a1, B, grd_t (kd49 (by omega : i < 6)), b1, b2, ew]
    · have ec : cS q l i = 1 := by unfold cS; rw [if_neg e]
      rw [if_pos ec]
      have W := weigh_le (c := i) h1 h2 (by omega) fo.1
      obtain ⟨σ5, r1, r2⟩ := ih (i + 1) (weigh x i (pS q l i)) σ4 f (by omega) (by omega) (CH1_fs ok C (Fr_tr F2 c4)) W.1 W.2 c2 c3'
      refine ⟨σ5, Eq.trans ?_ r1, Fr_tr (Fr_tr F2 c4) r2⟩
      generalize iterF (F_X8_bestSilent_6 48 1 (nI l)) (fun _ _ => none) f = R
      have ew : (cE (fin q i l).holder = -nI 9) = False := by simp (disch := omega) only [nI_lit, nI_addE, nI_mulE, nI_ltE, nI_leE, nI_eqE, nI_eqN, nI_Neq, nI_ltN, nI_Nlt, nI_leN, nI_Nle, nI_NeN, nI_subE, bd1_s, bd2_s, onrN, onrS, grd_t, grd_T, gI_eq, gI_ne, gL_pI, gI_pL, ltT, ltF, leT, leF, eqT, eqF, if_true, if_false, true_or, or_true, ite_true, ite_false, and_true, true_and, and_false, false_and, not_false_eq_true, not_true_eq_false, ↓reduceIte, in_eq, Nat.reduceAdd, Nat.reduceMul, Nat.zero_add, cE_f, cE_t, mE_f, mE_t, within_ok, ne_eq]
      simp (disch := omega) only [F_X8_bestSilent_6, nI_lit, nI_leE, nI_addE, ltT, ltF, leT, leF, eqT, eqF, ↓reduceIte, Nat.reduceAdd, bd1_s, bd2_s, onrN, onrS, grd_t, grd_T, c3, a1, B, grd_t (kd49 (by omega : i < 6)), b1, b2, ew, b3, c1]
theorem md_sil (ok : q.Okx) (hl : l < q.n) : ∀ (d i : Nat) (x : Nat × Nat) (σ : Mem) (fuel : Nat), i + d = q.m → d < fuel → MH 0 q σ → gI σ 94 13 = nI 0 → RG σ → x.1 ≤ 9999 → x.2 ≤ 9999 → ∃ σ', iterF (F_X10_silent_18 94 (nI l)) (fun _ _ _ _ => none) fuel (bE x.1) (nI x.2) (nI i) σ = some (bE (bestL (cS q l) (pS q l) (fun i => i) d i x).1, σ') ∧ MH 0 q σ' ∧ gI σ' 94 13 = nI 0 ∧ gI σ' 94 33 = mE 9 ∧ RG σ' ∧ Fr FP σ σ' := by
  intro d
  induction d with
  | zero =>
    intro i x σ fuel hi hf M at' G h1 h2
    obtain ⟨f, rfl⟩ : ∃ f, fuel = f + 1 := ⟨fuel - 1, by omega⟩
    have m8 := M.1.2.1
    have hm := ok.2.1.1
    refine ⟨pI σ 94 33 (-nI 1), ?_, MH_fr M fun k i c => gI_ne _ _ (by omega), (gI_ne _ _ (by omega)).trans at', gI_eq _ _ ⟨rfl, rfl⟩, RG_fr G fun k i c => gI_ne _ _ (by omega), Fr_pI _ (Fr_rfl _ _) (by unfold FP; omega)⟩
    show F_X10_silent_18 94 (nI l) _ _ _ _ _ = _
    simp (disch := omega) only [F_X10_silent_18, nI_lit, nI_addE, nI_mulE, nI_ltE, nI_leE, nI_eqE, nI_eqN, nI_Neq, nI_ltN, nI_Nlt, nI_leN, nI_Nle, nI_NeN, nI_subE, bd1_s, bd2_s, onrN, onrS, grd_t, grd_T, gI_eq, gI_ne, gL_pI, gI_pL, ltT, ltF, leT, leF, eqT, eqF, if_true, if_false, true_or, or_true, ite_true, ite_false, and_true, true_and, and_false, false_and, not_false_eq_true, not_true_eq_false, ↓reduceIte, in_eq, Nat.reduceAdd, Nat.reduceMul, Nat.zero_add, cE_f, cE_t, mE_f, mE_t, within_ok, ne_eq, m8, bestL]
  | succ d ih =>
    intro i x σ fuel hi hf M at' G h1 h2
    obtain ⟨f, rfl⟩ : ∃ f, fuel = f + 1 := ⟨fuel - 1, by omega⟩
    have m8 := M.1.2.1
    have hm := ok.2.1.1
    have M2 : MH 0 q (pI σ 94 33 (nI i)) := MH_fr M fun k i c => gI_ne _ _ (by omega)
    obtain ⟨σ2, u1, u2, u3, u4, u5, u6, u7, u8, u9⟩ := md_tries (s := i) (l := l) (by omega) ok hl (by rw [gI_eq _ _ ⟨rfl, rfl⟩, mE_f (by omega)]) M2
    have fo := fin_ok (s := i) ok hl
    have hd := fo.2.1
    have u7 : gI σ2 94 37 = mE (fin q i l).holder := u7
    have u8 : gI σ2 94 38 = nI (fin q i l).high := u8
    have F2 : Fr FP σ σ2 := Fr_tr (Fr_pI _ (Fr_rfl _ _) (by unfold FP; omega)) (Fr_mono u9 fun k i c => .inl c)
    show ∃ σ', F_X10_silent_18 94 (nI l) (iterF (F_X10_silent_18 94 (nI l)) (fun _ _ _ _ => none) f) (bE x.1) (nI x.2) (nI i) σ = some (bE (bestL (cS q l) (pS q l) (fun i => i) d (i + 1) (if cS q l i = 1 then weigh x i (pS q l i) else x)).1, σ') ∧ _
    by_cases e : (fin q i l).holder = 9
    · have ec : ¬ cS q l i = 1 := by unfold cS; rw [if_pos e]; omega
      rw [if_neg ec]
      obtain ⟨σ5, r1, r2, r3, r4, r5, r6⟩ := ih (i + 1) x σ2 f (by omega) (by omega) u2 u4 ⟨_, u3⟩ h1 h2
      refine ⟨σ5, Eq.trans ?_ r1, r2, r3, r4, r5, Fr_tr F2 r6⟩
      generalize iterF (F_X10_silent_18 94 (nI l)) (fun _ _ _ _ => none) f = R
      have ew : mE (fin q i l).holder = -nI 1 := mE_t e
      simp (disch := omega) only [F_X10_silent_18, nI_lit, nI_addE, nI_mulE, nI_ltE, nI_leE, nI_eqE, nI_eqN, nI_Neq, nI_ltN, nI_Nlt, nI_leN, nI_Nle, nI_NeN, nI_subE, bd1_s, bd2_s, onrN, onrS, grd_t, grd_T, gI_eq, gI_ne, gL_pI, gI_pL, ltT, ltF, leT, leF, eqT, eqF, if_true, if_false, true_or, or_true, ite_true, ite_false, and_true, true_and, and_false, false_and, not_false_eq_true, not_true_eq_false, ↓reduceIte, in_eq, Nat.reduceAdd, Nat.reduceMul, Nat.zero_add, cE_f, cE_t, mE_f, mE_t, within_ok, ne_eq, m8, u1, u7, ew]
    · have ec : cS q l i = 1 := by unfold cS; rw [if_neg e]
      rw [if_pos ec]
      have W := weigh_le (c := i) h1 h2 (by omega) fo.1
      obtain ⟨σ5, r1, r2, r3, r4, r5, r6⟩ := ih (i + 1) (weigh x i (pS q l i)) σ2 f (by omega) (by omega) u2 u4 ⟨_, u3⟩ W.1 W.2
      refine ⟨σ5, Eq.trans ?_ r1, r2, r3, r4, r5, Fr_tr F2 r6⟩
      generalize iterF (F_X10_silent_18 94 (nI l)) (fun _ _ _ _ => none) f = R
      have fh := fo.1
      unfold weigh pS
      by_cases e1 : x.1 = 9999
      · simp (disch := omega) only [F_X10_silent_18, nI_lit, nI_addE, nI_mulE, nI_ltE, nI_leE, nI_eqE, nI_eqN, nI_Neq, nI_ltN, nI_Nlt, nI_leN, nI_Nle, nI_NeN, nI_subE, bd1_s, bd2_s, onrN, onrS, grd_t, grd_T, gI_eq, gI_ne, gL_pI, gI_pL, ltT, ltF, leT, leF, eqT, eqF, if_true, if_false, true_or, or_true, ite_true, ite_false, and_true, true_and, and_false, false_and, not_false_eq_true, not_true_eq_false, ↓reduceIte, in_eq, Nat.reduceAdd, Nat.reduceMul, Nat.zero_add, cE_f, cE_t, mE_f, mE_t, within_ok, ne_eq, m8, u1, u7, u8, bE_t, bE_f]
      · by_cases e2 : (fin q i l).high < x.2
        · simp (disch := omega) only [F_X10_silent_18, nI_lit, nI_addE, nI_mulE, nI_ltE, nI_leE, nI_eqE, nI_eqN, nI_Neq, nI_ltN, nI_Nlt, nI_leN, nI_Nle, nI_NeN, nI_subE, bd1_s, bd2_s, onrN, onrS, grd_t, grd_T, gI_eq, gI_ne, gL_pI, gI_pL, ltT, ltF, leT, leF, eqT, eqF, if_true, if_false, true_or, or_true, ite_true, ite_false, and_true, true_and, and_false, false_and, not_false_eq_true, not_true_eq_false, ↓reduceIte, in_eq, Nat.reduceAdd, Nat.reduceMul, Nat.zero_add, cE_f, cE_t, mE_f, mE_t, within_ok, ne_eq, m8, u1, u7, u8, bE_f]
        · simp (disch := omega) only [F_X10_silent_18, nI_lit, nI_addE, nI_mulE, nI_ltE, nI_leE, nI_eqE, nI_eqN, nI_Neq, nI_ltN, nI_Nlt, nI_leN, nI_Nle, nI_NeN, nI_subE, bd1_s, bd2_s, onrN, onrS, grd_t, grd_T, gI_eq, gI_ne, gL_pI, gI_pL, ltT, ltF, leT, leF, eqT, eqF, if_true, if_false, true_or, or_true, ite_true, ite_false, and_true, true_and, and_false, false_and, not_false_eq_true, not_true_eq_false, ↓reduceIte, in_eq, Nat.reduceAdd, Nat.reduceMul, Nat.zero_add, cE_f, cE_t, mE_f, mE_t, within_ok, ne_eq, m8, u1, u7, u8, bE_f]
theorem op_silent (I : Inv q σ) (a1 : Int32) : OpOk (f_X9_silent 0 a1) (f_X10_silent 94 a1) σ := by
  obtain ⟨⟨⟨hn, hol⟩, hob, hoc⟩, ⟨cs, cd, cl, cb⟩, ⟨ms, mr, md, ml, mb⟩, r0, r1⟩ := id I
  obtain ⟨c1, c3, c5, c6, c7, c8⟩ := id cs
  obtain ⟨m0, m8, m7, m14⟩ := id ms
  have hm := hob.1
  rcases (arg3 a1 q.n (by omega)).symm with b | ⟨l, hl, rfl⟩
  · refine ⟨-1, σ, σ, q, ?_, ?_, I⟩
    · simp (disch := omega) only [f_X9_silent, nI_lit, nI_addE, nI_mulE, nI_ltE, nI_leE, nI_eqE, nI_eqN, nI_Neq, nI_ltN, nI_Nlt, nI_leN, nI_Nle, nI_NeN, nI_subE, bd1_s, bd2_s, onrN, onrS, grd_t, grd_T, gI_eq, gI_ne, gL_pI, gI_pL, ltT, ltF, leT, leF, eqT, eqF, if_true, if_false, true_or, or_true, ite_true, ite_false, and_true, true_and, and_false, false_and, not_false_eq_true, not_true_eq_false, ↓reduceIte, in_eq, Nat.reduceAdd, Nat.reduceMul, Nat.zero_add, cE_f, cE_t, mE_f, mE_t, within_ok, ne_eq, unsold_bad c1 b]
    · simp (disch := omega) only [f_X10_silent, nI_lit, nI_addE, nI_mulE, nI_ltE, nI_leE, nI_eqE, nI_eqN, nI_Neq, nI_ltN, nI_Nlt, nI_leN, nI_Nle, nI_NeN, nI_subE, bd1_s, bd2_s, onrN, onrS, grd_t, grd_T, gI_eq, gI_ne, gL_pI, gI_pL, ltT, ltF, leT, leF, eqT, eqF, if_true, if_false, true_or, or_true, ite_true, ite_false, and_true, true_and, and_false, false_and, not_false_eq_true, not_true_eq_false, ↓reduceIte, in_eq, Nat.reduceAdd, Nat.reduceMul, Nat.zero_add, cE_f, cE_t, mE_f, mE_t, within_ok, ne_eq, free_bad m0 b]
  have ol := (hol l hl).2.2.1
  by_cases s : q.sold l = 1
  · refine ⟨-1, σ, σ, q, ?_, ?_, I⟩
    · simp (disch := omega) only [f_X9_silent, nI_lit, nI_addE, nI_mulE, nI_ltE, nI_leE, nI_eqE, nI_eqN, nI_Neq, nI_ltN, nI_Nlt, nI_leN, nI_Nle, nI_NeN, nI_subE, bd1_s, bd2_s, onrN, onrS, grd_t, grd_T, gI_eq, gI_ne, gL_pI, gI_pL, ltT, ltF, leT, leF, eqT, eqF, if_true, if_false, true_or, or_true, ite_true, ite_false, and_true, true_and, and_false, false_and, not_false_eq_true, not_true_eq_false, ↓reduceIte, in_eq, Nat.reduceAdd, Nat.reduceMul, Nat.zero_add, cE_f, cE_t, mE_f, mE_t, within_ok, ne_eq, unsold_no hn hl c1 cl s]
    · simp (disch := omega) only [f_X10_silent, nI_lit, nI_addE, nI_mulE, nI_ltE, nI_leE, nI_eqE, nI_eqN, nI_Neq, nI_ltN, nI_Nlt, nI_leN, nI_Nle, nI_NeN, nI_subE, bd1_s, bd2_s, onrN, onrS, grd_t, grd_T, gI_eq, gI_ne, gL_pI, gI_pL, ltT, ltF, leT, leF, eqT, eqF, if_true, if_false, true_or, or_true, ite_true, ite_false, and_true, true_and, and_false, false_and, not_false_eq_true, not_true_eq_false, ↓reduceIte, in_eq, Nat.reduceAdd, Nat.reduceMul, Nat.zero_add, cE_f, cE_t, mE_f, mE_t, within_ok, ne_eq, free_no hn hl m0 ml s]
  have s0 : q.sold l = 0 := by omega
  have kk := kd_lot (h := 1) (i := l) (.inl rfl) (by omega)
  simp only [Nat.reduceAdd] at kk
  have okX := okx I.1
  have C0 : CH 1 q (pI (pI σ 48 1 (-nI 3)) 48 2 (nI 0)) := CH_fr I.1 I.2.1 fun k i h1 h2 => by simp (disch := omega) only [gI_eq, gI_ne, gL_pI, gI_pL]
  obtain ⟨σ1, t1, t2⟩ := cl_sil okX hl q.m 0 (9999, 0) _ FU (by omega) (FU_lt (by omega)) C0 (Nat.le_refl 9999) (Nat.zero_le _) (by rw [gI_ne _ _ (by omega), gI_eq _ _ ⟨rfl, rfl⟩]; rfl) (gI_eq _ _ ⟨rfl, rfl⟩)
  have F1 : Fr FS σ σ1 := Fr_tr (Fr_pI _ (Fr_pI _ (Fr_rfl _ _) (by unfold FS; omega)) (by unfold FS; omega)) t2
  have M1 : MH 0 q σ1 := MH_fr I.2.2.1 fun k i c => F1.1 k i (by unfold FS; omega)
  have G1 : RG σ1 := RG_fr r1.2.2.2.2.2.2.2 fun k i c => F1.1 k i (by unfold FS; omega)
  obtain ⟨σ2, u1, u2, u3, u4, u5, u6⟩ := md_sil okX hl q.m 0 (9999, 0) σ1 FU (by omega) (FU_lt (by omega)) M1 ((F1.1 _ _ (by unfold FS; omega)).trans r0.1) G1 (Nat.le_refl 9999) (Nat.zero_le _)
  have F : Fr WG σ σ2 := Fr_tr (Fr_mono F1 fun k i c => FS_WG c) (Fr_mono u6 fun k i c => FP_WG c)
  refine ⟨bE (bestL (cS q l) (pS q l) (fun i => i) q.m 0 (9999, 0)).1, σ1, σ2, q, ?_, ?_, inv_try I F (CH_fr I.1 (CH1_fs okX I.2.1 F1) fun k i h1 h2 => u6.1 k i (by unfold FP FT; omega)) u2 u3 u4 u5⟩
  · simp only [f_X9_silent, f_X8_bestSilent, Nat.reduceAdd, bd1_s, bd2_s, onrN, onrS, grd_t, grd_T, unsold_ok hn hl c1 cl s0, grd_t kk, forget_eq, nI_lit, t1]
  · simp only [f_X10_silent, bd1_s, bd2_s, onrN, onrS, grd_t, grd_T, nI_lit, nI10, if_false, free_ok hn hl M1.1.1 M1.2.2.2.1 s0]
    exact u1
end
