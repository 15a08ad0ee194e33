/-! ticks, one after the other -/
def aft (x : HQ × Lg) (s : Nat) : HQ × Lg := if (tickq s x).1.wax (tickq s x).1.lit ≤ (tickq s x).1.burnt then (sellq (tickq s x).1, (tickq s x).2) else tickq s x
def ticksR : Nat → HQ × Lg → Nat × (HQ × Lg)
  | 0, x => (0, x)
  | d + 1, x => if x.1.lit = 9 then (0, x) else ((ticksR d (aft x 9)).1 + 1, (ticksR d (aft x 9)).2)
def runR (s : Nat) : Nat → HQ × Lg → Nat × (HQ × Lg)
  | 0, x => (0, x)
  | d + 1, x => if (tickq s x).1.wax (tickq s x).1.lit ≤ (tickq s x).1.burnt then (1, tickq s x) else ((runR s d (tickq s x)).1 + 1, (runR s d (tickq s x)).2)
section
variable {q : HQ} {σ : Mem} {h o b v : Nat}
theorem tick_same {s : Nat} {x : HQ × Lg} (L : Liv x.1) : (tickq s x).1.n = x.1.n ∧ (tickq s x).1.m = x.1.m ∧ (tickq s x).1.lit = x.1.lit ∧ (tickq s x).1.wax (tickq s x).1.lit = x.1.wax x.1.lit ∧ x.1.burnt < (tickq s x).1.burnt ∧ (tickq s x).1.tick = x.1.tick + 1 := by
  have V := bids_liv (s := s) x.1.m 0 x L (by omega)
  have B := burns_le V.1.1.2.2.1
  obtain ⟨V1, v1, v2, v3, v4, v5, v6, v7, v8⟩ := V
  refine ⟨v1, v2, v3, ?_, ?_, ?_⟩
  · show (bidsR s x.1.m 0 x).1.wax (bidsR s x.1.m 0 x).1.lit = _
    rw [v3]
    exact v8 1 _ (by omega) (by omega)
  · show x.1.burnt < (bidsR s x.1.m 0 x).1.burnt + burns (bidsR s x.1.m 0 x).1
    rw [v5]; omega
  · show (bidsR s x.1.m 0 x).1.tick + 1 = _
    rw [v4]
theorem tick_liv {s : Nat} {x : HQ × Lg} (L : Liv x.1) (h : ¬ outq (tickq s x).1) : Liv (tickq s x).1 := burnq_liv (bids_liv (s := s) x.1.m 0 x L (by omega)).1 h
theorem tick_okx {s : Nat} {x : HQ × Lg} (L : Liv x.1) : (tickq s x).1.Okx := burnq_okx (bids_liv (s := s) x.1.m 0 x L (by omega)).1
theorem aft_ok {s : Nat} {x : HQ × Lg} (L : Liv x.1) : (aft x s).1.Ok := by
  unfold aft
  split
  · exact sellq_ok (tick_okx L)
  · exact (tick_liv L (by assumption)).1
theorem lit_or (ok : q.Ok) (e : q.lit ≠ 9) : q.lit < q.n := by have := ok.2.2.2.2.1; omega
theorem cl_goN (hh : h = 1 ∨ h = 16 ∨ h = 31 ∨ h = 49) (N : Nat) (hN : N ≤ 60) : ∀ (d i : Nat) (x : HQ × Lg) (σ : Mem) (fuel : Nat), i + d = N → d < fuel → x.1.Ok → CH h x.1 σ → ∃ σ', iterF (F_X2_goTicks_IN_5 h (nI N)) (fun _ _ _ => none) fuel (nI i) (nI i) σ = some (nI (i + (ticksR d x).1), σ') ∧ CH h (ticksR d x).2.1 σ' ∧ Fr (FH h) σ σ' := by
  intro d
  induction d with
  | zero =>
    intro i x σ fuel hi hf ok C
    obtain ⟨f, rfl⟩ : ∃ f, fuel = f + 1 := ⟨fuel - 1, by omega⟩
    refine ⟨σ, ?_, C, Fr_rfl _ _⟩
    show F_X2_goTicks_IN_5 h (nI N) _ _ _ _ = _
    simp (disch := omega) only [F_X2_goTicks_IN_5, nI_lit, nI_addE, nI_mulE, nI_ltE, nI_leE, nI_eqE, nI_eqN, nI_Neq, nI_ltN, nI_Nlt, nI_leN, nI_Nle, nI_NeN, nI_subE, bd1_s, bd2_s, onrN, onrS, grd_t, grd_T, gI_eq, gI_ne, gL_pI, gI_pL, ltT, ltF, leT, leF, eqT, eqF, if_true, if_false, true_or, or_true, ite_true, ite_false, and_true, true_and, and_false, false_and, not_false_eq_true, not_true_eq_false, ↓reduceIte, in_eq, Nat.reduceAdd, Nat.reduceMul, Nat.zero_add, cE_f, cE_t, mE_f, mE_t, within_ok, ne_eq, ticksR, Nat.add_zero]
  | succ d ih =>
    intro i x σ fuel hi hf ok C
    obtain ⟨f, rfl⟩ : ∃ f, fuel = f + 1 := ⟨fuel - 1, by omega⟩
    have hn := ok.1.1
    by_cases e : x.1.lit = 9
    · refine ⟨σ, ?_, ?_, Fr_rfl _ _⟩
      · show F_X2_goTicks_IN_5 h (nI N) _ _ _ _ = _
        have B := cl_burning9 (h := h) e C.1.1 C.1.2.2.2.2.1
        simp (disch := omega) only [F_X2_goTicks_IN_5, nI_lit, nI_addE, nI_mulE, nI_ltE, nI_leE, nI_eqE, nI_eqN, nI_Neq, nI_ltN, nI_Nlt, nI_leN, nI_Nle, nI_NeN, nI_subE, bd1_s, bd2_s, onrN, onrS, grd_t, grd_T, gI_eq, gI_ne, gL_pI, gI_pL, ltT, ltF, leT, leF, eqT, eqF, if_true, if_false, true_or, or_true, ite_true, ite_false, and_true, true_and, and_false, false_and, not_false_eq_true, not_true_eq_false, ↓reduceIte, in_eq, Nat.reduceAdd, Nat.reduceMul, Nat.zero_add, cE_f, cE_t, mE_f, mE_t, within_ok, ne_eq, ticksR, B, Nat.add_zero]
      · unfold ticksR
        rw [if_pos e]
        exact C
    · have hL := lit_or ok e
      obtain ⟨σ1, t1, t2, t3, t4⟩ := cl_tickN hh (x := x) ⟨ok, hL⟩ C
      have C1 : CH h (aft x 9).1 σ1 := by
        unfold aft
        split
        · exact t3 (by assumption)
        · exact t4 (by assumption)
      obtain ⟨σ2, u1, u2, u3⟩ := ih (i + 1) (aft x 9) σ1 f (by omega) (by omega) (aft_ok ⟨ok, hL⟩) C1
      refine ⟨σ2, ?_, ?_, Fr_tr t2 u3⟩
      · have B := cl_burning hh hn hL C.1.1 C.1.2.2.2.2.1
        show F_X2_goTicks_IN_5 h (nI N) _ _ _ _ = _
        have e2 : i + 1 + (ticksR d (aft x 9)).1 = i + ((ticksR d (aft x 9)).1 + 1) := by omega
        rw [e2] at u1
        unfold ticksR
        rw [if_neg e]
        simp (disch := omega) only [F_X2_goTicks_IN_5, nI_lit, nI_addE, bd1_s, bd2_s, onrN, onrS, grd_t, grd_T, ltT, ltF, leT, leF, eqT, eqF, ↓reduceIte, nI_leE, B, grd_lot hh, t1]
        exact u1
      · unfold ticksR
        rw [if_neg e]
        exact u2
theorem cl_goR {k : Nat} (hk : k = 74 ∨ k = 76) (hh : h = 1 ∨ h = 16 ∨ h = 31 ∨ h = 49) (N : Nat) (hN : N ≤ 60) : ∀ (d i : Nat) (x : HQ × Lg) (σ : Mem) (fuel : Nat), i + d = N → d < fuel → x.1.Ok → CH h x.1 σ → LC k x.2 σ → ∃ σ', iterF (F_X2_goTicks_5 h (nI N) k) (fun _ _ _ => none) fuel (nI i) (nI i) σ = some (nI (i + (ticksR d x).1), σ') ∧ CH h (ticksR d x).2.1 σ' ∧ LC k (ticksR d x).2.2 σ' ∧ Fr (fun c i => FH h c i ∨ c = k ∨ c = k + 1) σ σ' := by
  intro d
  induction d with
  | zero =>
    intro i x σ fuel hi hf ok C G
    obtain ⟨f, rfl⟩ : ∃ f, fuel = f + 1 := ⟨fuel - 1, by omega⟩
    refine ⟨σ, ?_, C, G, Fr_rfl _ _⟩
    show F_X2_goTicks_5 h (nI N) k _ _ _ _ = _
    simp (disch := omega) only [F_X2_goTicks_5, nI_lit, nI_addE, nI_mulE, nI_ltE, nI_leE, nI_eqE, nI_eqN, nI_Neq, nI_ltN, nI_Nlt, nI_leN, nI_Nle, nI_NeN, nI_subE, bd1_s, bd2_s, onrN, onrS, grd_t, grd_T, gI_eq, gI_ne, gL_pI, gI_pL, ltT, ltF, leT, leF, eqT, eqF, if_true, if_false, true_or, or_true, ite_true, ite_false, and_true, true_and, and_false, false_and, not_false_eq_true, not_true_eq_false, ↓reduceIte, in_eq, Nat.reduceAdd, Nat.reduceMul, Nat.zero_add, cE_f, cE_t, mE_f, mE_t, within_ok, ne_eq, ticksR, Nat.add_zero]
  | succ d ih =>
    intro i x σ fuel hi hf ok C G
    obtain ⟨f, rfl⟩ : ∃ f, fuel = f + 1 := ⟨fuel - 1, by omega⟩
    have hn := ok.1.1
    by_cases e : x.1.lit = 9
    · refine ⟨σ, ?_, ?_, ?_, Fr_rfl _ _⟩
      · show F_X2_goTicks_5 h (nI N) k _ _ _ _ = _
        have B := cl_burning9 (h := h) e C.1.1 C.1.2.2.2.2.1
        simp (disch := omega) only [F_X2_goTicks_5, nI_lit, nI_addE, nI_mulE, nI_ltE, nI_leE, nI_eqE, nI_eqN, nI_Neq, nI_ltN, nI_Nlt, nI_leN, nI_Nle, nI_NeN, nI_subE, bd1_s, bd2_s, onrN, onrS, grd_t, grd_T, gI_eq, gI_ne, gL_pI, gI_pL, ltT, ltF, leT, leF, eqT, eqF, if_true, if_false, true_or, or_true, ite_true, ite_false, and_true, true_and, and_false, false_and, not_false_eq_true, not_true_eq_false, ↓reduceIte, in_eq, Nat.reduceAdd, Nat.reduceMul, Nat.zero_add, cE_f, cE_t, mE_f, mE_t, within_ok, ne_eq, ticksR, B, Nat.add_zero]
      · unfold ticksR
        rw [if_pos e]
        exact C
      · unfold ticksR
        rw [if_pos e]
        exact G
    · have hL := lit_or ok e
      obtain ⟨σ1, t1, t2, t5, t3, t4⟩ := cl_tickR hk hh (x := x) ⟨ok, hL⟩ C G
      have C1 : CH h (aft x 9).1 σ1 := by
        unfold aft
        split
        · exact t3 (by assumption)
        · exact t4 (by assumption)
      have G1 : LC k (aft x 9).2 σ1 := by
        unfold aft
        split
        · exact t5
        · exact t5
      obtain ⟨σ2, u1, u2, u4, u3⟩ := ih (i + 1) (aft x 9) σ1 f (by omega) (by omega) (aft_ok ⟨ok, hL⟩) C1 G1
      refine ⟨σ2, ?_, ?_, ?_, Fr_tr t2 u3⟩
      · have B := cl_burning hh hn hL C.1.1 C.1.2.2.2.2.1
        show F_X2_goTicks_5 h (nI N) k _ _ _ _ = _
        have e2 : i + 1 + (ticksR d (aft x 9)).1 = i + ((ticksR d (aft x 9)).1 + 1) := by omega
        rw [e2] at u1
        unfold ticksR
        rw [if_neg e]
        simp (disch := omega) only [F_X2_goTicks_5, nI_lit, nI_addE, bd1_s, bd2_s, onrN, onrS, grd_t, grd_T, ltT, ltF, leT, leF, eqT, eqF, ↓reduceIte, nI_leE, B, grd_lot hh, t1]
        exact u1
      · unfold ticksR
        rw [if_neg e]
        exact u2
      · unfold ticksR
        rw [if_neg e]
        exact u4
/-- the other side's ticks, on the row itself -/
def FN (k i : Nat) : Prop := FM 0 k i ∨ k = 97 ∨ k = 98 ∨ k = 99
theorem md_go (N : Nat) (hN : N ≤ 60) : ∀ (d i : Nat) (x : HQ × Lg) (σ : Mem) (fuel : Nat), i + d = N → d < fuel → x.1.Ok → gI σ 94 13 = nI 0 → gI σ 94 33 = mE 9 → MH 0 x.1 σ → LM x.2 σ → ∃ σ', iterF (F_X10_ticks_14 94 (nI N)) (fun _ _ => none) fuel (nI i) σ = some (nI (i + (ticksR d x).1), σ') ∧ MH 0 (ticksR d x).2.1 σ' ∧ LM (ticksR d x).2.2 σ' ∧ Fr FN σ σ' := by
  intro d
  induction d with
  | zero =>
    intro i x σ fuel hi hf ok at' as' M G
    obtain ⟨f, rfl⟩ : ∃ f, fuel = f + 1 := ⟨fuel - 1, by omega⟩
    refine ⟨σ, ?_, M, G, Fr_rfl _ _⟩
    show F_X10_ticks_14 94 (nI N) _ _ _ = _
    simp (disch := omega) only [F_X10_ticks_14, nI_lit, nI_addE, nI_mulE, nI_ltE, nI_leE, nI_eqE, nI_eqN, nI_Neq, nI_ltN, nI_Nlt, nI_leN, nI_Nle, nI_NeN, nI_subE, bd1_s, bd2_s, onrN, onrS, grd_t, grd_T, gI_eq, gI_ne, gL_pI, gI_pL, ltT, ltF, leT, leF, eqT, eqF, if_true, if_false, true_or, or_true, ite_true, ite_false, and_true, true_and, and_false, false_and, not_false_eq_true, not_true_eq_false, ↓reduceIte, in_eq, Nat.reduceAdd, Nat.reduceMul, Nat.zero_add, cE_f, cE_t, mE_f, mE_t, within_ok, ne_eq, ticksR, Nat.add_zero]
  | succ d ih =>
    intro i x σ fuel hi hf ok at' as' M G
    obtain ⟨f, rfl⟩ : ∃ f, fuel = f + 1 := ⟨fuel - 1, by omega⟩
    have hn := ok.1.1
    have n0 := M.2.1.1
    by_cases e : x.1.lit = 9
    · refine ⟨σ, ?_, ?_, ?_, Fr_rfl _ _⟩
      · show F_X10_ticks_14 94 (nI N) _ _ _ = _
        simp (disch := omega) only [F_X10_ticks_14, nI_lit, nI_addE, nI_mulE, nI_ltE, nI_leE, nI_eqE, nI_eqN, nI_Neq, nI_ltN, nI_Nlt, nI_leN, nI_Nle, nI_NeN, nI_subE, bd1_s, bd2_s, onrN, onrS, grd_t, grd_T, gI_eq, gI_ne, gL_pI, gI_pL, ltT, ltF, leT, leF, eqT, eqF, if_true, if_false, true_or, or_true, ite_true, ite_false, and_true, true_and, and_false, false_and, not_false_eq_true, not_true_eq_false, ↓reduceIte, in_eq, Nat.reduceAdd, Nat.reduceMul, Nat.zero_add, cE_f, cE_t, mE_f, mE_t, within_ok, ne_eq, ixo_95, ixo_96, ixo_97, ixo_98, ixo_99, ixo_100, ixo_101, ixo_102, ixo_103, ixo_104, ixo_105, ixo_106, ixo_107, ixo_108, ixo_109, ixo_110, ixo_111, ixo_112, ixo_113, ixo_114, ixo_115, ixo_116, ixo_117, ixo_118, ixo_119, ixo_120, ixo_121, ixo_122, ixo_123, ixo_124, ixo_125, ixo_126, ticksR, n0, Nat.add_zero]
      · unfold ticksR
        rw [if_pos e]
        exact M
      · unfold ticksR
        rw [if_pos e]
        exact G
    · have hL := lit_or ok e
      obtain ⟨σ1, v, t1, t2, t3, t4, t5, t6, t7⟩ := md_tick (s := 9) (by omega) (Nat.zero_le 11) (x := x) ⟨ok, hL⟩ at' as' M G
      have TS := tick_same (s := 9) (x := x) ⟨ok, hL⟩
      have at1 : gI σ1 94 13 = nI 0 := (t7.1 94 13 (by unfold FM; omega)).trans at'
      have as1 : gI σ1 94 33 = mE 9 := (t7.1 94 33 (by unfold FM; omega)).trans as'
      have e2 : i + 1 + (ticksR d (aft x 9)).1 = i + ((ticksR d (aft x 9)).1 + 1) := by omega
      by_cases out : outq (tickq 9 x).1
      · have v1 := t3 out
        subst v1
        obtain ⟨σ2, s1, s2, s3⟩ := md_sells (tick_okx ⟨ok, hL⟩) (by rw [TS.2.2.1, TS.1]; exact hL) at1 t5
        have ea : aft x 9 = (sellq (tickq 9 x).1, (tickq 9 x).2) := if_pos out
        have okA := aft_ok (s := 9) (x := x) ⟨ok, hL⟩
        rw [ea] at okA
        obtain ⟨σ3, u1, u2, u4, u3⟩ := ih (i + 1) (sellq (tickq 9 x).1, (tickq 9 x).2) σ2 f (by omega) (by omega) okA ((s3.1 94 13 (by omega)).trans at1) ((s3.1 94 33 (by omega)).trans as1) s2 (LM_fr t6 fun k j c => s3.1 k j (by omega))
        rw [ea] at e2
        rw [e2] at u1
        refine ⟨σ3, ?_, ?_, ?_, Fr_tr (Fr_mono t7 fun k j c => .inl c) (Fr_tr (Fr_mono s3 fun k j c => ?_) u3)⟩
        · show F_X10_ticks_14 94 (nI N) _ _ _ = _
          unfold ticksR
          rw [if_neg e, ea]
          simp (disch := omega) only [F_X10_ticks_14, nI_lit, nI_addE, bd1_s, bd2_s, onrN, onrS, grd_t, grd_T, ltT, ltF, leT, leF, eqT, eqF, ixo_95, ixo_96, ixo_97, ixo_98, ixo_99, ixo_100, ixo_101, ixo_102, ixo_103, ixo_104, ixo_105, ixo_106, ixo_107, ixo_108, ixo_109, ixo_110, ixo_111, ixo_112, ixo_113, ixo_114, ixo_115, ixo_116, ixo_117, ixo_118, ixo_119, ixo_120, ixo_121, ixo_122, ixo_123, ixo_124, ixo_125, ixo_126, ↓reduceIte, Nat.reduceAdd, nI_leE, nI_ltE, nI_eqE, mE_f, n0, t1, s1]
          exact u1
        · unfold ticksR
          rw [if_neg e, ea]
          exact u2
        · unfold ticksR
          rw [if_neg e, ea]
          exact u4
        · unfold FN FM; omega
      · have v1 := t4 out
        subst v1
        have ea : aft x 9 = tickq 9 x := if_neg out
        obtain ⟨σ3, u1, u2, u4, u3⟩ := ih (i + 1) (tickq 9 x) σ1 f (by omega) (by omega) (tick_liv ⟨ok, hL⟩ out).1 at1 as1 t5 t6
        rw [ea] at e2
        rw [e2] at u1
        refine ⟨σ3, ?_, ?_, ?_, Fr_tr (Fr_mono t7 fun k j c => .inl c) u3⟩
        · show F_X10_ticks_14 94 (nI N) _ _ _ = _
          unfold ticksR
          rw [if_neg e, ea]
          simp (disch := omega) only [F_X10_ticks_14, nI_lit, nI_addE, bd1_s, bd2_s, onrN, onrS, grd_t, grd_T, ltT, ltF, leT, leF, eqT, eqF, ixo_95, ixo_96, ixo_97, ixo_98, ixo_99, ixo_100, ixo_101, ixo_102, ixo_103, ixo_104, ixo_105, ixo_106, ixo_107, ixo_108, ixo_109, ixo_110, ixo_111, ixo_112, ixo_113, ixo_114, ixo_115, ixo_116, ixo_117, ixo_118, ixo_119, ixo_120, ixo_121, ixo_122, ixo_123, ixo_124, ixo_125, ixo_126, ↓reduceIte, Nat.reduceAdd, nI_leE, nI_ltE, nI_eqE, mE_f, n0, t1]
          exact u1
        · unfold ticksR
          rw [if_neg e, ea]
          exact u2
        · unfold ticksR
          rw [if_neg e, ea]
          exact u4
theorem ticks_ok : ∀ (d : Nat) (x : HQ × Lg), x.1.Ok → (ticksR d x).2.1.Ok := by
  intro d
  induction d with
  | zero => intro x ok; exact ok
  | succ d ih =>
    intro x ok
    unfold ticksR
    split
    · exact ok
    · exact ih _ (aft_ok ⟨ok, lit_or ok (by assumption)⟩)
theorem op_ticks (I : Inv q σ) (a1 : Int32) : OpOk (f_X9_ticks 0 a1) (f_X10_ticks 94 a1) σ := by
  rcases (arg a1 0 60 (by omega) (by omega)).symm with b | ⟨n, -, hn, rfl⟩
  · refine ⟨-1, σ, σ, q, ?_, ?_, I⟩
    · simp (disch := omega) only [f_X9_ticks, nI_lit, nI_addE, nI_mulE, nI_ltE, nI_leE, nI_eqE, nI_eqN, nI_Neq, nI_ltN, nI_Nlt, nI_leN, nI_Nle, nI_NeN, nI_subE, bd1_s, bd2_s, onrN, onrS, grd_t, grd_T, gI_eq, gI_ne, gL_pI, gI_pL, ltT, ltF, leT, leF, eqT, eqF, if_true, if_false, true_or, or_true, ite_true, ite_false, and_true, true_and, and_false, false_and, not_false_eq_true, not_true_eq_false, ↓reduceIte, in_eq, Nat.reduceAdd, Nat.reduceMul, Nat.zero_add, cE_f, cE_t, mE_f, mE_t, within_ok, ne_eq, within_no _ b]
    · simp (disch := omega) only [f_X10_ticks, nI_lit, nI_addE, nI_mulE, nI_ltE, nI_leE, nI_eqE, nI_eqN, nI_Neq, nI_ltN, nI_Nlt, nI_leN, nI_Nle, nI_NeN, nI_subE, bd1_s, bd2_s, onrN, onrS, grd_t, grd_T, gI_eq, gI_ne, gL_pI, gI_pL, ltT, ltF, leT, leF, eqT, eqF, if_true, if_false, true_or, or_true, ite_true, ite_false, and_true, true_and, and_false, false_and, not_false_eq_true, not_true_eq_false, ↓reduceIte, in_eq, Nat.reduceAdd, Nat.reduceMul, Nat.zero_add, cE_f, cE_t, mE_f, mE_t, within_ok, ne_eq, within_no _ b]
  obtain ⟨ok, C, M, r0, r1⟩ := I
  obtain ⟨g, G⟩ := r1.2.2.2.2.2.2.2
  obtain ⟨σ1, c1, c2, c3⟩ := cl_goN (.inl rfl) n hn n 0 (q, g) σ FU (by omega) (FU_lt (by omega)) ok C
  have at1 : gI σ1 94 13 = nI 0 := (c3.1 94 13 (by unfold FH; omega)).trans r0.1
  have as1 : gI σ1 94 33 = mE 9 := (c3.1 94 33 (by unfold FH; omega)).trans r0.2
  obtain ⟨σ2, m1, m2, m3, m4⟩ := md_go n hn n 0 (q, g) σ1 FU (by omega) (FU_lt (by omega)) ok at1 as1 (MH_fr M fun k i c => c3.1 k i (by unfold FH; omega)) (LM_fr G fun k i c => c3.1 k i (by unfold FH; omega))
  rw [Nat.zero_add] at c1 m1
  refine ⟨nI (ticksR n (q, g)).1, σ1, σ2, (ticksR n (q, g)).2.1, ?_, ?_, ticks_ok n _ ok, ?_, m2, ?_, R1_frg r1 (Fr_tr (Fr_mono c3 fun k i c => ?_) (Fr_mono m4 fun k i c => ?_)) ⟨_, m3⟩⟩
  · have c1 : f_X2_goTicks_IN 1 (nI n) σ = some (nI (ticksR n (q, g)).1, σ1) := c1
    simp (disch := omega) only [f_X9_ticks, nI_lit, nI_addE, nI_mulE, nI_ltE, nI_leE, nI_eqE, nI_eqN, nI_Neq, nI_ltN, nI_Nlt, nI_leN, nI_Nle, nI_NeN, nI_subE, bd1_s, bd2_s, onrN, onrS, grd_t, grd_T, gI_eq, gI_ne, gL_pI, gI_pL, ltT, ltF, leT, leF, eqT, eqF, if_true, if_false, true_or, or_true, ite_true, ite_false, and_true, true_and, and_false, false_and, not_false_eq_true, not_true_eq_false, ↓reduceIte, in_eq, Nat.reduceAdd, Nat.reduceMul, Nat.zero_add, cE_f, cE_t, mE_f, mE_t, within_ok, ne_eq, c1]
  · simp (disch := omega) only [f_X10_ticks, nI_lit, nI_addE, nI_mulE, nI_ltE, nI_leE, nI_eqE, nI_eqN, nI_Neq, nI_ltN, nI_Nlt, nI_leN, nI_Nle, nI_NeN, nI_subE, bd1_s, bd2_s, onrN, onrS, grd_t, grd_T, gI_eq, gI_ne, gL_pI, gI_pL, ltT, ltF, leT, leF, eqT, eqF, if_true, if_false, true_or, or_true, ite_true, ite_false, and_true, true_and, and_false, false_and, not_false_eq_true, not_true_eq_false, ↓reduceIte, in_eq, Nat.reduceAdd, Nat.reduceMul, Nat.zero_add, cE_f, cE_t, mE_f, mE_t, within_ok, ne_eq]
    exact m1
  · exact CH_fr (ticks_ok n _ ok) c2 fun k i h1 h2 => m4.1 k i (by unfold FN FM; omega)
  · exact ⟨(m4.1 94 13 (by unfold FN FM; omega)).trans at1, (m4.1 94 33 (by unfold FN FM; omega)).trans as1⟩
  · unfold FH at c; unfold WG WH; omega
  · unfold FN FM at c; unfold WG WH; omega
end
