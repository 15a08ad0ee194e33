def frR (q : HQ) : Nat → Nat → Nat × (Nat → Nat) → Nat × (Nat → Nat)
  | 0, _, x => x
  | d + 1, i, x => frR q d (i + 1) (if q.sold i = 0 then (x.1 + 1, fun j => if j = x.1 then i else x.2 j) else x)
def frS (q : HQ) : Nat × (Nat → Nat) := frR q q.n 0 (0, fun _ => 0)
def ordA (q : HQ) (k j : Nat) : Nat := (frS q).2 (pmF (frS q).1 k j)
def totP (q : HQ) (k : Nat) : Nat := (playN q (ordA q k) (frS q).1).2
def bstP (q : HQ) : Nat × Nat := bestG (totP q) (fac (frS q).1 - 1) 1 (0, totP q 0)
def FB (k i : Nat) : Prop := FT k i ∨ k = 114 ∨ k = 115 ∨ k = 116 ∨ (k = 94 ∧ (i = 42 ∨ i = 43))
section
variable {q : HQ} {σ : Mem} {h o b v l s : Nat}
theorem frR_ok : ∀ (d i : Nat) (x : Nat × (Nat → Nat)), x.1 ≤ i → (∀ j, j < x.1 → x.2 j < i) → (∀ j k, j < k → k < x.1 → x.2 j < x.2 k) → (frR q d i x).1 ≤ i + d ∧ (∀ j, j < (frR q d i x).1 → (frR q d i x).2 j < i + d) ∧ (∀ j k, j < k → k < (frR q d i x).1 → (frR q d i x).2 j < (frR q d i x).2 k) := by
  intro d
  induction d with
  | zero => intro i x h1 h2 h3; exact ⟨h1, h2, h3⟩
  | succ d ih =>
    intro i x h1 h2 h3
    have e : i + (d + 1) = i + 1 + d := by omega
    rw [e]
    unfold frR
    by_cases z : q.sold i = 0
    · rw [if_pos z]
      refine ih (i + 1) _ ?_ (fun j hj => ?_) (fun j k h4 h5 => ?_)
      · show x.1 + 1 ≤ i + 1; omega
      · have hj : j < x.1 + 1 := hj
        show (if j = x.1 then i else x.2 j) < i + 1
        by_cases g : j = x.1
        · rw [if_pos g]; omega
        · rw [if_neg g]; have := h2 j (by omega); omega
      · have h5 : k < x.1 + 1 := h5
        show (if j = x.1 then i else x.2 j) < (if k = x.1 then i else x.2 k)
        rw [if_neg (by omega : ¬ j = x.1)]
        by_cases g : k = x.1
        · rw [if_pos g]; exact h2 j (by omega)
        · rw [if_neg g]; exact h3 j k h4 (by omega)
    · rw [if_neg z]
      exact ih (i + 1) x (by omega) (fun j hj => by have := h2 j hj; omega) h3
theorem frS_ok (q : HQ) : (frS q).1 ≤ q.n ∧ (∀ j, j < (frS q).1 → (frS q).2 j < q.n) ∧ (∀ j k, j < k → k < (frS q).1 → (frS q).2 j < (frS q).2 k) := by
  have := frR_ok (q := q) q.n 0 (0, fun _ => 0) (Nat.le_refl 0) (fun j hj => absurd hj (Nat.not_lt_zero j)) (fun j k _ hk => absurd hk (Nat.not_lt_zero k))
  rw [Nat.zero_add] at this
  exact this
theorem chk_q (ok : q.Okl) {k : Nat} (hk : k < fac (frS q).1) : chk (frS q).1 k = true ∧ k < 120 := by
  have h := (frS_ok q).1
  have hn := ok.1
  have f := fac_le (frS q).1 (by omega)
  refine ⟨?_, by omega⟩
  by_cases z : (frS q).1 = 0
  · rw [z] at hk ⊢
    have : fac 0 = 1 := by decide
    have : k = 0 := by omega
    subst this
    decide
  · exact chk_all _ (by omega) k (by omega) ⟨by omega, hk⟩
theorem ordA_lt (ok : q.Okl) {k : Nat} (hk : k < fac (frS q).1) : ∀ j, j < (frS q).1 → ordA q k j < q.n := fun j hj => (frS_ok q).2.1 _ ((chk_p (chk_q ok hk).1).2.1 j hj)
theorem md_free (hn : q.n ≤ 5) (hol : q.Okl) (m0 : gI σ 94 0 = nI q.n) (ml : MHl q σ) : ∀ (d i : Nat) (x : Nat × (Nat → Nat)) (σ1 : Mem) (fuel : Nat), i + d = q.n → d < fuel → x.1 ≤ i → Fr (fun k j => k = 114 ∨ (k = 94 ∧ j = 42)) σ σ1 → gI σ1 94 42 = nI x.1 → (∀ j, j < x.1 → gI σ1 114 j = nI (x.2 j)) → ∃ σ2, iterF (F_X10_findBest_7 94) (fun _ _ => none) fuel (nI i) σ1 = iterF (F_X10_findBest_54 94) (fun _ _ _ => none) FU (nI 1) (nI 2) σ2 ∧ Fr (fun k j => k = 114 ∨ (k = 94 ∧ j = 42)) σ σ2 ∧ gI σ2 94 42 = nI (frR q d i x).1 ∧ (∀ j, j < (frR q d i x).1 → gI σ2 114 j = nI ((frR q d i x).2 j)) := by
  intro d
  induction d with
  | zero =>
    intro i x σ1 fuel hi hf hx F e1 e2
    obtain ⟨f, rfl⟩ : ∃ f, fuel = f + 1 := ⟨fuel - 1, by omega⟩
    refine ⟨σ1, ?_, F, e1, e2⟩
    have y : gI σ1 94 0 = nI q.n := (F.1 _ _ (by omega)).trans m0
    show F_X10_findBest_7 94 _ _ _ = _
    unfold F_X10_findBest_7
    rw [y, if_pos (by rw [nI_leE (by omega) (by omega)]; omega)]
    rfl
  | succ d ih =>
    intro i x σ1 fuel hi hf hx F e1 e2
    obtain ⟨f, rfl⟩ : ∃ f, fuel = f + 1 := ⟨fuel - 1, by omega⟩
    have y : gI σ1 94 0 = nI q.n := (F.1 _ _ (by omega)).trans m0
    have w : gI σ1 97 i = nI (q.sold i) := (F.1 _ _ (by omega)).trans (ml i (by omega)).2.2.1
    have so := (hol.2 i (by omega)).2.2.1
    unfold frR
    by_cases z : q.sold i = 0
    · rw [if_pos z]
      obtain ⟨σ2, r⟩ := ih (i + 1) (x.1 + 1, fun j => if j = x.1 then i else x.2 j) (pI (pI σ1 114 x.1 (nI i)) 94 42 (nI (x.1 + 1))) f (by omega) (by omega) (by show x.1 + 1 ≤ i + 1; omega) (Fr_pI _ (Fr_pI _ F (.inl rfl)) (.inr ⟨rfl, rfl⟩)) (gI_eq _ _ ⟨rfl, rfl⟩) (fun j hj => by
        have hj : j < x.1 + 1 := hj
        show _ = nI (if j = x.1 then i else x.2 j)
        rw [gI_ne _ _ (by omega)]
        by_cases g : j = x.1
        · rw [if_pos g]; exact gI_eq _ _ ⟨rfl, g⟩
        · rw [if_neg g, gI_ne _ _ (by omega)]; exact e2 j (by omega))
      refine ⟨σ2, Eq.trans ?_ r.1, r.2⟩
      show F_X10_findBest_7 94 _ _ _ = _
      generalize iterF (F_X10_findBest_7 94) (fun _ _ => none) f = R
      simp (disch := omega) only [F_X10_findBest_7, nI_lit, nI_addE, nI_mulE, nI_ltE, nI_leE, nI_eqE, nI_eqN, nI_Neq, nI_ltN, nI_Nlt, nI_leN, nI_Nle, nI_NeN, nI_subE, bd1_s, bd2_s, onrN, onrS, grd_t, grd_T, gI_eq, gI_ne, gL_pI, gI_pL, ltT, ltF, leT, leF, eqT, eqF, if_true, if_false, true_or, or_true, ite_true, ite_false, and_true, true_and, and_false, false_and, not_false_eq_true, not_true_eq_false, ↓reduceIte, in_eq, Nat.reduceAdd, Nat.reduceMul, Nat.zero_add, cE_f, cE_t, mE_f, mE_t, within_ok, ne_eq, y, w, ixo_95, ixo_96, ixo_97, ixo_98, ixo_99, ixo_100, ixo_101, ixo_102, ixo_103, ixo_104, ixo_105, ixo_106, ixo_107, ixo_108, ixo_109, ixo_110, ixo_111, ixo_112, ixo_113, ixo_114, ixo_115, ixo_116, ixo_117, ixo_118, ixo_119, ixo_120, ixo_121, ixo_122, ixo_123, ixo_124, ixo_125, ixo_126, e1]
    · rw [if_neg z]
      obtain ⟨σ2, r⟩ := ih (i + 1) x σ1 f (by omega) (by omega) (by omega) F e1 e2
      refine ⟨σ2, Eq.trans ?_ r.1, r.2⟩
      show F_X10_findBest_7 94 _ _ _ = _
      generalize iterF (F_X10_findBest_7 94) (fun _ _ => none) f = R
      simp (disch := omega) only [F_X10_findBest_7, nI_lit, nI_addE, nI_mulE, nI_ltE, nI_leE, nI_eqE, nI_eqN, nI_Neq, nI_ltN, nI_Nlt, nI_leN, nI_Nle, nI_NeN, nI_subE, bd1_s, bd2_s, onrN, onrS, grd_t, grd_T, gI_eq, gI_ne, gL_pI, gI_pL, ltT, ltF, leT, leF, eqT, eqF, if_true, if_false, true_or, or_true, ite_true, ite_false, and_true, true_and, and_false, false_and, not_false_eq_true, not_true_eq_false, ↓reduceIte, in_eq, Nat.reduceAdd, Nat.reduceMul, Nat.zero_add, cE_f, cE_t, mE_f, mE_t, within_ok, ne_eq, y, w, ixo_95, ixo_96, ixo_97, ixo_98, ixo_99, ixo_100, ixo_101, ixo_102, ixo_103, ixo_104, ixo_105, ixo_106, ixo_107, ixo_108, ixo_109, ixo_110, ixo_111, ixo_112, ixo_113, ixo_114, ixo_115, ixo_116, ixo_117, ixo_118, ixo_119, ixo_120, ixo_121, ixo_122, ixo_123, ixo_124, ixo_125, ixo_126]
theorem md_sumI {N : Nat} {B : Nat → Nat} (ok : q.Okx) (hN : N ≤ 5) (hB : ∀ j, j < N → B j < q.n) : ∀ (d i : Nat) (y : HQ) (g : Lg) (σ1 : Mem) (fuel : Nat), i + d = N → d < fuel → Stg q (playN q B i).1 y → S18 q y → y.Okx → MH 11 y σ1 → LM g σ1 → gI σ1 94 13 = nI 11 → gI σ1 94 33 = mE 9 → gI σ1 94 42 = nI N → (∀ j, j < N → gI σ1 115 j = nI (B j)) → ∃ σ2, iterF (F_X10_sumOf_8 94) (fun _ _ _ => none) fuel (nI (playN q B i).2) (nI i) σ1 = some (nI (playN q B N).2, pI σ2 94 13 (nI 0)) ∧ RG σ2 ∧ Fr (FM 11) σ1 σ2 := by
  intro d
  induction d with
  | zero =>
    intro i y g σ1 fuel hi hf hS h18 oky M G at' as' e42 e115
    obtain ⟨f, rfl⟩ : ∃ f, fuel = f + 1 := ⟨fuel - 1, by omega⟩
    have : i = N := by omega
    subst this
    refine ⟨σ1, ?_, ⟨g, G⟩, Fr_rfl _ _⟩
    show F_X10_sumOf_8 94 _ _ _ _ = _
    unfold F_X10_sumOf_8
    rw [e42, if_pos (by rw [nI_leE (by omega) (by omega)]; omega), bd1_s]
    rfl
  | succ d ih =>
    intro i y g σ1 fuel hi hf hS h18 oky M G at' as' e42 e115
    obtain ⟨f, rfl⟩ : ∃ f, fuel = f + 1 := ⟨fuel - 1, by omega⟩
    have hn := ok.1.1
    have yn : y.n = q.n := hS.1 0 0 (by omega) (by omega) (by omega)
    have hl : B i < y.n := by rw [yn]; exact hB i (by omega)
    have hl5 := hB i (by omega)
    obtain ⟨σ2, b1, b2, b3, b4⟩ := md_burnsOut (s := 9) (by omega) oky hl at' as' M G
    have RT := run_tick 9 60 (lits y (B i), g) (lits_liv oky hl) (by
      have := (oky.1.2 (B i) hl).1.2
      show y.wax (B i) ≤ 60 + 0
      omega)
    obtain ⟨p1, p2, p3, p4⟩ := nx_pay hS h18 (B i) g
    have okz := RT.1
    have zm := RT.2.2.2.2.2.2
    generalize (runR 9 60 (lits y (B i), g)).1 = tk at *
    generalize (runR 9 60 (lits y (B i), g)).2.1 = z at *
    generalize (runR 9 60 (lits y (B i), g)).2.2 = gz at *
    have at2 : gI σ2 94 13 = nI 11 := (b4.1 _ _ (by unfold FM; omega)).trans at'
    obtain ⟨σ3, c1, c2, c3⟩ := md_pay (Nat.le_refl 11) okz at2 b2
    have n3 := b2.2.1.2.2.2.1
    have n4 := b2.2.1.2.2.2.2.1
    have hd := okz.2.2.2.2.2
    have hg := okz.2.2.2.2.1
    have zm6 := okz.2.1.1
    have F3 : Fr (FM 11) σ1 σ3 := Fr_tr b4 (Fr_mono c3 fun k j c => .inl ⟨c.1, by omega⟩)
    have g0 : ∀ k j, ¬ FM 11 k j → gI σ3 k j = gI σ1 k j := F3.1
    have BL := playN_le (A := B) ok i (fun j hj => hB j (by omega))
    obtain ⟨σ4, r1, r2, r3⟩ := ih (i + 1) (payq z) gz σ3 f (by omega) (by omega) p1 p2 (payq_ok okz) c2 (LM_fr b3 fun k j c => c3.1 k j (by omega)) ((g0 _ _ (by unfold FM; omega)).trans at') ((g0 _ _ (by unfold FM; omega)).trans as') ((g0 _ _ (by unfold FM; omega)).trans e42) (fun j hj => (g0 _ _ (by unfold FM; omega)).trans (e115 j hj))
    refine ⟨σ4, Eq.trans ?_ r1, r2, Fr_tr F3 r3⟩
    show F_X10_sumOf_8 94 _ _ _ _ = _
    generalize iterF (F_X10_sumOf_8 94) (fun _ _ _ => none) f = R
    have i1 : ixo 115 (nI i) = some i := ixo_115 (by omega)
    have e5 := e115 i (by omega)
    have ep : (playN q B (i + 1)).2 = (playN q B i).2 + z.high := by rw [p3]; rfl
    rw [ep]
    by_cases e : z.holder = 9
    · have h0 : z.high = 0 := by omega
      rw [h0]
      simp (disch := omega) only [F_X10_sumOf_8, f_X10_its, nI_lit, nI_addE, nI_mulE, nI_ltE, nI_leE, nI_eqE, nI_eqN, nI_Neq, nI_ltN, nI_Nlt, nI_leN, nI_Nle, nI_NeN, nI_subE, bd1_s, bd2_s, onrN, onrS, grd_t, grd_T, gI_eq, gI_ne, gL_pI, gI_pL, ltT, ltF, leT, leF, eqT, eqF, if_true, if_false, true_or, or_true, ite_true, ite_false, and_true, true_and, and_false, false_and, not_false_eq_true, not_true_eq_false, ↓reduceIte, in_eq, Nat.reduceAdd, Nat.reduceMul, Nat.zero_add, cE_f, cE_t, mE_f, mE_t, within_ok, ne_eq, ixo_95, ixo_96, ixo_97, ixo_98, ixo_99, ixo_100, ixo_101, ixo_102, ixo_103, ixo_104, ixo_105, ixo_106, ixo_107, ixo_108, ixo_109, ixo_110, ixo_111, ixo_112, ixo_113, ixo_114, ixo_115, ixo_116, ixo_117, ixo_118, ixo_119, ixo_120, ixo_121, ixo_122, ixo_123, ixo_124, ixo_125, ixo_126, e42, e5, b1, at2, n4, c1, Nat.add_zero]
    · simp (disch := omega) only [F_X10_sumOf_8, f_X10_its, nI_lit, nI_addE, nI_mulE, nI_ltE, nI_leE, nI_eqE, nI_eqN, nI_Neq, nI_ltN, nI_Nlt, nI_leN, nI_Nle, nI_NeN, nI_subE, bd1_s, bd2_s, onrN, onrS, grd_t, grd_T, gI_eq, gI_ne, gL_pI, gI_pL, ltT, ltF, leT, leF, eqT, eqF, if_true, if_false, true_or, or_true, ite_true, ite_false, and_true, true_and, and_false, false_and, not_false_eq_true, not_true_eq_false, ↓reduceIte, in_eq, Nat.reduceAdd, Nat.reduceMul, Nat.zero_add, cE_f, cE_t, mE_f, mE_t, within_ok, ne_eq, ixo_95, ixo_96, ixo_97, ixo_98, ixo_99, ixo_100, ixo_101, ixo_102, ixo_103, ixo_104, ixo_105, ixo_106, ixo_107, ixo_108, ixo_109, ixo_110, ixo_111, ixo_112, ixo_113, ixo_114, ixo_115, ixo_116, ixo_117, ixo_118, ixo_119, ixo_120, ixo_121, ixo_122, ixo_123, ixo_124, ixo_125, ixo_126, e42, e5, b1, at2, n4, n3, c1]
theorem md_sum {N : Nat} {B : Nat → Nat} (ok : q.Okx) (hN : N ≤ 5) (hB : ∀ j, j < N → B j < q.n) (M : MH 0 q σ) (G : RG σ) (as' : gI σ 94 33 = mE 9) (e42 : gI σ 94 42 = nI N) (e115 : ∀ j, j < N → gI σ 115 j = nI (B j)) : ∃ σ', f_X10_sumOf 94 σ = some (nI (playN q B N).2, σ') ∧ MH 0 q σ' ∧ gI σ' 94 13 = nI 0 ∧ RG σ' ∧ Fr FT σ σ' := by
  have hm := ok.2.1.1
  obtain ⟨g, G⟩ := G
  obtain ⟨σ1, a1, a2, a3, a4, a5⟩ := md_lends hm M
  obtain ⟨σ2, b1, b2, b3⟩ := md_sumI ok hN hB N 0 q g σ1 FU (by omega) (FU_lt (by omega)) ⟨fun _ _ _ _ _ => rfl, rfl, fun _ => rfl⟩ (fun _ _ => rfl) ok a2 (LM_fr G fun k j c => a5.1 k j (by omega)) a4 ((a5.1 _ _ (by omega)).trans as') ((a5.1 _ _ (by omega)).trans e42) (fun j hj => (a5.1 _ _ (by omega)).trans (e115 j hj))
  have F : Fr FT σ (pI σ2 94 13 (nI 0)) := Fr_pI _ (Fr_tr (Fr_mono a5 fun k i c => by unfold FT; omega) (Fr_mono b3 fun k i c => by unfold FM at c; unfold FT; omega)) (by unfold FT; omega)
  refine ⟨pI σ2 94 13 (nI 0), ?_, ?_, gI_eq _ _ ⟨rfl, rfl⟩, RG_fr b2 fun k i c => gI_ne _ _ (by omega), F⟩
  · unfold f_X10_sumOf
    rw [a1, bd1_s]
    exact b1
  · obtain ⟨ms, ⟨n0, n1, n2, n3, n4, n5⟩, md, ml, mb⟩ := M
    have g0 : ∀ k i, ¬ FT k i → gI (pI σ2 94 13 (nI 0)) k i = gI σ k i := F.1
    exact ⟨MHs_c ms ⟨rfl, rfl, rfl, rfl⟩ ⟨g0 _ _ (by unfold FT; omega), g0 _ _ (by unfold FT; omega), g0 _ _ (by unfold FT; omega), g0 _ _ (by unfold FT; omega)⟩, ⟨(g0 _ _ (by unfold FT; omega)).trans n0, (g0 _ _ (by unfold FT; omega)).trans n1, (g0 _ _ (by unfold FT; omega)).trans n2, (g0 _ _ (by unfold FT; omega)).trans n3, (g0 _ _ (by unfold FT; omega)).trans n4, fun b hb => (g0 _ _ (by unfold FT; omega)).trans (n5 b hb)⟩, MHd_c md (fun _ => rfl) (fun i => g0 _ _ (by unfold FT; omega)), MHl_c ml rfl (fun _ => ⟨rfl, rfl, rfl, rfl, rfl⟩) (fun k i _ _ => g0 _ _ (by unfold FT; omega)), MHb_c mb rfl (fun _ => ⟨rfl, rfl, rfl⟩) (fun k i _ _ => g0 _ _ (by unfold FT; omega))⟩
theorem md_cpy {N k : Nat} {p1 : Int32} {R : Int32 → Mem → Option Mem} (hN : N ≤ 5) (e42 : gI σ 94 42 = nI N) : ∀ (d i : Nat) (σ1 : Mem) (fuel : Nat), i + d = N → d < fuel → Fr (fun k _ => k = 116) σ σ1 → (∀ j, j < i → gI σ1 116 j = gI σ 115 j) → ∃ σ2, iterF (F_X10_findBest_110 94 p1 (nI k) R) (fun _ _ => none) fuel (nI i) σ1 = R (nI (k + 1)) σ2 ∧ Fr (fun k _ => k = 116) σ σ2 ∧ (∀ j, j < N → gI σ2 116 j = gI σ 115 j) := by
  intro d
  induction d with
  | zero =>
    intro i σ1 fuel hi hf F E
    obtain ⟨f, rfl⟩ : ∃ f, fuel = f + 1 := ⟨fuel - 1, by omega⟩
    have : i = N := by omega
    subst this
    refine ⟨σ1, ?_, F, E⟩
    have y : gI σ1 94 42 = nI i := (F.1 _ _ (by omega)).trans e42
    show F_X10_findBest_110 94 _ _ _ _ _ _ = _
    unfold F_X10_findBest_110
    rw [y, if_pos (by rw [nI_leE (by omega) (by omega)]; omega), nI_lit 1, nI_addE]
  | succ d ih =>
    intro i σ1 fuel hi hf F E
    obtain ⟨f, rfl⟩ : ∃ f, fuel = f + 1 := ⟨fuel - 1, by omega⟩
    have y : gI σ1 94 42 = nI N := (F.1 _ _ (by omega)).trans e42
    have w : gI σ1 115 i = gI σ 115 i := F.1 _ _ (by omega)
    obtain ⟨σ2, r⟩ := ih (i + 1) (pI σ1 116 i (gI σ 115 i)) f (by omega) (by omega) (Fr_pI _ F rfl) (fun j hj => by
      by_cases g : j = i
      · rw [g]; exact gI_eq _ _ ⟨rfl, rfl⟩
      · rw [gI_ne _ _ (by omega)]; exact E j (by omega))
    refine ⟨σ2, Eq.trans ?_ r.1, r.2⟩
    show F_X10_findBest_110 94 _ _ _ _ _ _ = _
    generalize iterF (F_X10_findBest_110 94 p1 (nI k) R) (fun _ _ => none) f = R2
    have i1 : ixo 115 (nI i) = some i := ixo_115 (by omega)
    have i2 : ixo 116 (nI i) = some i := ixo_116 (by omega)
    simp (disch := omega) only [F_X10_findBest_110, nI_lit, nI_addE, nI_mulE, nI_ltE, nI_leE, nI_eqE, nI_eqN, nI_Neq, nI_ltN, nI_Nlt, nI_leN, nI_Nle, nI_NeN, nI_subE, bd1_s, bd2_s, onrN, onrS, grd_t, grd_T, gI_eq, gI_ne, gL_pI, gI_pL, ltT, ltF, leT, leF, eqT, eqF, if_true, if_false, true_or, or_true, ite_true, ite_false, and_true, true_and, and_false, false_and, not_false_eq_true, not_true_eq_false, ↓reduceIte, in_eq, Nat.reduceAdd, Nat.reduceMul, Nat.zero_add, cE_f, cE_t, mE_f, mE_t, within_ok, ne_eq, y, i1, i2, w]
/-- one order -/
theorem md_one (ok : q.Okx) {k : Nat} (hk : k < fac (frS q).1) (M : MH 0 q σ) (G : RG σ) (as' : gI σ 94 33 = mE 9) (e42 : gI σ 94 42 = nI (frS q).1) (e114 : ∀ j, j < (frS q).1 → gI σ 114 j = nI ((frS q).2 j)) : ∃ σ1 σ2, f_X10_findOrder 94 (nI k) σ = some σ1 ∧ f_X10_sumOf 94 σ1 = some (nI (totP q k), σ2) ∧ MH 0 q σ2 ∧ gI σ2 94 13 = nI 0 ∧ RG σ2 ∧ (∀ j, j < (frS q).1 → gI σ2 115 j = nI (ordA q k j)) ∧ Fr (fun k i => FT k i ∨ k = 115) σ σ2 := by
  have hn := ok.1.1
  have hN := (frS_ok q).1
  obtain ⟨c1, c2⟩ := chk_q ok.1 hk
  obtain ⟨σ1, a1, a2, a3⟩ := md_find (F := (frS q).2) (by omega) c2 c1 e42 e114
  have M1 : MH 0 q σ1 := MH_fr M fun k i c => a3.1 k i (by omega)
  obtain ⟨σ2, b1, b2, b3, b4, b5⟩ := md_sum (B := ordA q k) ok (by omega) (ordA_lt ok.1 hk) M1 (RG_fr G fun k i c => a3.1 k i (by omega)) ((a3.1 _ _ (by omega)).trans as') ((a3.1 _ _ (by omega)).trans e42) a2
  exact ⟨σ1, σ2, a1, b1, b2, b3, b4, fun j hj => (b5.1 _ _ (by unfold FT; omega)).trans (a2 j hj), Fr_tr (Fr_mono a3 fun k i c => .inr c) (Fr_mono b5 fun k i c => .inl c)⟩
theorem totP_le (ok : q.Okx) {k : Nat} (hk : k < fac (frS q).1) : totP q k ≤ 49995 := by
  have hn := ok.1.1
  have hN := (frS_ok q).1
  have := (playN_le (A := ordA q k) ok (frS q).1 (ordA_lt ok.1 hk)).2
  unfold totP
  omega
theorem md_orders (ok : q.Okx) : ∀ (d k : Nat) (x : Nat × Nat) (σ : Mem) (fuel : Nat), k + d = fac (frS q).1 → 1 ≤ k → d < fuel → MH 0 q σ → RG σ → gI σ 94 33 = mE 9 → gI σ 94 13 = nI 0 → gI σ 94 42 = nI (frS q).1 → (∀ j, j < (frS q).1 → gI σ 114 j = nI ((frS q).2 j)) → x.2 ≤ 49995 → gI σ 94 43 = nI x.2 → (∀ j, j < (frS q).1 → gI σ 116 j = nI (ordA q x.1 j)) → ∃ σ', iterF (F_X10_findBest_79 94 (nI (fac (frS q).1))) (fun _ _ => none) fuel (nI k) σ = some σ' ∧ MH 0 q σ' ∧ RG σ' ∧ gI σ' 94 33 = mE 9 ∧ gI σ' 94 13 = nI 0 ∧ gI σ' 94 42 = nI (frS q).1 ∧ gI σ' 94 43 = nI (bestG (totP q) d k x).2 ∧ (∀ j, j < (frS q).1 → gI σ' 116 j = nI (ordA q (bestG (totP q) d k x).1 j)) ∧ Fr FB σ σ' := by
  have hn := ok.1.1
  have hN := (frS_ok q).1
  have f120 := fac_le (frS q).1 (by omega)
  intro d
  induction d with
  | zero =>
    intro k x σ fuel hi h1 hf M G as' at' e42 e114 hx e43 e116
    obtain ⟨f, rfl⟩ : ∃ f, fuel = f + 1 := ⟨fuel - 1, by omega⟩
    refine ⟨σ, ?_, M, G, as', at', e42, e43, e116, Fr_rfl _ _⟩
    show F_X10_findBest_79 94 _ _ _ _ = _
    unfold F_X10_findBest_79
    rw [if_pos (by rw [nI_leE (by omega) (by omega)]; omega)]
  | succ d ih =>
    intro k x σ fuel hi h1 hf M G as' at' e42 e114 hx e43 e116
    obtain ⟨f, rfl⟩ : ∃ f, fuel = f + 1 := ⟨fuel - 1, by omega⟩
    have hk : k < fac (frS q).1 := by omega
    obtain ⟨σ1, σ2, a1, a2, a3, a4, a5, a6, a7⟩ := md_one ok hk M G as' e42 e114
    have tl := totP_le ok hk
    have g0 : ∀ c j, ¬ (FT c j ∨ c = 115) → gI σ2 c j = gI σ c j := a7.1
    have y43 : gI σ2 94 43 = nI x.2 := (g0 _ _ (by unfold FT; omega)).trans e43
    have y42 : gI σ2 94 42 = nI (frS q).1 := (g0 _ _ (by unfold FT; omega)).trans e42
    have st : ∀ R, F_X10_findBest_79 94 (nI (fac (frS q).1)) R (nI k) σ = if nI (totP q k) ≤ nI x.2 then R (nI (k + 1)) σ2 else iterF (F_X10_findBest_110 94 (nI (fac (frS q).1)) (nI k) R) (fun _ _ => none) FU (nI 0) (pI σ2 94 43 (nI (totP q k))) := fun R => by
      unfold F_X10_findBest_79
      rw [if_neg (by rw [nI_leE (by omega) (by omega)]; omega), a1, bd1_s, a2, bd2_s, y43, bd1_s, nI_lit 1, nI_addE]
      rfl
    show ∃ σ', F_X10_findBest_79 94 (nI (fac (frS q).1)) (iterF (F_X10_findBest_79 94 (nI (fac (frS q).1))) (fun _ _ => none) f) (nI k) σ = some σ' ∧ _
    rw [st]
    unfold bestG
    have as2 : gI σ2 94 33 = mE 9 := (g0 _ _ (by unfold FT; omega)).trans as'
    by_cases z : x.2 < totP q k
    · rw [if_pos z, if_neg (by rw [nI_leE (by omega) (by omega)]; omega)]
      obtain ⟨σ3, c1, c2, c3⟩ := md_cpy (σ := pI σ2 94 43 (nI (totP q k))) (k := k) (p1 := nI (fac (frS q).1)) (R := iterF (F_X10_findBest_79 94 (nI (fac (frS q).1))) (fun _ _ => none) f) (by omega : (frS q).1 ≤ 5) ((gI_ne _ _ (by omega)).trans y42) (frS q).1 0 (pI σ2 94 43 (nI (totP q k))) FU (by omega) (FU_lt (by omega)) (Fr_rfl _ _) (fun j hj => absurd hj (Nat.not_lt_zero j))
      have g3 : ∀ c j, c ≠ 116 → ¬ (c = 94 ∧ j = 43) → gI σ3 c j = gI σ2 c j := fun c j h1 h2 => (c2.1 c j h1).trans (gI_ne _ _ h2)
      obtain ⟨σ4, r1, r2, r3, r4, r5, r6, r7, r8, r9⟩ := ih (k + 1) (k, totP q k) σ3 f (by omega) (by omega) (by omega) (MH_fr a3 fun k i c => g3 k i (by omega) (by omega)) (RG_fr a5 fun k i c => g3 k i (by omega) (by omega)) ((g3 _ _ (by omega) (by omega)).trans as2) ((g3 _ _ (by omega) (by omega)).trans a4) ((g3 _ _ (by omega) (by omega)).trans y42) (fun j hj => ((g3 _ _ (by omega) (by omega)).trans (g0 _ _ (by unfold FT; omega))).trans (e114 j hj)) tl ((c2.1 _ _ (by omega)).trans (gI_eq _ _ ⟨rfl, rfl⟩)) (fun j hj => ((c3 j hj).trans (gI_ne _ _ (by omega))).trans (a6 j hj))
      refine ⟨σ4, c1.trans r1, r2, r3, r4, r5, r6, r7, r8, Fr_tr (Fr_mono a7 fun k i c => c.elim .inl fun e => .inr (.inr (.inl e))) (Fr_tr (Fr_tr (Fr_pI _ (Fr_rfl _ _) (by unfold FB; omega)) (Fr_mono c2 fun k i c => by unfold FB; omega)) r9)⟩
    · rw [if_neg z, if_pos (by rw [nI_leE (by omega) (by omega)]; omega)]
      obtain ⟨σ4, r1, r2, r3, r4, r5, r6, r7, r8, r9⟩ := ih (k + 1) x σ2 f (by omega) (by omega) (by omega) a3 a5 as2 a4 y42 (fun j hj => (g0 _ _ (by unfold FT; omega)).trans (e114 j hj)) hx y43 (fun j hj => (g0 _ _ (by unfold FT; omega)).trans (e116 j hj))
      exact ⟨σ4, r1, r2, r3, r4, r5, r6, r7, r8, Fr_tr (Fr_mono a7 fun k i c => c.elim .inl fun e => .inr (.inr (.inl e))) r9⟩
theorem rows_loop {N : Nat} (hN : N ≤ 5) (e42 : gI σ 94 42 = nI N) : ∀ (d i o fuel : Nat), d = N + 1 - i → i ≤ 6 → d < fuel → iterF (F_X10_findBest_54 94) (fun _ _ _ => none) fuel (nI o) (nI i) σ = iterF (F_X10_findBest_79 94 (nI (fcR d i o))) (fun _ _ => none) FU (nI 0) (pI σ 94 43 (-nI 1)) := by
  intro d
  induction d with
  | zero =>
    intro i o fuel hi h6 hf
    obtain ⟨f, rfl⟩ : ∃ f, fuel = f + 1 := ⟨fuel - 1, by omega⟩
    show F_X10_findBest_54 94 _ _ _ _ = _
    unfold F_X10_findBest_54
    rw [e42, if_pos (by rw [nI_ltE (by omega) (by omega)]; omega), bd1_s]
    rfl
  | succ d ih =>
    intro i o fuel hi h6 hf
    obtain ⟨f, rfl⟩ : ∃ f, fuel = f + 1 := ⟨fuel - 1, by omega⟩
    refine Eq.trans ?_ (ih (i + 1) (o * i) f (by omega) (by omega) (by omega))
    show F_X10_findBest_54 94 _ _ _ _ = _
    unfold F_X10_findBest_54
    rw [e42, if_neg (by rw [nI_ltE (by omega) (by omega)]; omega), nI_mulE, nI_lit 1, nI_addE]
theorem md_best (ok : q.Okx) (M : MH 0 q σ) (G : RG σ) (as' : gI σ 94 33 = mE 9) (at' : gI σ 94 13 = nI 0) : ∃ σ', f_X10_findBest 94 σ = some σ' ∧ MH 0 q σ' ∧ RG σ' ∧ gI σ' 94 33 = mE 9 ∧ gI σ' 94 13 = nI 0 ∧ gI σ' 94 42 = nI (frS q).1 ∧ gI σ' 94 43 = nI (bstP q).2 ∧ (∀ j, j < (frS q).1 → gI σ' 116 j = nI (ordA q (bstP q).1 j)) ∧ Fr FB σ σ' := by
  have hn := ok.1.1
  have hN := (frS_ok q).1
  have f120 := fac_le (frS q).1 (by omega)
  obtain ⟨σ1, a1, a2, a3, a4⟩ := md_free (σ := σ) hn ok.1 M.1.1 M.2.2.2.1 q.n 0 (0, fun _ => 0) (pI σ 94 42 (nI 0)) FU (by omega) (FU_lt (by omega)) (Nat.le_refl 0) (Fr_pI _ (Fr_rfl _ _) (.inr ⟨rfl, rfl⟩)) (gI_eq _ _ ⟨rfl, rfl⟩) (fun j hj => absurd hj (Nat.not_lt_zero j))
  have a3 : gI σ1 94 42 = nI (frS q).1 := a3
  have a4 : ∀ j, j < (frS q).1 → gI σ1 114 j = nI ((frS q).2 j) := a4
  have L := rows_loop (σ := σ1) (by omega : (frS q).1 ≤ 5) a3 ((frS q).1 + 1 - 2) 2 1 FU rfl (by omega) (FU_lt (by omega))
  have ef : fcR ((frS q).1 + 1 - 2) 2 1 = fac (frS q).1 := rfl
  rw [ef] at L
  have M2 : MH 0 q (pI σ1 94 43 (-nI 1)) := MH_fr (MH_fr M fun k i c => a2.1 k i (by omega)) fun k i c => gI_ne _ _ (by omega)
  obtain ⟨σ2, σ3, b1, b2, b3, b4, b5, b6, b7⟩ := md_one ok (k := 0) (by omega) M2 (RG_fr (RG_fr G fun k i c => a2.1 k i (by omega)) fun k i c => gI_ne _ _ (by omega)) ((gI_ne _ _ (by omega)).trans ((a2.1 _ _ (by omega)).trans as')) ((gI_ne _ _ (by omega)).trans a3) (fun j hj => (gI_ne _ _ (by omega)).trans (a4 j hj))
  have tl := totP_le ok (k := 0) (by omega)
  have g0 : ∀ c j, ¬ (FT c j ∨ c = 115) → gI σ3 c j = gI (pI σ1 94 43 (-nI 1)) c j := b7.1
  have y43 : gI σ3 94 43 = -nI 1 := (g0 _ _ (by unfold FT; omega)).trans (gI_eq _ _ ⟨rfl, rfl⟩)
  have y42 : gI σ3 94 42 = nI (frS q).1 := (g0 _ _ (by unfold FT; omega)).trans ((gI_ne _ _ (by omega)).trans a3)
  have as3 : gI σ3 94 33 = mE 9 := (g0 _ _ (by unfold FT; omega)).trans ((gI_ne _ _ (by omega)).trans ((a2.1 _ _ (by omega)).trans as'))
  obtain ⟨σ4, c1, c2, c3⟩ := md_cpy (σ := pI σ3 94 43 (nI (totP q 0))) (k := 0) (p1 := nI (fac (frS q).1)) (R := iterF (F_X10_findBest_79 94 (nI (fac (frS q).1))) (fun _ _ => none) 999) (by omega : (frS q).1 ≤ 5) ((gI_ne _ _ (by omega)).trans y42) (frS q).1 0 (pI σ3 94 43 (nI (totP q 0))) FU (by omega) (FU_lt (by omega)) (Fr_rfl _ _) (fun j hj => absurd hj (Nat.not_lt_zero j))
  have g3 : ∀ c j, c ≠ 116 → ¬ (c = 94 ∧ j = 43) → gI σ4 c j = gI σ3 c j := fun c j h1 h2 => (c2.1 c j h1).trans (gI_ne _ _ h2)
  obtain ⟨σ5, r1, r2, r3, r4, r5, r6, r7, r8, r9⟩ := md_orders ok (fac (frS q).1 - 1) 1 (0, totP q 0) σ4 999 (by omega) (by omega) (by omega) (MH_fr b3 fun k i c => g3 k i (by omega) (by omega)) (RG_fr b5 fun k i c => g3 k i (by omega) (by omega)) ((g3 _ _ (by omega) (by omega)).trans as3) ((g3 _ _ (by omega) (by omega)).trans b4) ((g3 _ _ (by omega) (by omega)).trans y42) (fun j hj => ((g3 _ _ (by omega) (by omega)).trans (g0 _ _ (by unfold FT; omega))).trans ((gI_ne _ _ (by omega)).trans (a4 j hj))) tl ((c2.1 _ _ (by omega)).trans (gI_eq _ _ ⟨rfl, rfl⟩)) (fun j hj => ((c3 j hj).trans (gI_ne _ _ (by omega))).trans (b6 j hj))
  refine ⟨σ5, ?_, r2, r3, r4, r5, r6, r7, r8, ?_⟩
  · unfold f_X10_findBest
    rw [bd1_s]
    refine Eq.trans a1 (Eq.trans L ?_)
    show F_X10_findBest_79 94 (nI (fac (frS q).1)) (iterF (F_X10_findBest_79 94 (nI (fac (frS q).1))) (fun _ _ => none) 999) (nI 0) (pI σ1 94 43 (-nI 1)) = _
    refine Eq.trans ?_ (c1.trans r1)
    generalize iterF (F_X10_findBest_79 94 (nI (fac (frS q).1))) (fun _ _ => none) 999 = R
    unfold F_X10_findBest_79
    rw [if_neg (by rw [nI_leE (by omega) (by omega)]; omega), b1, bd1_s, b2, bd2_s, y43, if_neg (by rw [nI_leN (by omega) (by omega) (by omega)]; exact id), bd1_s]
    rfl
  · exact Fr_tr (Fr_mono a2 fun k i c => by unfold FB; omega) (Fr_tr (Fr_pI _ (Fr_rfl _ _) (by unfold FB; omega)) (Fr_tr (Fr_mono b7 fun k i c => c.elim .inl fun e => .inr (.inr (.inl e))) (Fr_tr (Fr_pI _ (Fr_rfl _ _) (by unfold FB; omega)) (Fr_tr (Fr_mono c2 fun k i c => by unfold FB; omega) r9))))
end
