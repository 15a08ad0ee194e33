/-! trials: on the stage (49), and on the second row -/
def lg0 : Lg := (0, fun _ => 0)
def run (q : HQ) (s l : Nat) : Nat × (HQ × Lg) := runR s 60 (lits q l, lg0)
theorem qs_comm (q : HQ) {f f' : Nat} (h : f ≠ f') (i v j w : Nat) : qs (qs q f i v) f' j w = qs (qs q f' j w) f i v := by
  unfold qs
  refine Prod.ext ?_ rfl
  funext g k
  show (if g = f' ∧ k = j then w else if g = f ∧ k = i then v else q.1 g k) = if g = f ∧ k = i then v else if g = f' ∧ k = j then w else q.1 g k
  by_cases e1 : g = f' ∧ k = j
  · rw [if_pos e1, if_neg (by omega), if_pos e1]
  · rw [if_neg e1]
    by_cases e2 : g = f ∧ k = i
    · rw [if_pos e2, if_pos e2]
    · rw [if_neg e2, if_neg e2, if_neg e1]
section
variable {q : HQ} {σ : Mem} {h o b v l s : Nat}
theorem run_tick (s : Nat) : ∀ (d : Nat) (x : HQ × Lg), Liv x.1 → x.1.wax x.1.lit ≤ d + x.1.burnt → (runR s d x).2.1.Okx ∧ outq (runR s d x).2.1 ∧ 1 ≤ (runR s d x).1 ∧ (runR s d x).1 ≤ d ∧ (runR s d x).2.1.lit = x.1.lit ∧ (runR s d x).2.1.n = x.1.n ∧ (runR s d x).2.1.m = x.1.m := by
  intro d
  induction d with
  | zero =>
    intro x L h
    have := L.1.2.2.2.2.2.2.1 L.2
    omega
  | succ d ih =>
    intro x L h
    have T := tick_same (s := s) L
    have X := tick_okx (s := s) L
    unfold runR
    split
    · exact ⟨X, by assumption, Nat.le_refl 1, by omega, T.2.2.1, T.1, T.2.1⟩
    · have V := tick_liv L (by assumption)
      have R := ih (tickq s x) V (by rw [T.2.2.2.1]; omega)
      obtain ⟨a1, a2, a3, a4, a5, a6, a7⟩ := R
      exact ⟨a1, a2, by show 1 ≤ _ + 1; omega, by show _ + 1 ≤ d + 1; omega, a5.trans T.2.2.1, a6.trans T.1, a7.trans T.2.1⟩
theorem lits_liv (ok : q.Okx) (hl : l < q.n) : Liv (lits q l) := ⟨lits_ok ok hl, hl⟩
theorem run_ok (ok : q.Okx) (hl : l < q.n) : (run q s l).2.1.Okx ∧ outq (run q s l).2.1 ∧ 1 ≤ (run q s l).1 ∧ (run q s l).1 ≤ 60 ∧ (run q s l).2.1.lit = l ∧ (run q s l).2.1.n = q.n ∧ (run q s l).2.1.m = q.m :=
  run_tick s 60 (lits q l, lg0) (lits_liv ok hl) (by
    have := (ok.1.2 l hl).1.2
    show q.wax l ≤ 60 + 0
    omega)
theorem ticks_run : ∀ (d : Nat) (x : HQ × Lg), Liv x.1 → x.1.wax x.1.lit ≤ d + x.1.burnt → ticksR d x = ((runR 9 d x).1, (sellq (runR 9 d x).2.1, (runR 9 d x).2.2)) := by
  intro d
  induction d with
  | zero =>
    intro x L h
    have := L.1.2.2.2.2.2.2.1 L.2
    omega
  | succ d ih =>
    intro x L h
    have T := tick_same (s := 9) L
    have hn := L.1.1.1
    have hL := L.2
    have ne : x.1.lit ≠ 9 := by omega
    unfold ticksR runR
    rw [if_neg ne]
    by_cases e : (tickq 9 x).1.wax (tickq 9 x).1.lit ≤ (tickq 9 x).1.burnt
    · rw [if_pos e]
      have ea : aft x 9 = (sellq (tickq 9 x).1, (tickq 9 x).2) := if_pos e
      rw [ea]
      have z : ticksR d (sellq (tickq 9 x).1, (tickq 9 x).2) = (0, (sellq (tickq 9 x).1, (tickq 9 x).2)) := by
        cases d with
        | zero => rfl
        | succ d => unfold ticksR; rw [if_pos (sell_f _).2.2.2.2.2]
      rw [z]
    · rw [if_neg e]
      have ea : aft x 9 = tickq 9 x := if_neg e
      have V := tick_liv L e
      rw [ea, ih (tickq 9 x) V (by rw [T.2.2.2.1]; omega)]
theorem lits_qs (q : HQ) {f : Nat} (h : f < 13) (i v l : Nat) : lits (qs q f i v) l = qs (lits q l) f i v := by
  unfold lits
  rw [qs_comm _ (by omega : (17 : Nat) ≠ f), qs_comm _ (by omega : (16 : Nat) ≠ f), qs_comm _ (by omega : (15 : Nat) ≠ f), qs_comm _ (by omega : (14 : Nat) ≠ f), qs_comm _ (by omega : (13 : Nat) ≠ f)]
theorem alight_fr (l : Nat) (σ : Mem) : Fr (FH 49) σ (alight 49 l σ) := by
  unfold alight
  repeat (refine Fr_pI _ ?_ (by unfold FH; omega))
  exact Fr_rfl _ _
/-- the stage as it stands, its candle lit: all its ticks -/
theorem cl_stageA (ok : q.Okx) (hl : l < q.n) (C1 : CH 49 (lits q l) σ) : ∃ σ', f_X2_goTicks_IN 49 (nI 60) σ = some (nI (run q 9 l).1, σ') ∧ CH 49 (sellq (run q 9 l).2.1) σ' ∧ Fr (FH 49) σ σ' := by
  have hn := ok.1.1
  have L := lits_liv ok hl
  obtain ⟨σ2, t1, t2, t3⟩ := cl_goN (.inr (.inr (.inr rfl))) 60 (by omega) 60 0 (lits q l, lg0) σ FU (by omega) (FU_lt (by omega)) L.1 C1
  have hw := (ok.1.2 l hl).1.2
  rw [ticks_run 60 _ L (by show q.wax l ≤ 60 + 0; omega)] at t1 t2
  rw [Nat.zero_add] at t1
  have t1 : f_X2_goTicks_IN 49 (nI 60) σ = some (nI (run q 9 l).1, σ2) := t1
  exact ⟨σ2, t1, t2, t3⟩
theorem cl_stageN (ok : q.Okx) (hl : l < q.n) (C : CH 49 q σ) : ∃ σ', f_X2_goTicks_IN 49 (nI 60) (alight 49 l σ) = some (nI (run q 9 l).1, σ') ∧ CH 49 (sellq (run q 9 l).2.1) σ' ∧ Fr (FH 49) σ σ' := by
  have hn := ok.1.1
  obtain ⟨σ2, t1, t2, t3⟩ := cl_stageA ok hl (CH_lit ok C (by omega : l < 9))
  exact ⟨σ2, t1, t2, Fr_tr (alight_fr l σ) t3⟩
theorem cl_stageR {k : Nat} (hk : k = 74 ∨ k = 76) (ok : q.Okx) (hl : l < q.n) (C1 : CH 49 (lits q l) σ) (G1 : LC k lg0 σ) : ∃ σ', f_X2_goTicks 49 (nI 60) k σ = some (nI (run q 9 l).1, σ') ∧ CH 49 (sellq (run q 9 l).2.1) σ' ∧ LC k (run q 9 l).2.2 σ' ∧ Fr (fun c i => FH 49 c i ∨ c = k ∨ c = k + 1) σ σ' := by
  have hn := ok.1.1
  have L := lits_liv ok hl
  obtain ⟨σ2, t1, t2, t4, t3⟩ := cl_goR hk (.inr (.inr (.inr rfl))) 60 (by omega) 60 0 (lits q l, lg0) σ FU (by omega) (FU_lt (by omega)) L.1 C1 G1
  have hw := (ok.1.2 l hl).1.2
  rw [ticks_run 60 _ L (by show q.wax l ≤ 60 + 0; omega)] at t1 t2 t4
  rw [Nat.zero_add] at t1
  have t1 : f_X2_goTicks 49 (nI 60) k σ = some (nI (run q 9 l).1, σ2) := t1
  exact ⟨σ2, t1, t2, t4, t3⟩
/-- who has it, and for how much -/
theorem cl_wp (x : HQ) (ok : x.Okl) (hl : l < x.n) (el : x.lit = l) (C : CH 49 (sellq x) σ) : f_X8_winner 48 (nI l) σ = some (cE x.holder, σ) ∧ f_X8_price 48 (nI l) σ = some (nI x.high, σ) := by
  have S := sell_f x
  have hn := ok.1
  have c1 := C.1.1
  rw [S.1] at c1
  have w := C.2.2.1.1 l (by rw [S.1]; exact hl)
  obtain ⟨-, -, -, w4, w5⟩ := w
  subst el
  rw [S.2.2.1, S.2.2.2.1] at w4
  rw [S.2.2.1, S.2.2.2.2.1] at w5
  simp only [Nat.reduceAdd, if_true] at w4 w5
  have hh : (49 : Nat) = 1 ∨ 49 = 16 ∨ 49 = 31 ∨ 49 = 49 := .inr (.inr (.inr rfl))
  have g : ∀ (z : Option (Int32 × Mem)), grd (kd (49 + 4 + x.lit) = 3) z = z := fun z => grd_lot hh (by omega)
  simp only [Nat.reduceAdd] at g
  constructor
  · simp (disch := omega) only [f_X8_winner, bd1_s, bd2_s, onrN, onrS, grd_t, grd_T, Nat.reduceAdd, lotAt_ok hh c1 hn hl, g, w5]
  · simp (disch := omega) only [f_X8_price, bd1_s, bd2_s, onrN, onrS, grd_t, grd_T, Nat.reduceAdd, lotAt_ok hh c1 hn hl, g, w4]
theorem md_runsOut (hs : s ≤ 9) : ∀ (d i : Nat) (x : HQ × Lg) (σ : Mem) (fuel : Nat), d < fuel → Liv x.1 → x.1.wax x.1.lit ≤ d + x.1.burnt → gI σ 94 13 = nI 11 → gI σ 94 33 = mE s → MH 11 x.1 σ → LM x.2 σ → ∃ σ', iterF (F_X10_burnsOut_7 94) (fun _ _ => none) fuel (nI (i + 1)) σ = some (nI (i + (runR s d x).1), σ') ∧ MH 11 (runR s d x).2.1 σ' ∧ LM (runR s d x).2.2 σ' ∧ Fr (FM 11) σ σ' := by
  intro d
  induction d with
  | zero =>
    intro i x σ fuel hf L h
    have := L.1.2.2.2.2.2.2.1 L.2
    omega
  | succ d ih =>
    intro i x σ fuel hf L h at' as' M G
    obtain ⟨f, rfl⟩ : ∃ f, fuel = f + 1 := ⟨fuel - 1, by omega⟩
    have T := tick_same (s := s) L
    obtain ⟨σ1, v, t1, t2, t3, t4, t5, t6, t7⟩ := md_tick hs (Nat.le_refl 11) L at' as' M G
    have at1 : gI σ1 94 13 = nI 11 := (t7.1 94 13 (by unfold FM; omega)).trans at'
    have as1 : gI σ1 94 33 = mE s := (t7.1 94 33 (by unfold FM; omega)).trans as'
    by_cases e : (tickq s x).1.wax (tickq s x).1.lit ≤ (tickq s x).1.burnt
    · have v1 := t3 e
      subst v1
      refine ⟨σ1, ?_, ?_, ?_, t7⟩
      · show F_X10_burnsOut_7 94 _ _ _ = _
        unfold runR
        rw [if_pos e]
        simp (disch := omega) only [F_X10_burnsOut_7, nI_lit, bd1_s, bd2_s, onrN, onrS, grd_t, grd_T, t1, nI_eqE, ltT, ltF, leT, leF, eqT, eqF, ↓reduceIte]
      · unfold runR
        rw [if_pos e]
        exact t5
      · unfold runR
        rw [if_pos e]
        exact t6
    · have v1 := t4 e
      subst v1
      obtain ⟨σ2, u1, u2, u3, u4⟩ := ih (i + 1) (tickq s x) σ1 f (by omega) (tick_liv L e) (by rw [T.2.2.2.1]; omega) at1 as1 t5 t6
      have e2 : i + 1 + (runR s d (tickq s x)).1 = i + ((runR s d (tickq s x)).1 + 1) := by omega
      rw [e2] at u1
      refine ⟨σ2, ?_, ?_, ?_, Fr_tr t7 u4⟩
      · show F_X10_burnsOut_7 94 _ _ _ = _
        unfold runR
        rw [if_neg e]
        simp (disch := omega) only [F_X10_burnsOut_7, nI_lit, nI_addE, bd1_s, bd2_s, onrN, onrS, grd_t, grd_T, t1, nI_eqE, ltT, ltF, leT, leF, eqT, eqF, ↓reduceIte]
        exact u1
      · unfold runR
        rw [if_neg e]
        exact u2
      · unfold runR
        rw [if_neg e]
        exact u3
theorem md_burnsOut (hs : s ≤ 9) (ok : q.Okx) (hl : l < q.n) (at' : gI σ 94 13 = nI 11) (as' : gI σ 94 33 = mE s) (M : MH 11 q σ) {g : Lg} (G : LM g σ) : ∃ σ', f_X10_burnsOut 94 (nI l) σ = some (nI (runR s 60 (lits q l, g)).1, σ') ∧ MH 11 (runR s 60 (lits q l, g)).2.1 σ' ∧ LM (runR s 60 (lits q l, g)).2.2 σ' ∧ Fr (FM 11) σ σ' := by
  have hn := ok.1.1
  have L := lits_liv ok hl
  have M1 := MH_lit M (by omega : l < 9)
  have F1 : Fr (FM 11) σ (lightM 11 l σ) := by
    unfold lightM noneM
    repeat (refine Fr_pI _ ?_ (by unfold FM; omega))
    exact Fr_rfl _ _
  have at1 : gI (lightM 11 l σ) 94 13 = nI 11 := by unfold lightM noneM; simp (disch := omega) only [gI_eq, gI_ne, gL_pI, gI_pL]; exact at'
  have as1 : gI (lightM 11 l σ) 94 33 = mE s := by unfold lightM noneM; simp (disch := omega) only [gI_eq, gI_ne, gL_pI, gI_pL]; exact as'
  have G1 : LM g (lightM 11 l σ) := LM_fr G fun k i c => by unfold lightM noneM; simp (disch := omega) only [gI_eq, gI_ne, gL_pI, gI_pL]
  have hw := (ok.1.2 l hl).1.2
  obtain ⟨σ2, t1, t2, t3, t4⟩ := md_runsOut hs 60 0 (lits q l, g) _ FU (FU_lt (by omega)) L (by show q.wax l ≤ 60 + 0; omega) at1 as1 M1 G1
  rw [Nat.zero_add, Nat.zero_add] at t1
  refine ⟨σ2, ?_, t2, t3, Fr_tr F1 t4⟩
  simp (disch := omega) only [f_X10_burnsOut, bd1_s, bd2_s, onrN, onrS, grd_t, grd_T, md_lights (Nat.le_refl 11) at', nI_lit]
  exact t1
theorem md_lends_loop : ∀ (d i : Nat) (σ1 : Mem) (fuel : Nat), i + d = 11 → d < fuel → Fr (fun k j => k = 104 ∧ 11 ≤ j) σ σ1 → (∀ j, j < i → gI σ1 104 (11 + j) = gI σ 104 j) → ∃ σ2, iterF (F_X10_lends_7 94) (fun _ _ => none) fuel (nI i) σ1 = some (pI σ2 94 13 (nI 11)) ∧ Fr (fun k j => k = 104 ∧ 11 ≤ j) σ σ2 ∧ (∀ j, j < 11 → gI σ2 104 (11 + j) = gI σ 104 j) := by
  intro d
  induction d with
  | zero =>
    intro i σ1 fuel hi hf F E
    obtain ⟨f, rfl⟩ : ∃ f, fuel = f + 1 := ⟨fuel - 1, by omega⟩
    have : i = 11 := by omega
    subst this
    refine ⟨σ1, ?_, F, E⟩
    show F_X10_lends_7 94 _ _ _ = _
    simp (disch := omega) only [F_X10_lends_7, nI_lit, nI_addE, nI_mulE, nI_ltE, nI_leE, nI_eqE, nI_eqN, nI_Neq, nI_ltN, nI_Nlt, nI_leN, nI_Nle, nI_NeN, nI_subE, bd1_s, bd2_s, onrN, onrS, grd_t, grd_T, gI_eq, gI_ne, gL_pI, gI_pL, ltT, ltF, leT, leF, eqT, eqF, if_true, if_false, true_or, or_true, ite_true, ite_false, and_true, true_and, and_false, false_and, not_false_eq_true, not_true_eq_false, ↓reduceIte, in_eq, Nat.reduceAdd, Nat.reduceMul, Nat.zero_add, cE_f, cE_t, mE_f, mE_t, within_ok, ne_eq]
  | succ d ih =>
    intro i σ1 fuel hi hf F E
    obtain ⟨f, rfl⟩ : ∃ f, fuel = f + 1 := ⟨fuel - 1, by omega⟩
    have rd : gI σ1 104 i = gI σ 104 i := F.1 _ _ (by omega)
    obtain ⟨σ2, r1, r2, r3⟩ := ih (i + 1) (pI σ1 104 (11 + i) (gI σ 104 i)) f (by omega) (by omega) (Fr_pI _ F ⟨rfl, by omega⟩) (fun j hj => by
      by_cases e : j = i
      · simp (disch := omega) only [gI_eq, gI_ne, gL_pI, gI_pL, e]
      · simp (disch := omega) only [gI_eq, gI_ne, gL_pI, gI_pL]; exact E j (by omega))
    refine ⟨σ2, ?_, r2, r3⟩
    show F_X10_lends_7 94 _ _ _ = _
    simp (disch := omega) only [F_X10_lends_7, nI_lit, nI_addE, nI_mulE, nI_ltE, nI_leE, nI_eqE, nI_eqN, nI_Neq, nI_ltN, nI_Nlt, nI_leN, nI_Nle, nI_NeN, nI_subE, bd1_s, bd2_s, onrN, onrS, grd_t, grd_T, gI_eq, gI_ne, gL_pI, gI_pL, ltT, ltF, leT, leF, eqT, eqF, if_true, if_false, true_or, or_true, ite_true, ite_false, and_true, true_and, and_false, false_and, not_false_eq_true, not_true_eq_false, ↓reduceIte, in_eq, Nat.reduceAdd, Nat.reduceMul, Nat.zero_add, cE_f, cE_t, mE_f, mE_t, within_ok, ne_eq, ixo_95, ixo_96, ixo_97, ixo_98, ixo_99, ixo_100, ixo_101, ixo_102, ixo_103, ixo_104, ixo_105, ixo_106, ixo_107, ixo_108, ixo_109, ixo_110, ixo_111, ixo_112, ixo_113, ixo_114, ixo_115, ixo_116, ixo_117, ixo_118, ixo_119, ixo_120, ixo_121, ixo_122, ixo_123, ixo_124, ixo_125, ixo_126, rd]
    exact r1
theorem md_lends (hm : q.m ≤ 6) (M : MH 0 q σ) : ∃ σ', f_X10_lends 94 σ = some σ' ∧ MH 11 q σ' ∧ MH 0 q σ' ∧ gI σ' 94 13 = nI 11 ∧ Fr (fun k j => (k = 104 ∧ 11 ≤ j) ∨ (k = 94 ∧ j = 13)) σ σ' := by
  obtain ⟨σ2, r1, r2, r3⟩ := md_lends_loop (σ := pI σ 94 13 (nI 0)) 11 0 (pI σ 94 13 (nI 0)) FU (by omega) (FU_lt (by omega)) (Fr_rfl _ _) (fun j hj => by omega)
  have F : Fr (fun k j => (k = 104 ∧ 11 ≤ j) ∨ (k = 94 ∧ j = 13)) σ (pI σ2 94 13 (nI 11)) := Fr_pI _ (Fr_tr (Fr_pI _ (Fr_rfl _ _) (.inr ⟨rfl, rfl⟩)) (Fr_mono r2 fun k i c => .inl c)) (.inr ⟨rfl, rfl⟩)
  have rd : ∀ j, j < 11 → gI (pI σ2 94 13 (nI 11)) 104 (11 + j) = gI σ 104 j := fun j hj => by
    rw [gI_ne _ _ (by omega), r3 j hj, gI_ne _ _ (by omega)]
  obtain ⟨ms, ⟨n0, n1, n2, n3, n4, n5⟩, md, ml, mb⟩ := id M
  have fr : ∀ k i, ¬ (k = 104 ∧ 11 ≤ i) → ¬ (k = 94 ∧ i = 13) → gI (pI σ2 94 13 (nI 11)) k i = gI σ k i := fun k i h1 h2 => F.1 k i (by omega)
  refine ⟨_, ?_, ⟨MHs_c ms ⟨rfl, rfl, rfl, rfl⟩ ⟨fr _ _ (by omega) (by omega), fr _ _ (by omega) (by omega), fr _ _ (by omega) (by omega), fr _ _ (by omega) (by omega)⟩, ⟨?_, ?_, ?_, ?_, ?_, fun b hb => ?_⟩, MHd_c md (fun _ => rfl) (fun i => fr _ _ (by omega) (by omega)), MHl_c ml rfl (fun _ => ⟨rfl, rfl, rfl, rfl, rfl⟩) (fun k i _ _ => fr _ _ (by omega) (by omega)), MHb_c mb rfl (fun _ => ⟨rfl, rfl, rfl⟩) (fun k i _ _ => fr _ _ (by omega) (by omega))⟩, ⟨MHs_c ms ⟨rfl, rfl, rfl, rfl⟩ ⟨fr _ _ (by omega) (by omega), fr _ _ (by omega) (by omega), fr _ _ (by omega) (by omega), fr _ _ (by omega) (by omega)⟩, ⟨?_, ?_, ?_, ?_, ?_, fun b hb => ?_⟩, MHd_c md (fun _ => rfl) (fun i => fr _ _ (by omega) (by omega)), MHl_c ml rfl (fun _ => ⟨rfl, rfl, rfl, rfl, rfl⟩) (fun k i _ _ => fr _ _ (by omega) (by omega)), MHb_c mb rfl (fun _ => ⟨rfl, rfl, rfl⟩) (fun k i _ _ => fr _ _ (by omega) (by omega))⟩, gI_eq _ _ ⟨rfl, rfl⟩, F⟩
  · unfold f_X10_lends
    rw [bd1_s]
    exact r1
  · exact (rd 0 (by omega)).trans n0
  · exact (rd 1 (by omega)).trans n1
  · exact (rd 2 (by omega)).trans n2
  · exact (rd 3 (by omega)).trans n3
  · exact (rd 4 (by omega)).trans n4
  · have := n5 b hb
    rw [Nat.add_assoc, rd (5 + b) (by omega)]
    rw [Nat.zero_add] at this
    exact this
  · exact (fr _ _ (by omega) (by omega)).trans n0
  · exact (fr _ _ (by omega) (by omega)).trans n1
  · exact (fr _ _ (by omega) (by omega)).trans n2
  · exact (fr _ _ (by omega) (by omega)).trans n3
  · exact (fr _ _ (by omega) (by omega)).trans n4
  · exact (fr _ _ (by omega) (by omega)).trans (n5 b hb)
/-- what a trial leaves behind -/
def FT (k i : Nat) : Prop := (k = 104 ∧ 11 ≤ i) ∨ k = 113 ∨ (k = 94 ∧ (i = 35 ∨ i = 13 ∨ i = 36 ∨ i = 37 ∨ i = 38))
theorem md_tries (hs : s ≤ 9) (ok : q.Okx) (hl : l < q.n) (as' : gI σ 94 33 = mE s) (M : MH 0 q σ) : ∃ σ', f_X10_tries 94 (nI l) σ = some σ' ∧ MH 0 q σ' ∧ LM (run q s l).2.2 σ' ∧ gI σ' 94 13 = nI 0 ∧ gI σ' 94 33 = mE s ∧ gI σ' 94 36 = nI (run q s l).1 ∧ gI σ' 94 37 = mE (run q s l).2.1.holder ∧ gI σ' 94 38 = nI (run q s l).2.1.high ∧ Fr FT σ σ' := by
  have hm := ok.2.1.1
  have M1 : MH 0 q (pI σ 94 35 (nI 0)) := MH_fr M fun k i c => gI_ne _ _ (by omega)
  obtain ⟨σ1, a1, a2, a3, a4, a5⟩ := md_lends hm M1
  have as1 : gI σ1 94 33 = mE s := by rw [a5.1 _ _ (by omega), gI_ne _ _ (by omega)]; exact as'
  have G1 : LM lg0 σ1 := ⟨Nat.zero_le 20, by rw [a5.1 _ _ (by omega), gI_eq _ _ ⟨rfl, rfl⟩]; rfl, fun j hj => absurd hj (by show ¬ j < 3 * 0; omega)⟩
  obtain ⟨σ2, b1, b2, b3, b4⟩ := md_burnsOut hs ok hl a4 as1 a2 G1
  have R := run_ok (s := s) ok hl
  have b1 : f_X10_burnsOut 94 (nI l) σ1 = some (nI (run q s l).1, σ2) := b1
  have b2 : MH 11 (run q s l).2.1 σ2 := b2
  have b3 : LM (run q s l).2.2 σ2 := b3
  have hm2 := R.2.2.2.2.2.2
  have o6 := R.1.2.2.2.2.1
  have hd := R.1.2.2.2.2.2
  have F2 : Fr FT σ σ2 := Fr_tr (Fr_pI _ (Fr_rfl _ _) (by unfold FT; omega)) (Fr_tr (Fr_mono a5 fun k i c => by unfold FT; omega) (Fr_mono b4 fun k i c => by unfold FM at c; unfold FT; omega))
  have at2 : gI σ2 94 13 = nI 11 := (b4.1 _ _ (by unfold FM; omega)).trans a4
  have n3 := b2.2.1.2.2.2.1
  have n4 := b2.2.1.2.2.2.2.1
  have M2 : MH 0 q σ2 := by
    have g0 : ∀ k i, ¬ FT k i → gI σ2 k i = gI σ k i := F2.1
    obtain ⟨ms, ⟨n0, n1, n2, n3, n4, n5⟩, md, ml, mb⟩ := M
    refine ⟨MHs_c ms ⟨rfl, rfl, rfl, rfl⟩ ⟨g0 _ _ (by unfold FT; omega), g0 _ _ (by unfold FT; omega), g0 _ _ (by unfold FT; omega), g0 _ _ (by unfold FT; omega)⟩, ⟨(g0 _ _ (by unfold FT; omega)).trans n0, (g0 _ _ (by unfold FT; omega)).trans n1, (g0 _ _ (by unfold FT; omega)).trans n2, (g0 _ _ (by unfold FT; omega)).trans n3, (g0 _ _ (by unfold FT; omega)).trans n4, fun b hb => (g0 _ _ (by unfold FT; omega)).trans (n5 b hb)⟩, MHd_c md (fun _ => rfl) (fun i => g0 _ _ (by unfold FT; omega)), MHl_c ml rfl (fun _ => ⟨rfl, rfl, rfl, rfl, rfl⟩) (fun k i _ _ => g0 _ _ (by unfold FT; omega)), MHb_c mb rfl (fun _ => ⟨rfl, rfl, rfl⟩) (fun k i _ _ => g0 _ _ (by unfold FT; omega))⟩
  have as2 : gI σ2 94 33 = mE s := (b4.1 _ _ (by unfold FM; omega)).trans as1
  generalize run q s l = r at *
  refine ⟨pI (pI (pI (pI σ2 94 36 (nI r.1)) 94 37 (mE r.2.1.holder)) 94 38 (nI r.2.1.high)) 94 13 (nI 0), ?_, MH_fr M2 fun k i c => by simp (disch := omega) only [gI_eq, gI_ne, gL_pI, gI_pL], LM_fr b3 fun k i c => by simp (disch := omega) only [gI_eq, gI_ne, gL_pI, gI_pL], by simp (disch := omega) only [gI_eq, gI_ne, gL_pI, gI_pL], by simp (disch := omega) only [gI_eq, gI_ne, gL_pI, gI_pL]; exact as2, by simp (disch := omega) only [gI_eq, gI_ne, gL_pI, gI_pL], by simp (disch := omega) only [gI_eq, gI_ne, gL_pI, gI_pL], by simp (disch := omega) only [gI_eq, gI_ne, gL_pI, gI_pL], ?_⟩
  · by_cases e : r.2.1.holder = 9
    · have h0 : r.2.1.high = 0 := by omega
      simp (disch := omega) only [f_X10_tries, f_X10_its, nI_lit, nI_addE, nI_mulE, nI_ltE, nI_leE, nI_eqE, nI_eqN, nI_Neq, nI_ltN, nI_Nlt, nI_leN, nI_Nle, nI_NeN, nI_subE, bd1_s, bd2_s, onrN, onrS, grd_t, grd_T, gI_eq, gI_ne, gL_pI, gI_pL, ltT, ltF, leT, leF, eqT, eqF, if_true, if_false, true_or, or_true, ite_true, ite_false, and_true, true_and, and_false, false_and, not_false_eq_true, not_true_eq_false, ↓reduceIte, in_eq, Nat.reduceAdd, Nat.reduceMul, Nat.zero_add, cE_f, cE_t, mE_f, mE_t, within_ok, ne_eq, ixo_95, ixo_96, ixo_97, ixo_98, ixo_99, ixo_100, ixo_101, ixo_102, ixo_103, ixo_104, ixo_105, ixo_106, ixo_107, ixo_108, ixo_109, ixo_110, ixo_111, ixo_112, ixo_113, ixo_114, ixo_115, ixo_116, ixo_117, ixo_118, ixo_119, ixo_120, ixo_121, ixo_122, ixo_123, ixo_124, ixo_125, ixo_126, a1, b1, at2, n4, h0]
    · simp (disch := omega) only [f_X10_tries, f_X10_its, nI_lit, nI_addE, nI_mulE, nI_ltE, nI_leE, nI_eqE, nI_eqN, nI_Neq, nI_ltN, nI_Nlt, nI_leN, nI_Nle, nI_NeN, nI_subE, bd1_s, bd2_s, onrN, onrS, grd_t, grd_T, gI_eq, gI_ne, gL_pI, gI_pL, ltT, ltF, leT, leF, eqT, eqF, if_true, if_false, true_or, or_true, ite_true, ite_false, and_true, true_and, and_false, false_and, not_false_eq_true, not_true_eq_false, ↓reduceIte, in_eq, Nat.reduceAdd, Nat.reduceMul, Nat.zero_add, cE_f, cE_t, mE_f, mE_t, within_ok, ne_eq, ixo_95, ixo_96, ixo_97, ixo_98, ixo_99, ixo_100, ixo_101, ixo_102, ixo_103, ixo_104, ixo_105, ixo_106, ixo_107, ixo_108, ixo_109, ixo_110, ixo_111, ixo_112, ixo_113, ixo_114, ixo_115, ixo_116, ixo_117, ixo_118, ixo_119, ixo_120, ixo_121, ixo_122, ixo_123, ixo_124, ixo_125, ixo_126, a1, b1, at2, n4, n3]
  · exact Fr_pI _ (Fr_pI _ (Fr_pI _ (Fr_pI _ F2 (by unfold FT; omega)) (by unfold FT; omega)) (by unfold FT; omega)) (by unfold FT; omega)
end
