/-! the text of a hall: the call -/
section
variable {q d : HQ} {σ σ' : Mem} {T : Tp} {lo hi p b e w v k a : Nat} {x : Nat × Nat}
theorem md_27 : ∀ (d i : Nat) (σ1 : Mem) (fuel : Nat), i + d = 12 → d < fuel → Fr (fun k _ => k = 112) σ σ1 → (∀ j, j < i → gI σ1 112 j = nI 0) → ∃ σ2, iterF (F_X10_hall_27 94) (fun _ _ => none) fuel (nI i) σ1 = (bd1 (f_X10_advance 94 σ2) fun σ12 => iterF (F_X10_hall_50 94) (fun _ => none) FU σ12) ∧ Fr (fun k _ => k = 112) σ σ2 ∧ ∀ j, j < 12 → gI σ2 112 j = nI 0 := by
  intro d
  induction d with
  | zero =>
    intro i σ1 fuel hi hf F E
    obtain ⟨f, rfl⟩ : ∃ f, fuel = f + 1 := ⟨fuel - 1, by omega⟩
    refine ⟨σ1, ?_, F, fun j hj => E j (by omega)⟩
    show F_X10_hall_27 94 _ _ _ = _
    unfold F_X10_hall_27
    rw [if_pos (by rw [nI_lit 12, nI_leE (by omega) (by omega)]; omega)]
  | succ d ih =>
    intro i σ1 fuel hi hf F E
    obtain ⟨f, rfl⟩ : ∃ f, fuel = f + 1 := ⟨fuel - 1, by omega⟩
    obtain ⟨σ2, r1, r2⟩ := ih (i + 1) (pI σ1 112 i (nI 0)) f (by omega) (by omega) (Fr_pI _ F rfl) (fun j hj => by
      by_cases c : j = i
      · exact gI_eq _ _ ⟨rfl, c⟩
      · rw [gI_ne _ _ (by omega)]; exact E j (by omega))
    refine ⟨σ2, Eq.trans ?_ r1, r2⟩
    have i1 : ixo 112 (nI i) = some i := ixo_112 (by omega)
    show F_X10_hall_27 94 _ _ _ = _
    generalize iterF (F_X10_hall_27 94) (fun _ _ => none) f = R
    unfold F_X10_hall_27
    rw [if_neg (by rw [nI_lit 12, nI_leE (by omega) (by omega)]; omega)]
    simp only [Nat.reduceAdd, i1, bd1_s]
    rw [nI_lit 1, nI_addE]
    rfl
theorem Fq_Fr {W : Nat → Nat → Prop} {σ σ' : Mem} (F : Fr W σ σ') : Fq W σ σ' := ⟨F.1, fun k i _ => by unfold gL; rw [F.2]⟩
theorem md_start (J : JT T σ) (z : Int32) : ∃ σ1, f_X10_hall 94 σ = iterF (F_X10_hall_50 94) (fun _ => none) FU σ1 ∧ MS T (sk T 0, 1) σ1 ∧ MF (d0 z) σ1 ∧ Fq FX σ σ1 := by
  obtain ⟨σ2, r1, r2, r3⟩ := md_27 (σ := pI (pI (pI (pI (pI σ 94 19 (nI 0)) 94 22 (nI 1)) 94 23 (nI 0)) 94 24 (nI 0)) 94 25 (nI 5)) 12 0 _ FU (by omega) (FU_lt (by omega)) (Fr_rfl _ _) (fun j hj => absurd hj (Nat.not_lt_zero j))
  have g : ∀ k i, k ≠ 112 → gI σ2 k i = gI (pI (pI (pI (pI (pI σ 94 19 (nI 0)) 94 22 (nI 1)) 94 23 (nI 0)) 94 24 (nI 0)) 94 25 (nI 5)) k i := r2.1
  have F0 : Fr FX σ (pI (pI (pI (pI (pI σ 94 19 (nI 0)) 94 22 (nI 1)) 94 23 (nI 0)) 94 24 (nI 0)) 94 25 (nI 5)) := Fr_pI _ (Fr_pI _ (Fr_pI _ (Fr_pI _ (Fr_pI _ (Fr_rfl _ _) (by unfold FX; omega)) (by unfold FX; omega)) (by unfold FX; omega)) (by unfold FX; omega)) (by unfold FX; omega)
  have F2 : Fr FX σ σ2 := Fr_tr F0 (Fr_mono r2 fun k i c => by unfold FX; omega)
  have J2 : JT T σ2 := JT_fr J fun k i c => F2.1 k i (by unfold FX; omega)
  have h19 : gI σ2 94 19 = nI 0 := by rw [g _ _ (by omega)]; simp (disch := omega) only [gI_eq, gI_ne, gL_pI, gI_pL]
  have h22 : gI σ2 94 22 = nI 1 := by rw [g _ _ (by omega)]; simp (disch := omega) only [gI_eq, gI_ne, gL_pI, gI_pL]
  have h23 : gI σ2 94 23 = nI 0 := by rw [g _ _ (by omega)]; simp (disch := omega) only [gI_eq, gI_ne, gL_pI, gI_pL]
  have h24 : gI σ2 94 24 = nI 0 := by rw [g _ _ (by omega)]; simp (disch := omega) only [gI_eq, gI_ne, gL_pI, gI_pL]
  have h25 : gI σ2 94 25 = nI 5 := by rw [g _ _ (by omega)]; simp (disch := omega) only [gI_eq, gI_ne, gL_pI, gI_pL]
  obtain ⟨σ3, a1, a2, a3, a4⟩ := md_adv J2 (Nat.zero_le _) h19
  have le := sk_ge (T := T) (p := 0) (Nat.zero_le _)
  have M2 : MF (d0 z) σ2 := ⟨⟨h23, h24, h25⟩, fun i hi => absurd (show i < 0 from hi) (by omega), fun i hi => absurd (show i < 0 from hi) (by omega), fun i hi => r3 i hi⟩
  refine ⟨σ3, ?_, ⟨a3, le.2, .inl ⟨rfl, (a4.1 _ _ (by unfold FA; omega)).trans h22, ?_⟩⟩, MF_fr M2 fun k i c => a4.1 k i (by unfold FA; omega), Fq_tr (Fq_Fr F2) (Fq_mono a4 fun k i c => by unfold FA at c; unfold FX; omega)⟩
  · unfold f_X10_hall
    rw [bd1_s, bd1_s, bd1_s, bd1_s, bd1_s]
    have r1 : iterF (F_X10_hall_27 94) (fun _ _ => none) FU (0 : Int32) (pI (pI (pI (pI (pI σ 94 19 (0 : Int32)) 94 22 (1 : Int32)) 94 23 (0 : Int32)) 94 24 (0 : Int32)) 94 25 (5 : Int32)) = _ := r1
    rw [r1, a1, bd1_s]
  · show Tok T (sk T (sk T 0)) σ3
    rw [sk_sk (Nat.zero_le _)]
    exact a2
theorem ti_26 : ∀ (d i : Nat) (σ1 : Mem) (fuel : Nat), i + d = 5 → d < fuel → Fr (fun k _ => 95 ≤ k ∧ k ≤ 97) σ σ1 → (∀ j, j < i → gI σ1 95 j = gI σ 106 j ∧ gI σ1 96 j = gI σ 107 j ∧ gI σ1 97 j = nI 0) → ∃ σ2, iterF (F_X10_turnsInto_26 94) (fun _ _ => none) fuel (nI i) σ1 = iterF (F_X10_turnsInto_70 94) (fun _ _ => none) FU (nI 0) σ2 ∧ Fr (fun k _ => 95 ≤ k ∧ k ≤ 97) σ σ2 ∧ ∀ j, j < 5 → gI σ2 95 j = gI σ 106 j ∧ gI σ2 96 j = gI σ 107 j ∧ gI σ2 97 j = nI 0 := by
  intro d
  induction d with
  | zero =>
    intro i σ1 fuel hi hf F E
    obtain ⟨f, rfl⟩ : ∃ f, fuel = f + 1 := ⟨fuel - 1, by omega⟩
    refine ⟨σ1, ?_, F, fun j hj => E j (by omega)⟩
    show F_X10_turnsInto_26 94 _ _ _ = _
    unfold F_X10_turnsInto_26
    rw [if_pos (by rw [nI_lit 5, nI_leE (by omega) (by omega)]; omega)]
    rfl
  | succ d ih =>
    intro i σ1 fuel hi hf F E
    obtain ⟨f, rfl⟩ : ∃ f, fuel = f + 1 := ⟨fuel - 1, by omega⟩
    have y1 : gI σ1 106 i = gI σ 106 i := F.1 _ _ (by omega)
    have y2 : gI (pI σ1 95 i (gI σ 106 i)) 107 i = gI σ 107 i := (gI_ne _ _ (by omega)).trans (F.1 _ _ (by omega))
    obtain ⟨σ2, r1, r2⟩ := ih (i + 1) (pI (pI (pI σ1 95 i (gI σ 106 i)) 96 i (gI σ 107 i)) 97 i (nI 0)) f (by omega) (by omega) (Fr_pI _ (Fr_pI _ (Fr_pI _ F (by omega)) (by omega)) (by omega)) (fun j hj => by
      by_cases c : j = i
      · subst c; simp (disch := omega) only [gI_eq, gI_ne, gL_pI, gI_pL, and_self]
      · rw [gI_ne _ _ (by omega), gI_ne _ _ (by omega), gI_ne _ _ (by omega), gI_ne _ _ (by omega), gI_ne _ _ (by omega), gI_ne _ _ (by omega), gI_ne _ _ (by omega), gI_ne _ _ (by omega), gI_ne _ _ (by omega)]; exact E j (by omega))
    refine ⟨σ2, Eq.trans ?_ r1, r2⟩
    have i1 : ixo 106 (nI i) = some i := ixo_106 (by omega)
    have i2 : ixo 95 (nI i) = some i := ixo_95 (by omega)
    have i3 : ixo 107 (nI i) = some i := ixo_107 (by omega)
    have i4 : ixo 96 (nI i) = some i := ixo_96 (by omega)
    have i5 : ixo 97 (nI i) = some i := ixo_97 (by omega)
    show F_X10_turnsInto_26 94 _ _ _ = _
    generalize iterF (F_X10_turnsInto_26 94) (fun _ _ => none) f = R
    unfold F_X10_turnsInto_26
    rw [if_neg (by rw [nI_lit 5, nI_leE (by omega) (by omega)]; omega)]
    simp only [Nat.reduceAdd, i1, i2, i3, i4, i5, bd1_s, y1, y2]
    rw [nI_lit 1, nI_addE]
    rfl
def FY (k i : Nat) : Prop := (101 ≤ k ∧ k ≤ 103) ∨ (k = 104 ∧ 5 ≤ i ∧ i ≤ 10)
theorem ti_70 (at' : gI σ 94 13 = nI 0) : ∀ (d i : Nat) (σ1 : Mem) (fuel : Nat), i + d = 6 → d < fuel → Fr FY σ σ1 → (∀ j, j < i → gI σ1 101 j = gI σ 108 j ∧ gI σ1 102 j = gI σ 109 j ∧ gI σ1 103 j = gI σ 110 j ∧ gI σ1 104 (5 + j) = gI σ 111 j) → ∃ σ2, iterF (F_X10_turnsInto_70 94) (fun _ _ => none) fuel (nI i) σ1 = iterF (F_X10_turnsInto_134 94) (fun _ _ => none) FU (nI 0) σ2 ∧ Fr FY σ σ2 ∧ ∀ j, j < 6 → gI σ2 101 j = gI σ 108 j ∧ gI σ2 102 j = gI σ 109 j ∧ gI σ2 103 j = gI σ 110 j ∧ gI σ2 104 (5 + j) = gI σ 111 j := by
  intro d
  induction d with
  | zero =>
    intro i σ1 fuel hi hf F E
    obtain ⟨f, rfl⟩ : ∃ f, fuel = f + 1 := ⟨fuel - 1, by omega⟩
    refine ⟨σ1, ?_, F, fun j hj => E j (by omega)⟩
    show F_X10_turnsInto_70 94 _ _ _ = _
    unfold F_X10_turnsInto_70
    rw [if_pos (by rw [nI_lit 6, nI_leE (by omega) (by omega)]; omega)]
    rfl
  | succ d ih =>
    intro i σ1 fuel hi hf F E
    obtain ⟨f, rfl⟩ : ∃ f, fuel = f + 1 := ⟨fuel - 1, by omega⟩
    have y1 : gI σ1 108 i = gI σ 108 i := F.1 _ _ (by unfold FY; omega)
    have y2 : gI (pI σ1 101 i (gI σ 108 i)) 109 i = gI σ 109 i := (gI_ne _ _ (by omega)).trans (F.1 _ _ (by unfold FY; omega))
    have y3 : gI (pI (pI σ1 101 i (gI σ 108 i)) 102 i (gI σ 109 i)) 110 i = gI σ 110 i := (gI_ne _ _ (by omega)).trans ((gI_ne _ _ (by omega)).trans (F.1 _ _ (by unfold FY; omega)))
    have y4 : gI (pI (pI (pI σ1 101 i (gI σ 108 i)) 102 i (gI σ 109 i)) 103 i (gI σ 110 i)) 111 i = gI σ 111 i := (gI_ne _ _ (by omega)).trans ((gI_ne _ _ (by omega)).trans ((gI_ne _ _ (by omega)).trans (F.1 _ _ (by unfold FY; omega))))
    obtain ⟨σ2, r1, r2⟩ := ih (i + 1) (pI (pI (pI (pI σ1 101 i (gI σ 108 i)) 102 i (gI σ 109 i)) 103 i (gI σ 110 i)) 104 (5 + i) (gI σ 111 i)) f (by omega) (by omega) (Fr_pI _ (Fr_pI _ (Fr_pI _ (Fr_pI _ F (by unfold FY; omega)) (by unfold FY; omega)) (by unfold FY; omega)) (by unfold FY; omega)) (fun j hj => by
      by_cases c : j = i
      · subst c; simp (disch := omega) only [gI_eq, gI_ne, gL_pI, gI_pL, and_self]
      · obtain ⟨e1, e2, e3, e4⟩ := E j (by omega)
        simp (disch := omega) only [gI_ne]
        exact ⟨e1, e2, e3, e4⟩)
    refine ⟨σ2, Eq.trans ?_ r1, r2⟩
    have i1 : ixo 108 (nI i) = some i := ixo_108 (by omega)
    have i2 : ixo 101 (nI i) = some i := ixo_101 (by omega)
    have i3 : ixo 109 (nI i) = some i := ixo_109 (by omega)
    have i4 : ixo 102 (nI i) = some i := ixo_102 (by omega)
    have i5 : ixo 110 (nI i) = some i := ixo_110 (by omega)
    have i6 : ixo 103 (nI i) = some i := ixo_103 (by omega)
    have i7 : ixo 111 (nI i) = some i := ixo_111 (by omega)
    have i8 : ixo 104 ((5 : Int32) + nI i) = some (5 + i) := by rw [nI_lit 5, nI_addE]; exact ixo_104 (by omega)
    show F_X10_turnsInto_70 94 _ _ _ = _
    generalize iterF (F_X10_turnsInto_70 94) (fun _ _ => none) f = R
    unfold F_X10_turnsInto_70
    rw [if_neg (by rw [nI_lit 6, nI_leE (by omega) (by omega)]; omega)]
    simp only [Nat.reduceAdd, i1, i2, i3, i4, i5, i6, i7, i8, bd1_s, y1, y2, y3, y4]
    rw [nI_lit 1, nI_addE]
theorem ti_134 : ∀ (d i : Nat) (σ1 : Mem) (fuel : Nat), i + d = 12 → d < fuel → Fr (fun k _ => k = 100) σ σ1 → (∀ j, j < i → gI σ1 100 j = gI σ 112 j) → ∃ σ2, iterF (F_X10_turnsInto_134 94) (fun _ _ => none) fuel (nI i) σ1 = (bd1 (f_X10_none 94 σ2) fun σ10 => some σ10) ∧ Fr (fun k _ => k = 100) σ σ2 ∧ ∀ j, j < 12 → gI σ2 100 j = gI σ 112 j := by
  intro d
  induction d with
  | zero =>
    intro i σ1 fuel hi hf F E
    obtain ⟨f, rfl⟩ : ∃ f, fuel = f + 1 := ⟨fuel - 1, by omega⟩
    refine ⟨σ1, ?_, F, fun j hj => E j (by omega)⟩
    show F_X10_turnsInto_134 94 _ _ _ = _
    unfold F_X10_turnsInto_134
    rw [if_pos (by rw [nI_lit 12, nI_leE (by omega) (by omega)]; omega)]
  | succ d ih =>
    intro i σ1 fuel hi hf F E
    obtain ⟨f, rfl⟩ : ∃ f, fuel = f + 1 := ⟨fuel - 1, by omega⟩
    have y1 : gI σ1 112 i = gI σ 112 i := F.1 _ _ (by omega)
    obtain ⟨σ2, r1, r2⟩ := ih (i + 1) (pI σ1 100 i (gI σ 112 i)) f (by omega) (by omega) (Fr_pI _ F rfl) (fun j hj => by
      by_cases c : j = i
      · rw [c]; exact gI_eq _ _ ⟨rfl, rfl⟩
      · rw [gI_ne _ _ (by omega)]; exact E j (by omega))
    refine ⟨σ2, Eq.trans ?_ r1, r2⟩
    have i1 : ixo 112 (nI i) = some i := ixo_112 (by omega)
    have i2 : ixo 100 (nI i) = some i := ixo_100 (by omega)
    show F_X10_turnsInto_134 94 _ _ _ = _
    generalize iterF (F_X10_turnsInto_134 94) (fun _ _ => none) f = R
    unfold F_X10_turnsInto_134
    rw [if_neg (by rw [nI_lit 12, nI_leE (by omega) (by omega)]; omega)]
    simp only [Nat.reduceAdd, i1, i2, bd1_s, y1]
    rw [nI_lit 1, nI_addE]
def FZ (k i : Nat) : Prop := (k = 94 ∧ (i = 0 ∨ i = 7 ∨ i = 8)) ∨ (95 ≤ k ∧ k ≤ 104)
theorem md_turns (M : MF d σ) (D : Dr d) (at' : gI σ 94 13 = nI 0) (z : gI σ 94 14 = d.2) : ∃ σ', f_X10_turnsInto 94 σ = some σ' ∧ MH 0 d σ' ∧ Fr FZ σ σ' := by
  obtain ⟨⟨m1, m2, m3⟩, m4, m5, m6⟩ := M
  obtain ⟨⟨⟨hn, hol⟩, hob, hoc⟩, h9, hs⟩ := D
  have hm := hob.1
  obtain ⟨t1, t2, t3, t4⟩ := hoc.2.2.2.2.2.2.2 h9
  obtain ⟨τ, eτ⟩ : ∃ τ, τ = pI (pI (pI σ 94 0 (nI d.n)) 94 8 (nI d.m)) 94 7 (nI d.step) := ⟨_, rfl⟩
  have g0 : ∀ k i, ¬ (k = 94 ∧ (i = 0 ∨ i = 7 ∨ i = 8)) → gI τ k i = gI σ k i := fun k i c => by rw [eτ, gI_ne _ _ (by omega), gI_ne _ _ (by omega), gI_ne _ _ (by omega)]
  have F0 : Fr FZ σ τ := by rw [eτ]; exact Fr_pI _ (Fr_pI _ (Fr_pI _ (Fr_rfl _ _) (by unfold FZ; omega)) (by unfold FZ; omega)) (by unfold FZ; omega)
  obtain ⟨σ1, a1, a2, a3⟩ := ti_26 (σ := τ) 5 0 τ FU (by omega) (FU_lt (by omega)) (Fr_rfl _ _) (fun j hj => absurd hj (Nat.not_lt_zero j))
  have g1 : ∀ k i, ¬ (95 ≤ k ∧ k ≤ 97) → gI σ1 k i = gI τ k i := a2.1
  obtain ⟨σ2, b1, b2, b3⟩ := ti_70 (σ := σ1) ((g1 _ _ (by omega)).trans ((g0 _ _ (by omega)).trans at')) 6 0 σ1 FU (by omega) (FU_lt (by omega)) (Fr_rfl _ _) (fun j hj => absurd hj (Nat.not_lt_zero j))
  have g2 : ∀ k i, ¬ FY k i → gI σ2 k i = gI σ1 k i := b2.1
  obtain ⟨σ3, c1, c2, c3⟩ := ti_134 (σ := σ2) 12 0 σ2 FU (by omega) (FU_lt (by omega)) (Fr_rfl _ _) (fun j hj => absurd hj (Nat.not_lt_zero j))
  have g3 : ∀ k i, k ≠ 100 → gI σ3 k i = gI σ2 k i := c2.1
  have at3 : gI σ3 94 13 = nI 0 := by rw [g3 _ _ (by omega), g2 _ _ (by unfold FY; omega), g1 _ _ (by omega), g0 _ _ (by omega)]; exact at'
  have nn := md_none (o := 0) (σ := σ3) (by omega) at3
  have g4 : ∀ k i, ¬ (k = 104 ∧ i < 5) → gI (noneM 0 σ3) k i = gI σ3 k i := fun k i c => by
    unfold noneM
    rw [gI_ne _ _ (by omega), gI_ne _ _ (by omega), gI_ne _ _ (by omega), gI_ne _ _ (by omega), gI_ne _ _ (by omega)]
  have hτ : ∀ i, gI σ3 94 i = gI τ 94 i := fun i => by rw [g3 _ _ (by omega), g2 _ _ (by unfold FY; omega), g1 _ _ (by omega)]
  have F4 : Fr FZ σ (noneM 0 σ3) := by
    have f1 : Fr FZ τ σ3 := Fr_tr (Fr_mono a2 fun k i c => by unfold FZ; omega) (Fr_tr (Fr_mono b2 fun k i c => by unfold FY at c; unfold FZ; omega) (Fr_mono c2 fun k i c => by unfold FZ; omega))
    exact Fr_tr F0 (Fr_tr f1 (Fr_mono (Fr_none σ3) fun k i c => by unfold FZ; omega))
  refine ⟨noneM 0 σ3, ?_, ⟨⟨?_, ?_, ?_, ?_⟩, ⟨?_, ?_, ?_, ?_, ?_, fun b hb => ?_⟩, fun p hp => ?_, fun i hi => ?_, fun b hb => ?_⟩, F4⟩
  · unfold f_X10_turnsInto
    rw [m1, bd1_s, gI_ne _ _ (by omega), m2, bd1_s, gI_ne _ _ (by omega), gI_ne _ _ (by omega), m3, bd1_s, ← eτ, nI_lit 0]
    have a1 : iterF (F_X10_turnsInto_26 94) (fun _ _ => none) FU (nI 0) τ = _ := a1
    rw [a1, b1, c1, nn, bd1_s]
  · rw [g4 _ _ (by omega), hτ, eτ]; simp (disch := omega) only [gI_eq, gI_ne, gL_pI, gI_pL]
  · rw [g4 _ _ (by omega), hτ, eτ]; simp (disch := omega) only [gI_eq, gI_ne, gL_pI, gI_pL]
  · rw [g4 _ _ (by omega), hτ, eτ]; simp (disch := omega) only [gI_eq, gI_ne, gL_pI, gI_pL]
  · rw [g4 _ _ (by omega), hτ, g0 _ _ (by omega)]; exact z
  · rw [h9]; unfold noneM; simp (disch := omega) only [gI_eq, gI_ne, gL_pI, gI_pL]; rfl
  · rw [t1]; unfold noneM; simp (disch := omega) only [gI_eq, gI_ne, gL_pI, gI_pL]
  · rw [t2]; unfold noneM; simp (disch := omega) only [gI_eq, gI_ne, gL_pI, gI_pL]
  · rw [t3]; unfold noneM; simp (disch := omega) only [gI_eq, gI_ne, gL_pI, gI_pL]
  · rw [t4]; unfold noneM; simp (disch := omega) only [gI_eq, gI_ne, gL_pI, gI_pL]; rfl
  · have e5 : 0 + 5 + b = 5 + b := by omega
    rw [g4 _ _ (by omega), g3 _ _ (by omega), e5, (b3 b (by omega)).2.2.2, g1 _ _ (by omega), g0 _ _ (by omega)]
    exact (m5 b hb).2.2.2
  · rw [g4 _ _ (by omega), c3 p hp, g2 _ _ (by unfold FY; omega), g1 _ _ (by omega), g0 _ _ (by omega)]
    exact m6 p hp
  · obtain ⟨x1, x2, x3⟩ := a3 i (by omega)
    rw [g4 _ _ (by omega), g4 _ _ (by omega), g4 _ _ (by omega), g3 _ _ (by omega), g3 _ _ (by omega), g3 _ _ (by omega), g2 _ _ (by unfold FY; omega), g2 _ _ (by unfold FY; omega), g2 _ _ (by unfold FY; omega), x1, x2, x3, g0 _ _ (by omega), g0 _ _ (by omega), hs i hi]
    exact ⟨(m4 i hi).1, (m4 i hi).2, rfl, fun c => absurd c (by decide)⟩
  · obtain ⟨x1, x2, x3, -⟩ := b3 b (by omega)
    rw [g4 _ _ (by omega), g4 _ _ (by omega), g4 _ _ (by omega), g3 _ _ (by omega), g3 _ _ (by omega), g3 _ _ (by omega), x1, x2, x3, g1 _ _ (by omega), g1 _ _ (by omega), g1 _ _ (by omega), g0 _ _ (by omega), g0 _ _ (by omega), g0 _ _ (by omega)]
    obtain ⟨y1, y2, y3, -⟩ := m5 b hb
    exact ⟨y1, y2, y3⟩
def WX (k i : Nat) : Prop := (1 ≤ k ∧ k ≤ 15) ∨ (31 ≤ k ∧ k ≤ 46) ∨ (k = 74 ∧ i = 1) ∨ (k = 94 ∧ ¬ (i = 13 ∨ i = 33 ∨ i = 35 ∨ i = 56 ∨ i = 58)) ∨ (95 ≤ k ∧ k ≤ 104) ∨ (106 ≤ k ∧ k ≤ 112)
theorem R1_hall (r : R1 σ) (F : Fq WX σ σ') (h1 : RT σ') (h2 : RR σ') (h3 : ∀ i, i < 5 → gI σ' (35 + i) 2 = 0 ∨ gI σ' (35 + i) 2 = 1) : R1 σ' := by
  obtain ⟨x1, x2, x3, x4, x5, x6, x7, x8⟩ := r
  have g : ∀ k i, ¬ WX k i → gI σ' k i = gI σ k i := F.1
  have S4 : RS (σ'.1, σ.2) := RS_fr x4 (fun k i c => g k i (by unfold WX; omega)) rfl
  refine ⟨h1, h2, RD_fr x3 fun k i c => g k i (by unfold WX; omega), fun s hs => ?_, RH_fr x5 fun k i c => g k i (by unfold WX; omega), RK_fr x6 fun k i c => g k i (by unfold WX; omega), ⟨h3, (g _ _ (by unfold WX; omega)).trans x7.2⟩, RG_fr x8 fun k i c => g k i (by unfold WX; omega)⟩
  obtain ⟨s1, s2, s3⟩ := S4 s hs
  exact ⟨s1, s2, fun i hi => (F.2 120 _ (by omega)).trans (s3 i hi)⟩
theorem RT_0 (h1 : gI σ 46 1 = nI 0) (h2 : gI σ 94 16 = nI 0) : RT σ := ⟨0, by omega, h1, h2, fun i hi => absurd hi (Nat.not_lt_zero i)⟩
theorem op_hall (I : Inv q σ) : OpOk (f_X9_hall 0) (f_X10_hall 94) σ := by
  obtain ⟨ok, C, M, r0, r1⟩ := id I
  obtain ⟨n, hn, n46, n94, tp⟩ := id r1.1
  obtain ⟨T, eT⟩ : ∃ T : Tp, T = (fun i => (gI σ 105 i).toInt.toNat, n) := ⟨_, rfl⟩
  have T2 : T.2 = n := by rw [eT]
  have T1 : ∀ i, i < T.2 → T.1 i < 256 ∧ gI σ 105 i = nI (T.1 i) ∧ gI σ 47 i = bI (T.1 i) := fun i hi => by
    obtain ⟨t, ht, e1, e2⟩ := tp i (by omega)
    have e : T.1 i = t := by
      rw [eT]
      show (gI σ 105 i).toInt.toNat = t
      rw [e1, nI_toInt (by omega)]
      omega
    rw [e]
    exact ⟨ht, e1, e2⟩
  have K : KT T σ := ⟨by omega, by rw [T2]; exact n46, fun i hi => ⟨(T1 i hi).1, (T1 i hi).2.2⟩⟩
  have J : JT T σ := ⟨by omega, by rw [T2]; exact n94, fun i hi => ⟨(T1 i hi).1, (T1 i hi).2.1⟩⟩
  obtain ⟨σ1, a1, a2, a3⟩ := cl_clear r1.2.2.2.2.2.2.1.1
  have f1 : Fr FD σ σ1 := FD_31 a3
  obtain ⟨σ2, b1, b2, b3, b4, b5⟩ := cl_into (KT_fr K fun k i c => a3.1 k i (by unfold FH; omega)) (Dr_0 _) a2
  obtain ⟨s, es⟩ : ∃ s, s = sAll T T.2 ((sk T 0, 1), d0 (gI σ 31 6)) := ⟨_, rfl⟩
  rw [← es] at b1 b2 b3 b4
  have F3 : Fr FD σ (pI σ2 46 1 (nI 0)) := Fr_pI _ (Fr_tr f1 b5) (by unfold FD; omega)
  have C3 : CH 31 s.2 (pI σ2 46 1 (nI 0)) := CH_46 b3 b4 (Fr_pI _ (Fr_rfl _ _) rfl)
  have z46 : gI (pI σ2 46 1 (nI 0)) 46 1 = nI 0 := gI_eq _ _ ⟨rfl, rfl⟩
  have hT : s.1.1 ≤ T.2 := b2.2.1
  have kT := K.1
  have top : f_X9_hall 0 σ = if (if s.1.2 = 0 then nI s.1.1 else -nI 3) = (-3 : Int32) then
      bd1 (f_X2_copy 1 31 (pI (pI σ2 46 1 (nI 0)) 31 6 (gI (pI σ2 46 1 (nI 0)) 1 6))) fun σ11 => some (gI (pI σ11 74 1 (nI 0)) 1 1, pI σ11 74 1 (nI 0))
      else some ((-100 : Int32) - (if s.1.2 = 0 then nI s.1.1 else -nI 3), pI σ2 46 1 (nI 0)) := by
    unfold f_X9_hall
    simp only [Nat.reduceAdd]
    rw [a1, bd1_s, b1, bd2_s]
    rfl
  generalize pI σ2 46 1 (nI 0) = σ3 at *
  have mr : ∀ σc, Fr (fun k i => FD k i ∨ (1 ≤ k ∧ k ≤ 15) ∨ (k = 74 ∧ i = 1)) σ σc → ∃ σm R, f_X10_hall 94 σc = F_X10_hall_50 94 R σm ∧ MS T s.1 σm ∧ (s.1.2 ≠ 0 → MF s.2 σm ∧ T.2 ≤ s.1.1 ∧ sk T s.1.1 = s.1.1) ∧ Fq FX σc σm := fun σc Fc => by
    obtain ⟨σ4, c1, c2, c3, c4⟩ := md_start (JT_fr J fun k i c => Fc.1 k i (by unfold FD; omega)) (gI σ 31 6)
    obtain ⟨σ5, R, e1, e2, e3, e4⟩ := md_all T.2 ((sk T 0, 1), d0 (gI σ 31 6)) σ4 FU (by omega) (FU_lt (by omega)) c2 (fun _ => ⟨c3, sk_sk (Nat.zero_le _)⟩) (Dr_0 _)
    rw [← es] at e1 e2
    exact ⟨σ5, R, c1.trans e4, e1, e2, Fq_tr c4 e3⟩
  by_cases z : s.1.2 = 0
  · have nn : ¬ nI s.1.1 = (-3 : Int32) := by
      show ¬ nI s.1.1 = -nI 3
      rw [nI_eqN (by omega) (by omega) (by omega)]
      exact id
    rw [if_pos z, if_neg nn] at top
    obtain ⟨σm, R, d1, d2, d3, d4⟩ := mr σ3 (Fr_mono F3 fun k i c => .inl c)
    obtain ⟨m22, m18⟩ : gI σm 94 22 = nI 0 ∧ gI σm 94 18 = nI s.1.1 := by
      obtain ⟨-, -, (⟨h, -⟩ | ⟨-, h1, h2⟩)⟩ := d2
      · omega
      · exact ⟨h1, h2⟩
    have FF : Fq WX σ (pI σm 94 16 (nI 0)) := Fq_pI _ (Fq_tr (Fq_mono (Fq_Fr F3) fun k i c => by unfold FD at c; unfold WX; omega) (Fq_mono d4 fun k i c => by unfold FX at c; unfold WX; omega)) (by unfold WX; omega)
    have gm : ∀ k i, ¬ FX k i → ¬ (k = 94 ∧ i = 16) → gI (pI σm 94 16 (nI 0)) k i = gI σ3 k i := fun k i h1 h2 => (gI_ne _ _ h2).trans (d4.1 k i h1)
    have g3 : ∀ k i, ¬ FX k i → ¬ (k = 94 ∧ i = 16) → ¬ FD k i → gI (pI σm 94 16 (nI 0)) k i = gI σ k i := fun k i h1 h2 h3 => (gm k i h1 h2).trans (F3.1 k i h3)
    refine ⟨(-100 : Int32) - nI s.1.1, σ3, pI σm 94 16 (nI 0), q, top, ?_, ok, CH_fr ok C fun k i h1 h2 => g3 k i (by unfold FX; omega) (by omega) (by unfold FD; omega), MH_fr M fun k i c => g3 k i (by unfold FX; omega) (by omega) (by unfold FD; omega), ⟨(g3 _ _ (by unfold FX; omega) (by omega) (by unfold FD; omega)).trans r0.1, (g3 _ _ (by unfold FX; omega) (by omega) (by unfold FD; omega)).trans r0.2⟩, R1_hall r1 FF (RT_0 ((gm _ _ (by unfold FX; omega) (by omega)).trans z46) (gI_eq _ _ ⟨rfl, rfl⟩)) (RR_fr r1.2.1 fun k i c => g3 k i (by unfold FX; omega) (by omega) (by unfold FD; omega)) fun i hi => ?_⟩
    · rw [d1]
      unfold F_X10_hall_50
      rw [if_pos (by rw [m22]; rfl), bd1_s, if_pos, gI_ne _ _ (by omega), m18]
      · rfl
      · rw [gI_ne _ _ (by omega), m22]; rfl
    · have h := C3.2.2.1.2 i hi
      have e35 : 31 + 4 + i = 35 + i := by omega
      rw [e35] at h
      rw [gm _ _ (by unfold FX; omega) (by omega)]
      exact h
  · rw [if_neg z, if_pos (show -nI 3 = (-3 : Int32) from rfl)] at top
    have g16 : gI σ3 1 6 = q.2 := (F3.1 _ _ (by unfold FD; omega)).trans C.1.2.2.2.1
    rw [g16] at top
    obtain ⟨u, eu⟩ : ∃ u, u = qz s.2 q.2 := ⟨_, rfl⟩
    have Du : Dr u := by rw [eu]; exact b3
    have C4 : CH 31 u (pI σ3 31 6 q.2) := by
      obtain ⟨⟨y1, y2, y3, y4, y5, y6⟩, yd, yl, yb⟩ := C3
      have hn5 := b3.1.1.1
      have hm6 := b3.1.2.1.1
      rw [eu]
      refine ⟨⟨?_, ?_, ?_, gI_eq _ _ ⟨rfl, rfl⟩, ?_, fun c => absurd b3.2.1 c⟩, fun j hj => (gI_ne _ _ (by omega)).trans (yd j hj), CHl_fr (σ := σ3) (q := s.2) hn5 yl fun j i hj => gI_ne _ _ (by omega), CHb_fr (σ := σ3) (q := s.2) hm6 yb fun j i hj => gI_ne _ _ (by omega)⟩
      · exact (gI_ne _ _ (by omega)).trans y1
      · exact (gI_ne _ _ (by omega)).trans y2
      · exact (gI_ne _ _ (by omega)).trans y3
      · exact (gI_ne _ _ (by omega)).trans y5
    obtain ⟨σ5, c1, c2, c3⟩ := cl_copy (h := 31) (h' := 1) (σ := pI σ3 31 6 q.2) (.inr (.inr (.inl rfl))) (.inl rfl) (by omega) C4.2.2.1.2
    have C5 : CH 1 u σ5 := Cp_CH Du.1.1 Du.1.2.1 c2 C4
    rw [c1, bd1_s] at top
    have F4 : Fr (fun k i => FD k i ∨ (1 ≤ k ∧ k ≤ 15) ∨ (k = 74 ∧ i = 1)) σ (pI σ5 74 1 (nI 0)) := Fr_pI _ (Fr_tr (Fr_mono F3 fun k i c => .inl c) (Fr_tr (Fr_pI _ (Fr_rfl _ _) (.inl (by unfold FD; omega))) (Fr_mono c3 fun k i c => by unfold FH at c; exact .inr (.inl (by omega))))) (.inr (.inr ⟨rfl, rfl⟩))
    obtain ⟨σm, R, d1, d2, d3, d4⟩ := mr _ F4
    obtain ⟨M1, l1, l2⟩ := d3 z
    have hm : ∀ k i, ¬ FX k i → gI σm k i = gI (pI σ5 74 1 (nI 0)) k i := d4.1
    have h4 : ∀ k i, ¬ (FD k i ∨ (1 ≤ k ∧ k ≤ 15) ∨ (k = 74 ∧ i = 1)) → gI (pI σ5 74 1 (nI 0)) k i = gI σ k i := F4.1
    obtain ⟨m22, K5⟩ : gI σm 94 22 = nI 1 ∧ Tok T s.1.1 σm := by
      obtain ⟨-, -, (⟨-, h1, h2⟩ | ⟨h, -⟩)⟩ := d2
      · rw [l2] at h2
        exact ⟨h1, h2⟩
      · exact absurd h z
    have m17 : gI σm 94 17 = nI 0 := by
      have := K5.2.1
      rw [this]
      have e : tS T s.1.1 = 0 := if_pos l1
      rw [e]
    have Mu : MF u (pI σm 94 16 (nI 0)) := by
      rw [eu]
      exact MF_fr (d := s.2) M1 fun k i c => gI_ne _ _ (by omega)
    have at5 : gI (pI σm 94 16 (nI 0)) 94 13 = nI 0 := by
      rw [gI_ne _ _ (by omega), hm _ _ (by unfold FX; omega), h4 _ _ (by unfold FD; omega)]; exact r0.1
    have z5 : gI (pI σm 94 16 (nI 0)) 94 14 = u.2 := by
      rw [gI_ne _ _ (by omega), hm _ _ (by unfold FX; omega), h4 _ _ (by unfold FD; omega), eu]; exact M.1.2.2.2
    obtain ⟨σt, t1, t2, t3⟩ := md_turns Mu Du at5 z5
    have ht : ∀ k i, ¬ FZ k i → gI σt k i = gI (pI σm 94 16 (nI 0)) k i := t3.1
    have gm : ∀ k i, ¬ FX k i → ¬ FZ k i → ¬ (k = 94 ∧ (i = 16 ∨ i = 45)) → gI (pI σt 94 45 (nI 0)) k i = gI (pI σ5 74 1 (nI 0)) k i := fun k i n1 n2 n3 => by
      rw [gI_ne _ _ (by omega), ht k i n2, gI_ne _ _ (by omega), hm k i n1]
    have FF : Fq WX σ (pI σt 94 45 (nI 0)) := Fq_pI _ (Fq_tr (Fq_mono (Fq_Fr F4) fun k i c => by unfold FD at c; unfold WX; omega) (Fq_tr (Fq_mono d4 fun k i c => by unfold FX at c; unfold WX; omega) (Fq_tr (Fq_pI _ (Fq_rfl _ _) (by unfold WX; omega)) (Fq_mono (Fq_Fr t3) fun k i c => by unfold FZ at c; unfold WX; omega)))) (by unfold WX; omega)
    have C6 : CH 1 u (pI σ5 74 1 (nI 0)) := CH_fr Du.1 C5 fun k i h1 h2 => gI_ne _ _ (by omega)
    have z6 : gI (pI σ5 74 1 (nI 0)) 46 1 = nI 0 := by
      rw [gI_ne _ _ (by omega), c3.1 _ _ (by unfold FH; omega), gI_ne _ _ (by omega)]; exact z46
    refine ⟨nI u.n, pI σ5 74 1 (nI 0), pI σt 94 45 (nI 0), u, ?_, ?_, Du.1, CH_fr Du.1 C6 fun k i h1 h2 => gm k i (by unfold FX; omega) (by unfold FZ; omega) (by omega), MH_fr t2 fun k i c => gI_ne _ _ (by omega), ⟨?_, ?_⟩, R1_hall r1 FF (RT_0 ((gm _ _ (by unfold FX; omega) (by unfold FZ; omega) (by omega)).trans z6) ?_) ⟨0, by omega, ?_, gI_eq _ _ ⟨rfl, rfl⟩, fun j hj => absurd hj (by omega)⟩ fun i hi => ?_⟩
    · rw [top, C6.1.1]
    · rw [d1]
      unfold F_X10_hall_50
      rw [if_neg (by rw [m22]; exact n10), if_pos (by rw [m17]; rfl), bd1_s, if_neg (by rw [gI_ne _ _ (by omega), m22]; exact n10)]
      have t1 : f_X10_turnsInto 94 (pI σm 94 16 (0 : Int32)) = some σt := t1
      rw [t1, bd1_s, bd1_s, gI_ne _ _ (by omega), t2.1.1]
      rfl
    · rw [gm _ _ (by unfold FX; omega) (by unfold FZ; omega) (by omega), h4 _ _ (by unfold FD; omega)]; exact r0.1
    · rw [gm _ _ (by unfold FX; omega) (by unfold FZ; omega) (by omega), h4 _ _ (by unfold FD; omega)]; exact r0.2
    · rw [gI_ne _ _ (by omega), ht _ _ (by unfold FZ; omega)]
      exact gI_eq _ _ ⟨rfl, rfl⟩
    · rw [gm _ _ (by unfold FX; omega) (by unfold FZ; omega) (by omega)]
      exact gI_eq _ _ ⟨rfl, rfl⟩
    · have h := C4.2.2.1.2 i hi
      have e35 : 31 + 4 + i = 35 + i := by omega
      rw [e35] at h
      rw [gm _ _ (by unfold FX; omega) (by unfold FZ; omega) (by omega), gI_ne _ _ (by omega), c3.1 _ _ (by unfold FH; omega)]
      exact h
end
