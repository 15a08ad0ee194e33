/-! the text of a hall: the model's clauses -/
def FX (k i : Nat) : Prop := (k = 94 ∧ 17 ≤ i ∧ i ≤ 25) ∨ (106 ≤ k ∧ k ≤ 112)
/-- the model's fresh hall is d -/
def MF (d : HQ) (σ : Mem) : Prop := (gI σ 94 23 = nI d.n ∧ gI σ 94 24 = nI d.m ∧ gI σ 94 25 = nI d.step) ∧ (∀ i, i < d.n → gI σ 106 i = nI (d.wax i) ∧ gI σ 107 i = nI (d.worth i)) ∧ (∀ b, b < d.m → gI σ 108 b = nI (d.kind b) ∧ gI σ 109 b = nI (d.a b) ∧ gI σ 110 b = nI (d.val b) ∧ gI σ 111 b = nI (d.purse b)) ∧ ∀ p, p < 12 → gI σ 112 p = nI (d.dr p)
section
variable {q d : HQ} {σ σ' : Mem} {T : Tp} {lo hi p b e w v k a : Nat} {x : Nat × Nat}
theorem MF_fr (M : MF d σ) (g : ∀ k i, (k = 94 ∧ 23 ≤ i ∧ i ≤ 25) ∨ (106 ≤ k ∧ k ≤ 112) → gI σ' k i = gI σ k i) : MF d σ' := by
  obtain ⟨⟨m1, m2, m3⟩, m4, m5, m6⟩ := M
  refine ⟨⟨(g _ _ (by omega)).trans m1, (g _ _ (by omega)).trans m2, (g _ _ (by omega)).trans m3⟩, fun i hi => ?_, fun i hi => ?_, fun i hi => (g _ _ (by omega)).trans (m6 i hi)⟩
  · rw [g _ _ (by omega), g _ _ (by omega)]; exact m4 i hi
  · rw [g _ _ (by omega), g _ _ (by omega), g _ _ (by omega), g _ _ (by omega)]; exact m5 i hi
theorem MF_W (M : MF d σ) (F : Fq FW σ σ') : MF d σ' := MF_fr M fun k i c => F.1 k i (by unfold FW; omega)
theorem FX_W {σ σ' : Mem} (F : Fq FW σ σ') : Fq FX σ σ' := Fq_mono F fun k i c => by unfold FW at c; unfold FX; omega
theorem MS_fr (S : MS T x σ) (g : ∀ k i, (k = 94 ∧ 16 ≤ i ∧ i ≤ 22) ∨ k = 105 → gI σ' k i = gI σ k i) (l : gL σ' 94 20 = gL σ 94 20) : MS T x σ' := by
  obtain ⟨J, hp, S⟩ := S
  refine ⟨JT_fr J fun k i c => g k i (by omega), hp, ?_⟩
  rcases S with ⟨s1, s2, s3⟩ | ⟨s1, s2, s3⟩
  · exact .inl ⟨s1, (g _ _ (by omega)).trans s2, Tok_fr s3 (fun i h1 h2 => g _ _ (by omega)) l⟩
  · exact .inr ⟨s1, (g _ _ (by omega)).trans s2, (g _ _ (by omega)).trans s3⟩
theorem MS_if (S : MS T x σ) : (x.2 = 0 ∧ gI σ 94 22 = (0 : Int32)) ∨ (x.2 = 1 ∧ ¬ gI σ 94 22 = (0 : Int32)) := by
  obtain ⟨K, hp, S⟩ := S
  rcases S with ⟨x2, e2, e3⟩ | ⟨x2, e3, -⟩
  · exact .inr ⟨x2, by rw [e2]; exact n10⟩
  · exact .inl ⟨x2, e3⟩
theorem MF_addL (M : MF d σ) (h : d.n < 5) : MF (addL d w v) (pI (pI (pI σ 106 d.n (nI w)) 107 d.n (nI v)) 94 23 (nI (d.n + 1))) := by
  obtain ⟨⟨m1, m2, m3⟩, m4, m5, m6⟩ := M
  unfold addL
  refine ⟨⟨?_, ?_, ?_⟩, fun i hi => ?_, fun i hi => ?_, fun i hi => ?_⟩
  · simp (disch := omega) only [n_qs, n_qt, wax_qs, wax_qt, worth_qs, worth_qt, sold_qs, sold_qt, price_qs, price_qt, buyer_qs, buyer_qt, m_qs, m_qt, kind_qs, kind_qt, a_qs, a_qt, val_qs, val_qt, purse_qs, purse_qt, dr_qs, dr_qt, step_qs, step_qt, lit_qs, lit_qt, tick_qs, tick_qt, burnt_qs, burnt_qt, high_qs, high_qt, holder_qs, holder_qt, z_qs, gI_eq, gI_ne, gL_pI, gI_pL]
  · simp (disch := omega) only [n_qs, n_qt, wax_qs, wax_qt, worth_qs, worth_qt, sold_qs, sold_qt, price_qs, price_qt, buyer_qs, buyer_qt, m_qs, m_qt, kind_qs, kind_qt, a_qs, a_qt, val_qs, val_qt, purse_qs, purse_qt, dr_qs, dr_qt, step_qs, step_qt, lit_qs, lit_qt, tick_qs, tick_qt, burnt_qs, burnt_qt, high_qs, high_qt, holder_qs, holder_qt, z_qs, gI_eq, gI_ne, gL_pI, gI_pL]; exact m2
  · simp (disch := omega) only [n_qs, n_qt, wax_qs, wax_qt, worth_qs, worth_qt, sold_qs, sold_qt, price_qs, price_qt, buyer_qs, buyer_qt, m_qs, m_qt, kind_qs, kind_qt, a_qs, a_qt, val_qs, val_qt, purse_qs, purse_qt, dr_qs, dr_qt, step_qs, step_qt, lit_qs, lit_qt, tick_qs, tick_qt, burnt_qs, burnt_qt, high_qs, high_qt, holder_qs, holder_qt, z_qs, gI_eq, gI_ne, gL_pI, gI_pL]; exact m3
  · have hi : i < d.n + 1 := hi
    by_cases c : i = d.n
    · simp (disch := omega) only [n_qs, n_qt, wax_qs, wax_qt, worth_qs, worth_qt, sold_qs, sold_qt, price_qs, price_qt, buyer_qs, buyer_qt, m_qs, m_qt, kind_qs, kind_qt, a_qs, a_qt, val_qs, val_qt, purse_qs, purse_qt, dr_qs, dr_qt, step_qs, step_qt, lit_qs, lit_qt, tick_qs, tick_qt, burnt_qs, burnt_qt, high_qs, high_qt, holder_qs, holder_qt, z_qs, gI_eq, gI_ne, gL_pI, gI_pL, and_self]
    · simp (disch := omega) only [n_qs, n_qt, wax_qs, wax_qt, worth_qs, worth_qt, sold_qs, sold_qt, price_qs, price_qt, buyer_qs, buyer_qt, m_qs, m_qt, kind_qs, kind_qt, a_qs, a_qt, val_qs, val_qt, purse_qs, purse_qt, dr_qs, dr_qt, step_qs, step_qt, lit_qs, lit_qt, tick_qs, tick_qt, burnt_qs, burnt_qt, high_qs, high_qt, holder_qs, holder_qt, z_qs, gI_eq, gI_ne, gL_pI, gI_pL]; exact m4 i (by omega)
  · have hi : i < d.m := hi
    simp (disch := omega) only [n_qs, n_qt, wax_qs, wax_qt, worth_qs, worth_qt, sold_qs, sold_qt, price_qs, price_qt, buyer_qs, buyer_qt, m_qs, m_qt, kind_qs, kind_qt, a_qs, a_qt, val_qs, val_qt, purse_qs, purse_qt, dr_qs, dr_qt, step_qs, step_qt, lit_qs, lit_qt, tick_qs, tick_qt, burnt_qs, burnt_qt, high_qs, high_qt, holder_qs, holder_qt, z_qs, gI_eq, gI_ne, gL_pI, gI_pL]; exact m5 i hi
  · simp (disch := omega) only [n_qs, n_qt, wax_qs, wax_qt, worth_qs, worth_qt, sold_qs, sold_qt, price_qs, price_qt, buyer_qs, buyer_qt, m_qs, m_qt, kind_qs, kind_qt, a_qs, a_qt, val_qs, val_qt, purse_qs, purse_qt, dr_qs, dr_qt, step_qs, step_qt, lit_qs, lit_qt, tick_qs, tick_qt, burnt_qs, burnt_qt, high_qs, high_qt, holder_qs, holder_qt, z_qs, gI_eq, gI_ne, gL_pI, gI_pL]; exact m6 i hi
theorem MF_addB (M : MF d σ) (h : d.m < 6) : MF (addB d k a v p) (pI (pI (pI (pI (pI σ 108 d.m (nI k)) 109 d.m (nI a)) 110 d.m (nI v)) 111 d.m (nI p)) 94 24 (nI (d.m + 1))) := by
  obtain ⟨⟨m1, m2, m3⟩, m4, m5, m6⟩ := M
  unfold addB
  refine ⟨⟨?_, ?_, ?_⟩, fun i hi => ?_, fun i hi => ?_, fun i hi => ?_⟩
  · simp (disch := omega) only [n_qs, n_qt, wax_qs, wax_qt, worth_qs, worth_qt, sold_qs, sold_qt, price_qs, price_qt, buyer_qs, buyer_qt, m_qs, m_qt, kind_qs, kind_qt, a_qs, a_qt, val_qs, val_qt, purse_qs, purse_qt, dr_qs, dr_qt, step_qs, step_qt, lit_qs, lit_qt, tick_qs, tick_qt, burnt_qs, burnt_qt, high_qs, high_qt, holder_qs, holder_qt, z_qs, gI_eq, gI_ne, gL_pI, gI_pL]; exact m1
  · simp (disch := omega) only [n_qs, n_qt, wax_qs, wax_qt, worth_qs, worth_qt, sold_qs, sold_qt, price_qs, price_qt, buyer_qs, buyer_qt, m_qs, m_qt, kind_qs, kind_qt, a_qs, a_qt, val_qs, val_qt, purse_qs, purse_qt, dr_qs, dr_qt, step_qs, step_qt, lit_qs, lit_qt, tick_qs, tick_qt, burnt_qs, burnt_qt, high_qs, high_qt, holder_qs, holder_qt, z_qs, gI_eq, gI_ne, gL_pI, gI_pL]
  · simp (disch := omega) only [n_qs, n_qt, wax_qs, wax_qt, worth_qs, worth_qt, sold_qs, sold_qt, price_qs, price_qt, buyer_qs, buyer_qt, m_qs, m_qt, kind_qs, kind_qt, a_qs, a_qt, val_qs, val_qt, purse_qs, purse_qt, dr_qs, dr_qt, step_qs, step_qt, lit_qs, lit_qt, tick_qs, tick_qt, burnt_qs, burnt_qt, high_qs, high_qt, holder_qs, holder_qt, z_qs, gI_eq, gI_ne, gL_pI, gI_pL]; exact m3
  · have hi : i < d.n := hi
    simp (disch := omega) only [n_qs, n_qt, wax_qs, wax_qt, worth_qs, worth_qt, sold_qs, sold_qt, price_qs, price_qt, buyer_qs, buyer_qt, m_qs, m_qt, kind_qs, kind_qt, a_qs, a_qt, val_qs, val_qt, purse_qs, purse_qt, dr_qs, dr_qt, step_qs, step_qt, lit_qs, lit_qt, tick_qs, tick_qt, burnt_qs, burnt_qt, high_qs, high_qt, holder_qs, holder_qt, z_qs, gI_eq, gI_ne, gL_pI, gI_pL]; exact m4 i hi
  · have hi : i < d.m + 1 := hi
    by_cases c : i = d.m
    · simp (disch := omega) only [n_qs, n_qt, wax_qs, wax_qt, worth_qs, worth_qt, sold_qs, sold_qt, price_qs, price_qt, buyer_qs, buyer_qt, m_qs, m_qt, kind_qs, kind_qt, a_qs, a_qt, val_qs, val_qt, purse_qs, purse_qt, dr_qs, dr_qt, step_qs, step_qt, lit_qs, lit_qt, tick_qs, tick_qt, burnt_qs, burnt_qt, high_qs, high_qt, holder_qs, holder_qt, z_qs, gI_eq, gI_ne, gL_pI, gI_pL, and_self]
    · simp (disch := omega) only [n_qs, n_qt, wax_qs, wax_qt, worth_qs, worth_qt, sold_qs, sold_qt, price_qs, price_qt, buyer_qs, buyer_qt, m_qs, m_qt, kind_qs, kind_qt, a_qs, a_qt, val_qs, val_qt, purse_qs, purse_qt, dr_qs, dr_qt, step_qs, step_qt, lit_qs, lit_qt, tick_qs, tick_qt, burnt_qs, burnt_qt, high_qs, high_qt, holder_qs, holder_qt, z_qs, gI_eq, gI_ne, gL_pI, gI_pL]; exact m5 i (by omega)
  · simp (disch := omega) only [n_qs, n_qt, wax_qs, wax_qt, worth_qs, worth_qt, sold_qs, sold_qt, price_qs, price_qt, buyer_qs, buyer_qt, m_qs, m_qt, kind_qs, kind_qt, a_qs, a_qt, val_qs, val_qt, purse_qs, purse_qt, dr_qs, dr_qt, step_qs, step_qt, lit_qs, lit_qt, tick_qs, tick_qt, burnt_qs, burnt_qt, high_qs, high_qt, holder_qs, holder_qt, z_qs, gI_eq, gI_ne, gL_pI, gI_pL]; exact m6 i hi
theorem MF_setD (M : MF d σ) : MF (qs d 11 p v) (pI σ 112 p (nI v)) := by
  obtain ⟨⟨m1, m2, m3⟩, m4, m5, m6⟩ := M
  refine ⟨⟨?_, ?_, ?_⟩, fun i hi => ?_, fun i hi => ?_, fun i hi => ?_⟩
  · simp (disch := omega) only [n_qs, n_qt, wax_qs, wax_qt, worth_qs, worth_qt, sold_qs, sold_qt, price_qs, price_qt, buyer_qs, buyer_qt, m_qs, m_qt, kind_qs, kind_qt, a_qs, a_qt, val_qs, val_qt, purse_qs, purse_qt, dr_qs, dr_qt, step_qs, step_qt, lit_qs, lit_qt, tick_qs, tick_qt, burnt_qs, burnt_qt, high_qs, high_qt, holder_qs, holder_qt, z_qs, gI_eq, gI_ne, gL_pI, gI_pL]; exact m1
  · simp (disch := omega) only [n_qs, n_qt, wax_qs, wax_qt, worth_qs, worth_qt, sold_qs, sold_qt, price_qs, price_qt, buyer_qs, buyer_qt, m_qs, m_qt, kind_qs, kind_qt, a_qs, a_qt, val_qs, val_qt, purse_qs, purse_qt, dr_qs, dr_qt, step_qs, step_qt, lit_qs, lit_qt, tick_qs, tick_qt, burnt_qs, burnt_qt, high_qs, high_qt, holder_qs, holder_qt, z_qs, gI_eq, gI_ne, gL_pI, gI_pL]; exact m2
  · simp (disch := omega) only [n_qs, n_qt, wax_qs, wax_qt, worth_qs, worth_qt, sold_qs, sold_qt, price_qs, price_qt, buyer_qs, buyer_qt, m_qs, m_qt, kind_qs, kind_qt, a_qs, a_qt, val_qs, val_qt, purse_qs, purse_qt, dr_qs, dr_qt, step_qs, step_qt, lit_qs, lit_qt, tick_qs, tick_qt, burnt_qs, burnt_qt, high_qs, high_qt, holder_qs, holder_qt, z_qs, gI_eq, gI_ne, gL_pI, gI_pL]; exact m3
  · have hi : i < d.n := hi
    simp (disch := omega) only [n_qs, n_qt, wax_qs, wax_qt, worth_qs, worth_qt, sold_qs, sold_qt, price_qs, price_qt, buyer_qs, buyer_qt, m_qs, m_qt, kind_qs, kind_qt, a_qs, a_qt, val_qs, val_qt, purse_qs, purse_qt, dr_qs, dr_qt, step_qs, step_qt, lit_qs, lit_qt, tick_qs, tick_qt, burnt_qs, burnt_qt, high_qs, high_qt, holder_qs, holder_qt, z_qs, gI_eq, gI_ne, gL_pI, gI_pL]; exact m4 i hi
  · have hi : i < d.m := hi
    simp (disch := omega) only [n_qs, n_qt, wax_qs, wax_qt, worth_qs, worth_qt, sold_qs, sold_qt, price_qs, price_qt, buyer_qs, buyer_qt, m_qs, m_qt, kind_qs, kind_qt, a_qs, a_qt, val_qs, val_qt, purse_qs, purse_qt, dr_qs, dr_qt, step_qs, step_qt, lit_qs, lit_qt, tick_qs, tick_qt, burnt_qs, burnt_qt, high_qs, high_qt, holder_qs, holder_qt, z_qs, gI_eq, gI_ne, gL_pI, gI_pL]; exact m5 i hi
  · by_cases c : i = p
    · simp (disch := omega) only [n_qs, n_qt, wax_qs, wax_qt, worth_qs, worth_qt, sold_qs, sold_qt, price_qs, price_qt, buyer_qs, buyer_qt, m_qs, m_qt, kind_qs, kind_qt, a_qs, a_qt, val_qs, val_qt, purse_qs, purse_qt, dr_qs, dr_qt, step_qs, step_qt, lit_qs, lit_qt, tick_qs, tick_qt, burnt_qs, burnt_qt, high_qs, high_qt, holder_qs, holder_qt, z_qs, gI_eq, gI_ne, gL_pI, gI_pL]
    · simp (disch := omega) only [n_qs, n_qt, wax_qs, wax_qt, worth_qs, worth_qt, sold_qs, sold_qt, price_qs, price_qt, buyer_qs, buyer_qt, m_qs, m_qt, kind_qs, kind_qt, a_qs, a_qt, val_qs, val_qt, purse_qs, purse_qt, dr_qs, dr_qt, step_qs, step_qt, lit_qs, lit_qt, tick_qs, tick_qt, burnt_qs, burnt_qt, high_qs, high_qt, holder_qs, holder_qt, z_qs, gI_eq, gI_ne, gL_pI, gI_pL]; exact m6 i hi
theorem MF_setS (M : MF d σ) : MF (qs d 12 0 v) (pI σ 94 25 (nI v)) := by
  obtain ⟨⟨m1, m2, m3⟩, m4, m5, m6⟩ := M
  refine ⟨⟨?_, ?_, ?_⟩, fun i hi => ?_, fun i hi => ?_, fun i hi => ?_⟩
  · simp (disch := omega) only [n_qs, n_qt, wax_qs, wax_qt, worth_qs, worth_qt, sold_qs, sold_qt, price_qs, price_qt, buyer_qs, buyer_qt, m_qs, m_qt, kind_qs, kind_qt, a_qs, a_qt, val_qs, val_qt, purse_qs, purse_qt, dr_qs, dr_qt, step_qs, step_qt, lit_qs, lit_qt, tick_qs, tick_qt, burnt_qs, burnt_qt, high_qs, high_qt, holder_qs, holder_qt, z_qs, gI_eq, gI_ne, gL_pI, gI_pL]; exact m1
  · simp (disch := omega) only [n_qs, n_qt, wax_qs, wax_qt, worth_qs, worth_qt, sold_qs, sold_qt, price_qs, price_qt, buyer_qs, buyer_qt, m_qs, m_qt, kind_qs, kind_qt, a_qs, a_qt, val_qs, val_qt, purse_qs, purse_qt, dr_qs, dr_qt, step_qs, step_qt, lit_qs, lit_qt, tick_qs, tick_qt, burnt_qs, burnt_qt, high_qs, high_qt, holder_qs, holder_qt, z_qs, gI_eq, gI_ne, gL_pI, gI_pL]; exact m2
  · simp (disch := omega) only [n_qs, n_qt, wax_qs, wax_qt, worth_qs, worth_qt, sold_qs, sold_qt, price_qs, price_qt, buyer_qs, buyer_qt, m_qs, m_qt, kind_qs, kind_qt, a_qs, a_qt, val_qs, val_qt, purse_qs, purse_qt, dr_qs, dr_qt, step_qs, step_qt, lit_qs, lit_qt, tick_qs, tick_qt, burnt_qs, burnt_qt, high_qs, high_qt, holder_qs, holder_qt, z_qs, gI_eq, gI_ne, gL_pI, gI_pL]
  · have hi : i < d.n := hi
    simp (disch := omega) only [n_qs, n_qt, wax_qs, wax_qt, worth_qs, worth_qt, sold_qs, sold_qt, price_qs, price_qt, buyer_qs, buyer_qt, m_qs, m_qt, kind_qs, kind_qt, a_qs, a_qt, val_qs, val_qt, purse_qs, purse_qt, dr_qs, dr_qt, step_qs, step_qt, lit_qs, lit_qt, tick_qs, tick_qt, burnt_qs, burnt_qt, high_qs, high_qt, holder_qs, holder_qt, z_qs, gI_eq, gI_ne, gL_pI, gI_pL]; exact m4 i hi
  · have hi : i < d.m := hi
    simp (disch := omega) only [n_qs, n_qt, wax_qs, wax_qt, worth_qs, worth_qt, sold_qs, sold_qt, price_qs, price_qt, buyer_qs, buyer_qt, m_qs, m_qt, kind_qs, kind_qt, a_qs, a_qt, val_qs, val_qt, purse_qs, purse_qt, dr_qs, dr_qt, step_qs, step_qt, lit_qs, lit_qt, tick_qs, tick_qt, burnt_qs, burnt_qt, high_qs, high_qt, holder_qs, holder_qt, z_qs, gI_eq, gI_ne, gL_pI, gI_pL]; exact m5 i hi
  · simp (disch := omega) only [n_qs, n_qt, wax_qs, wax_qt, worth_qs, worth_qt, sold_qs, sold_qt, price_qs, price_qt, buyer_qs, buyer_qt, m_qs, m_qt, kind_qs, kind_qt, a_qs, a_qt, val_qs, val_qt, purse_qs, purse_qt, dr_qs, dr_qt, step_qs, step_qt, lit_qs, lit_qt, tick_qs, tick_qt, burnt_qs, burnt_qt, high_qs, high_qt, holder_qs, holder_qt, z_qs, gI_eq, gI_ne, gL_pI, gI_pL]; exact m6 i hi
theorem md_lot28 (S : MS T x σ) (hx : x.2 ≠ 0 → MF d σ ∧ d.n < 5) : ∃ σ', F_X10_wantLot_28 94 σ = some σ' ∧ MS T (sEnd T (sNum T 1 99 (sWord T 7 (sNum T 1 60 x)))) σ' ∧ ((sEnd T (sNum T 1 99 (sWord T 7 (sNum T 1 60 x)))).2 ≠ 0 → MF (addL d (nuT T (sk T x.1)) (nuT T (sk T (sWord T 7 (sNum T 1 60 x)).1))) σ') ∧ Fq FX σ σ' := by
  obtain ⟨r1, σ1, a1, S1, v1, F1⟩ := md_num (lo := 1) (hi := 60) S (by omega) (by omega)
  obtain ⟨σ2, a2, S2, F2⟩ := md_word (w := 7) S1 (by omega)
  obtain ⟨r3, σ3, a3, S3, v3, F3⟩ := md_num (lo := 1) (hi := 99) S2 (by omega) (by omega)
  obtain ⟨σ4, a4, S4, F4⟩ := md_end S3
  have F := Fq_tr F1 (Fq_tr F2 (Fq_tr F3 F4))
  have c7 : (12532058 : Int64) = nL (cod 7) := by rw [cod_t.2.2.2.2.2.2.2.1]; rfl
  unfold F_X10_wantLot_28
  rw [nI_lit 1, nI_lit 60, a1, bd2_s, c7, a2, bd1_s, nI_lit 99, a3, bd2_s, a4, bd1_s]
  rcases MS_if S4 with ⟨z, y⟩ | ⟨z, y⟩
  · rw [if_pos y]
    exact ⟨σ4, rfl, S4, fun c => absurd z c, FX_W F⟩
  · have z' : (sEnd T (sNum T 1 99 (sWord T 7 (sNum T 1 60 x)))).2 ≠ 0 := by omega
    have z3 := sEnd_nz z'
    have z1 := sWord_nz (sNum_nz z3)
    obtain ⟨M, h5⟩ := hx (sNum_nz z1)
    have M4 := MF_W M F
    have i1 : ixo 106 (nI d.n) = some d.n := ixo_106 (by omega)
    have i2 : ixo 107 (nI d.n) = some d.n := ixo_107 (by omega)
    have e1 := v1 z1
    have e3 := v3 z3
    rw [if_neg y]
    simp only [Nat.reduceAdd, M4.1.1, i1, bd1_s]
    rw [gI_ne _ _ (by omega), M4.1.1]
    simp only [Nat.reduceAdd, i2, bd1_s]
    rw [gI_ne _ _ (by omega), gI_ne _ _ (by omega), M4.1.1, nI_addE, e1, e3]
    refine ⟨_, rfl, MS_fr S4 (fun k i c => by rw [gI_ne _ _ (by omega), gI_ne _ _ (by omega), gI_ne _ _ (by omega)]) rfl, fun _ => MF_addL M4 h5, Fq_tr (FX_W F) ?_⟩
    exact Fq_pI _ (Fq_pI _ (Fq_pI _ (Fq_rfl _ _) (by unfold FX; omega)) (by unfold FX; omega)) (by unfold FX; omega)
theorem md_bid29 (S : MS T x σ) (hx : x.2 ≠ 0 → MF d σ ∧ d.m < 6) : ∃ σ', F_X10_wantBidder_29 94 (nI k) σ = some σ' ∧ MS T (sEnd T (sNum T 0 9999 (sWord T 9 (sNum T 0 999 (sWord T 8 (sNum T 0 9 x)))))) σ' ∧ ((sEnd T (sNum T 0 9999 (sWord T 9 (sNum T 0 999 (sWord T 8 (sNum T 0 9 x)))))).2 ≠ 0 → MF (addB d k (nuT T (sk T x.1)) (nuT T (sk T (sWord T 8 (sNum T 0 9 x)).1)) (nuT T (sk T (sWord T 9 (sNum T 0 999 (sWord T 8 (sNum T 0 9 x)))).1))) σ') ∧ Fq FX σ σ' := by
  obtain ⟨r1, σ1, a1, S1, v1, F1⟩ := md_num (lo := 0) (hi := 9) S (by omega) (by omega)
  obtain ⟨σ2, a2, S2, F2⟩ := md_word (w := 8) S1 (by omega)
  obtain ⟨r3, σ3, a3, S3, v3, F3⟩ := md_num (lo := 0) (hi := 999) S2 (by omega) (by omega)
  obtain ⟨σ4, a4, S4, F4⟩ := md_word (w := 9) S3 (by omega)
  obtain ⟨r5, σ5, a5, S5, v5, F5⟩ := md_num (lo := 0) (hi := 9999) S4 (by omega) (by omega)
  obtain ⟨σ6, a6, S6, F6⟩ := md_end S5
  have F := Fq_tr F1 (Fq_tr F2 (Fq_tr F3 (Fq_tr F4 (Fq_tr F5 F6))))
  have c8 : (11720705 : Int64) = nL (cod 8) := by rw [cod_t.2.2.2.2.2.2.2.2.1]; rfl
  have c9 : (8930039 : Int64) = nL (cod 9) := by rw [cod_t.2.2.2.2.2.2.2.2.2.1]; rfl
  unfold F_X10_wantBidder_29
  rw [nI_lit 0, nI_lit 9, a1, bd2_s, c8, a2, bd1_s, nI_lit 999, a3, bd2_s, c9, a4, bd1_s, nI_lit 9999, a5, bd2_s, a6, bd1_s]
  rcases MS_if S6 with ⟨z, y⟩ | ⟨z, y⟩
  · have y : gI σ6 94 22 = nI 0 := y
    rw [if_pos y]
    exact ⟨σ6, rfl, S6, fun c => absurd z c, FX_W F⟩
  · have y : ¬ gI σ6 94 22 = nI 0 := y
    have z' : (sEnd T (sNum T 0 9999 (sWord T 9 (sNum T 0 999 (sWord T 8 (sNum T 0 9 x)))))).2 ≠ 0 := by omega
    have z5 := sEnd_nz z'
    have z3 := sWord_nz (sNum_nz z5)
    have z1 := sWord_nz (sNum_nz z3)
    obtain ⟨M, h5⟩ := hx (sNum_nz z1)
    have M6 := MF_W M F
    have m6 := M6.1.2.1
    have i1 : ixo 108 (nI d.m) = some d.m := ixo_108 (by omega)
    have i2 : ixo 109 (nI d.m) = some d.m := ixo_109 (by omega)
    have i3 : ixo 110 (nI d.m) = some d.m := ixo_110 (by omega)
    have i4 : ixo 111 (nI d.m) = some d.m := ixo_111 (by omega)
    rw [if_neg y, v1 z1, v3 z3, v5 z5]
    have top : (bd1 (ixo (94 + 14) (gI σ6 94 24)) fun j21 =>
      bd1 (some (pI σ6 (94 + 14) j21 (nI k))) fun σ23 =>
      bd1 (ixo (94 + 15) (gI σ23 94 24)) fun j25 =>
      bd1 (some (pI σ23 (94 + 15) j25 (nI (nuT T (sk T x.1))))) fun σ27 =>
      bd1 (ixo (94 + 16) (gI σ27 94 24)) fun j29 =>
      bd1 (some (pI σ27 (94 + 16) j29 (nI (nuT T (sk T (sWord T 8 (sNum T 0 9 x)).1))))) fun σ31 =>
      bd1 (ixo (94 + 17) (gI σ31 94 24)) fun j33 =>
      bd1 (some (pI σ31 (94 + 17) j33 (nI (nuT T (sk T (sWord T 9 (sNum T 0 999 (sWord T 8 (sNum T 0 9 x)))).1))))) fun σ35 =>
      bd1 (some (pI σ35 94 24 ((gI σ35 94 24) + (1 : Int32)))) fun σ37 =>
      some σ37) = some (pI (pI (pI (pI (pI σ6 108 d.m (nI k)) 109 d.m (nI (nuT T (sk T x.1)))) 110 d.m (nI (nuT T (sk T (sWord T 8 (sNum T 0 9 x)).1)))) 111 d.m (nI (nuT T (sk T (sWord T 9 (sNum T 0 999 (sWord T 8 (sNum T 0 9 x)))).1)))) 94 24 (nI (d.m + 1))) := by
      simp only [Nat.reduceAdd, m6, i1, bd1_s]
      rw [gI_ne _ _ (by omega), m6]
      simp only [i2, bd1_s]
      rw [gI_ne _ _ (by omega), gI_ne _ _ (by omega), m6]
      simp only [i3, bd1_s]
      rw [gI_ne _ _ (by omega), gI_ne _ _ (by omega), gI_ne _ _ (by omega), m6]
      simp only [i4, bd1_s]
      rw [gI_ne _ _ (by omega), gI_ne _ _ (by omega), gI_ne _ _ (by omega), gI_ne _ _ (by omega), m6, nI_lit 1, nI_addE]
    refine ⟨_, top, MS_fr S6 (fun k i c => by rw [gI_ne _ _ (by omega), gI_ne _ _ (by omega), gI_ne _ _ (by omega), gI_ne _ _ (by omega), gI_ne _ _ (by omega)]) rfl, fun _ => MF_addB M6 h5, Fq_tr (FX_W F) ?_⟩
    exact Fq_pI _ (Fq_pI _ (Fq_pI _ (Fq_pI _ (Fq_pI _ (Fq_rfl _ _) (by unfold FX; omega)) (by unfold FX; omega)) (by unfold FX; omega)) (by unfold FX; omega)) (by unfold FX; omega)
/-- the model at a known word -/
theorem MS_tok (S : MS T (b, 1) σ) (hs : sk T b = b) : Tok T b σ ∧ gI σ 94 22 = nI 1 := by
  obtain ⟨J, hp, (⟨-, e, K⟩ | ⟨c, -⟩)⟩ := S
  · have K : Tok T (sk T b) σ := K
    rw [hs] at K
    exact ⟨K, e⟩
  · exact absurd (show (1 : Nat) = 0 from c) (by decide)
theorem md_lot (S : MS T (b, 1) σ) (hs : sk T b = b) (hc : cdn T b ≠ 0) (M : MF d σ) (D : Dr d) : ∃ σ', f_X10_wantLot 94 σ = some σ' ∧ MS T (eLot T b (rwE T 97 122 b) d).1 σ' ∧ ((eLot T b (rwE T 97 122 b) d).1.2 ≠ 0 → MF (eLot T b (rwE T 97 122 b) d).2 σ') ∧ Fq FX σ σ' := by
  have hn := D.1.1.1
  have hb : b ≤ T.2 := S.2.1
  obtain ⟨K, e22⟩ := MS_tok S hs
  have J := S.1
  unfold f_X10_wantLot eLot
  by_cases h5 : d.n < 5
  · obtain ⟨σ1, a1, S1, F1⟩ := MS_ad J (rw_spec (T := T) (lo := 97) (hi := 122) hb).2.1 (by rw [K.2.2.1, cdn_tE hb hc])
    have a1 : f_X10_advance 94 (pI σ 94 22 (1 : Int32)) = some σ1 := a1
    obtain ⟨σ2, b1, b2, b3, b4⟩ := md_lot28 (d := d) S1 (fun _ => ⟨MF_W M F1, h5⟩)
    rw [if_neg (by rw [M.1.1, nI_lit 5, nI_leE (by omega) (by omega)]; omega), bd1_s, if_neg (by rw [g22]; exact n10), a1, bd1_s, if_pos h5]
    refine ⟨σ2, b1, b2, fun c => ?_, Fq_tr (FX_W F1) b4⟩
    have c : (lD T (rwE T 97 122 b)).2 ≠ 0 := c
    show MF (if (lD T (rwE T 97 122 b)).2 = 0 then d else addL d (nuT T (sk T (rwE T 97 122 b))) (nuT T (sk T (lB T (rwE T 97 122 b)).1))) σ2
    rw [if_neg c]
    exact b3 c
  · obtain ⟨σ2, b1, b2, b3, b4⟩ := md_lot28 (d := d) (MS_ft J hb K.1) (fun c => absurd rfl c)
    rw [if_pos (by rw [M.1.1, nI_lit 5, nI_leE (by omega) (by omega)]; omega), bd1_s, if_pos (by rw [g22]), if_neg h5]
    exact ⟨σ2, b1, b2, fun c => absurd rfl c, Fq_tr (FX_W F22) b4⟩
theorem md_bid (S : MS T (b, 1) σ) (hs : sk T b = b) (hc : cdn T b ≠ 0) (M : MF d σ) (D : Dr d) : ∃ σ', f_X10_wantBidder 94 (nI k) σ = some σ' ∧ MS T (eBid T b (rwE T 97 122 b) k d).1 σ' ∧ ((eBid T b (rwE T 97 122 b) k d).1.2 ≠ 0 → MF (eBid T b (rwE T 97 122 b) k d).2 σ') ∧ Fq FX σ σ' := by
  have hn := D.1.2.1.1
  have hb : b ≤ T.2 := S.2.1
  obtain ⟨K, e22⟩ := MS_tok S hs
  have J := S.1
  unfold f_X10_wantBidder eBid
  by_cases h5 : d.m < 6
  · obtain ⟨σ1, a1, S1, F1⟩ := MS_ad J (rw_spec (T := T) (lo := 97) (hi := 122) hb).2.1 (by rw [K.2.2.1, cdn_tE hb hc])
    have a1 : f_X10_advance 94 (pI σ 94 22 (1 : Int32)) = some σ1 := a1
    obtain ⟨σ2, b1, b2, b3, b4⟩ := md_bid29 (d := d) (k := k) S1 (fun _ => ⟨MF_W M F1, h5⟩)
    rw [if_neg (by rw [M.1.2.1, nI_lit 6, nI_leE (by omega) (by omega)]; omega), bd1_s, if_neg (by rw [g22]; exact n10), a1, bd1_s, if_pos h5]
    refine ⟨σ2, b1, b2, fun c => ?_, Fq_tr (FX_W F1) b4⟩
    have c : (bF T (rwE T 97 122 b)).2 ≠ 0 := c
    show MF (if (bF T (rwE T 97 122 b)).2 = 0 then d else addB d k (nuT T (sk T (rwE T 97 122 b))) (nuT T (sk T (bB T (rwE T 97 122 b)).1)) (nuT T (sk T (bD T (rwE T 97 122 b)).1))) σ2
    rw [if_neg c]
    exact b3 c
  · obtain ⟨σ2, b1, b2, b3, b4⟩ := md_bid29 (d := d) (k := k) (MS_ft J hb K.1) (fun c => absurd rfl c)
    rw [if_pos (by rw [M.1.2.1, nI_lit 6, nI_leE (by omega) (by omega)]; omega), bd1_s, if_pos (by rw [g22]), if_neg h5]
    exact ⟨σ2, b1, b2, fun c => absurd rfl c, Fq_tr (FX_W F22) b4⟩
theorem MS_ad2 (S : MS T (b, 1) σ) (hs : sk T b = b) (hc : cdn T b ≠ 0) : ∃ σ', f_X10_advance 94 σ = some σ' ∧ MS T (rwE T 97 122 b, 1) σ' ∧ Fq FW σ σ' := by
  have hb : b ≤ T.2 := S.2.1
  obtain ⟨K, e22⟩ := MS_tok S hs
  have he := (rw_spec (T := T) (lo := 97) (hi := 122) hb).2.1
  obtain ⟨σ', a1, a2, a3, a4⟩ := md_adv S.1 he (by rw [K.2.2.1, cdn_tE hb hc])
  exact ⟨σ', a1, ⟨a3, he, .inl ⟨rfl, (a4.1 _ _ (by unfold FA; omega)).trans e22, a2⟩⟩, Fq_mono a4 fun k i c => by unfold FA at c; unfold FW; omega⟩
theorem md_dr2 (S : MS T (b, 1) σ) (hs : sk T b = b) (hc : cdn T b ≠ 0) (M : MF d σ) : ∃ σ', f_X10_wantDraught 94 σ = some σ' ∧ MS T (eDr T (rwE T 97 122 b) d).1 σ' ∧ ((eDr T (rwE T 97 122 b) d).1.2 ≠ 0 → MF (eDr T (rwE T 97 122 b) d).2 σ') ∧ Fq FX σ σ' := by
  obtain ⟨σ0, a0, S0, F0⟩ := MS_ad2 S hs hc
  obtain ⟨r1, σ1, a1, S1, v1, F1⟩ := md_num (lo := 0) (hi := 11) S0 (by omega) (by omega)
  obtain ⟨r3, σ3, a3, S3, v3, F3⟩ := md_num (lo := 0) (hi := 3) S1 (by omega) (by omega)
  obtain ⟨σ4, a4, S4, F4⟩ := md_end S3
  have F := Fq_tr F0 (Fq_tr F1 (Fq_tr F3 F4))
  have M4 := MF_W M F
  have S4 : MS T (gC T (rwE T 97 122 b)) σ4 := S4
  unfold f_X10_wantDraught eDr
  rw [a0, bd1_s, nI_lit 0, nI_lit 11, a1, bd2_s, nI_lit 3, a3, bd2_s, a4, bd1_s]
  rcases MS_if S4 with ⟨z, y⟩ | ⟨z, y⟩
  · have y : gI σ4 94 22 = nI 0 := y
    rw [if_pos y]
    exact ⟨σ4, rfl, S4, fun c => absurd z c, FX_W F⟩
  · have y : ¬ gI σ4 94 22 = nI 0 := y
    have z' : ¬ (gC T (rwE T 97 122 b)).2 = 0 := by omega
    have e1 : r1 = nI (nuT T (sk T (rwE T 97 122 b))) := v1 (sNum_nz (sEnd_nz z'))
    have e3 : r3 = nI (nuT T (sk T (gA T (rwE T 97 122 b)).1)) := v3 (sEnd_nz z')
    have l1 : nuT T (sk T (rwE T 97 122 b)) ≤ 11 := by
      have g := sNum_nz (sEnd_nz z')
      have g2 : (sNum T 0 11 (rwE T 97 122 b, 1)).2 ≠ 0 := g
      unfold sNum at g2
      rw [if_neg (show ¬ (rwE T 97 122 b, 1).2 = 0 from Nat.one_ne_zero)] at g2
      by_cases c : sk T (rwE T 97 122 b, 1).1 < rwE T 48 57 (sk T (rwE T 97 122 b, 1).1) ∧ rwE T 48 57 (sk T (rwE T 97 122 b, 1).1) ≤ sk T (rwE T 97 122 b, 1).1 + 4 ∧ 0 ≤ nuT T (sk T (rwE T 97 122 b, 1).1) ∧ nuT T (sk T (rwE T 97 122 b, 1).1) ≤ 11
      · exact c.2.2.2
      · rw [if_neg c] at g2
        exact absurd rfl g2
    have i1 : ixo 112 (nI (nuT T (sk T (rwE T 97 122 b)))) = some (nuT T (sk T (rwE T 97 122 b))) := ixo_112 (by omega)
    rw [if_neg y, e1, e3]
    simp only [Nat.reduceAdd, i1, bd1_s]
    refine ⟨_, rfl, MS_fr S4 (fun k i c => gI_ne _ _ (by omega)) rfl, fun _ => ?_, Fq_tr (FX_W F) (Fq_pI _ (Fq_rfl _ _) (by unfold FX; omega))⟩
    rw [if_neg z']
    exact MF_setD M4
theorem md_st2 (S : MS T (b, 1) σ) (hs : sk T b = b) (hc : cdn T b ≠ 0) (M : MF d σ) : ∃ σ', (bd1 (f_X10_advance 94 σ) fun σ24 => bd2 (f_X10_wantNumber 94 (1 : Int32) (20 : Int32) σ24) fun r28 σ26 => bd1 (some (pI σ26 94 25 r28)) fun σ29 => bd1 (f_X10_wantEnd 94 σ29) fun σ31 => some σ31) = some σ' ∧ MS T (eSt T (rwE T 97 122 b) d).1 σ' ∧ ((eSt T (rwE T 97 122 b) d).1.2 ≠ 0 → MF (eSt T (rwE T 97 122 b) d).2 σ') ∧ Fq FX σ σ' := by
  obtain ⟨σ0, a0, S0, F0⟩ := MS_ad2 S hs hc
  obtain ⟨r1, σ1, a1, S1, v1, F1⟩ := md_num (lo := 1) (hi := 20) S0 (by omega) (by omega)
  have S1' : MS T (tA T (rwE T 97 122 b)) (pI σ1 94 25 r1) := MS_fr S1 (fun k i c => gI_ne _ _ (by omega)) rfl
  obtain ⟨σ4, a4, S4, F4⟩ := md_end S1'
  have FF : Fq FX σ σ4 := Fq_tr (FX_W (Fq_tr F0 F1)) (Fq_tr (Fq_pI _ (Fq_rfl _ _) (by unfold FX; omega)) (FX_W F4))
  rw [a0, bd1_s, nI_lit 1, nI_lit 20, a1, bd2_s, bd1_s, a4, bd1_s]
  have S4 : MS T (tB T (rwE T 97 122 b)) σ4 := S4
  refine ⟨σ4, rfl, S4, fun c => ?_, FF⟩
  have c : (tB T (rwE T 97 122 b)).2 ≠ 0 := c
  have e1 : r1 = nI (nuT T (sk T (rwE T 97 122 b))) := v1 (sEnd_nz c)
  show MF (if (tB T (rwE T 97 122 b)).2 = 0 then d else qs d 12 0 (nuT T (sk T (rwE T 97 122 b)))) σ4
  rw [if_neg c]
  have M1 := MF_W M (Fq_tr F0 F1)
  have M2 : MF (qs d 12 0 (nuT T (sk T (rwE T 97 122 b)))) (pI σ1 94 25 r1) := by rw [e1]; exact MF_setS M1
  exact MF_W M2 F4
end
