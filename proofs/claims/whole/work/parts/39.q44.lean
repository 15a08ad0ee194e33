def noneq (q : HQ) : HQ := qs (qs (qs (qs (qs q 13 0 9) 14 0 0) 15 0 0) 16 0 0) 17 0 9
def payq (q : HQ) : HQ := if q.holder = 9 then q else qs q 10 q.holder (q.purse q.holder - q.high)
def soldq (q : HQ) : HQ := qs (qs (qs q 3 q.lit 1) 4 q.lit q.high) 5 q.lit q.holder
def sellq (q : HQ) : HQ := noneq (payq (soldq q))
section
variable {q : HQ} {σ : Mem} {h : Nat}
theorem soldq_ok (ok : q.Okx) : (soldq q).Okx := by
  obtain ⟨⟨hn, hol⟩, hob, o1, o2, o6, o7⟩ := ok
  refine ⟨⟨hn, fun i hi => ?_⟩, hob, o1, o2, o6, o7⟩
  have hi : i < q.n := hi
  have := hol i hi
  unfold soldq
  by_cases e : i = q.lit
  · simp (disch := omega) only [n_qs, n_qt, wax_qs, wax_qt, worth_qs, worth_qt, sold_qs, sold_qt, price_qs, price_qt, buyer_qs, buyer_qt, m_qs, m_qt, kind_qs, kind_qt, a_qs, a_qt, val_qs, val_qt, purse_qs, purse_qt, dr_qs, dr_qt, step_qs, step_qt, lit_qs, lit_qt, tick_qs, tick_qt, burnt_qs, burnt_qt, high_qs, high_qt, holder_qs, holder_qt, z_qs]
    exact ⟨this.1, this.2.1, Nat.le_refl 1, fun _ => ⟨o6, by omega⟩⟩
  · simp (disch := omega) only [n_qs, n_qt, wax_qs, wax_qt, worth_qs, worth_qt, sold_qs, sold_qt, price_qs, price_qt, buyer_qs, buyer_qt, m_qs, m_qt, kind_qs, kind_qt, a_qs, a_qt, val_qs, val_qt, purse_qs, purse_qt, dr_qs, dr_qt, step_qs, step_qt, lit_qs, lit_qt, tick_qs, tick_qt, burnt_qs, burnt_qt, high_qs, high_qt, holder_qs, holder_qt, z_qs]
    exact this
theorem payq_ok (ok : q.Okx) : (payq q).Okx := by
  unfold payq
  by_cases e : q.holder = 9
  · rw [if_pos e]; exact ok
  · rw [if_neg e]
    obtain ⟨ol, ⟨hm, hob⟩, oc⟩ := ok
    refine ⟨ol, ⟨hm, fun b hb => ?_⟩, oc⟩
    have hb : b < q.m := hb
    have := hob b hb
    by_cases g : b = q.holder
    · simp (disch := omega) only [n_qs, n_qt, wax_qs, wax_qt, worth_qs, worth_qt, sold_qs, sold_qt, price_qs, price_qt, buyer_qs, buyer_qt, m_qs, m_qt, kind_qs, kind_qt, a_qs, a_qt, val_qs, val_qt, purse_qs, purse_qt, dr_qs, dr_qt, step_qs, step_qt, lit_qs, lit_qt, tick_qs, tick_qt, burnt_qs, burnt_qt, high_qs, high_qt, holder_qs, holder_qt, z_qs]
      subst g
      exact ⟨this.1, this.2.1, this.2.2.1, by omega⟩
    · simp (disch := omega) only [n_qs, n_qt, wax_qs, wax_qt, worth_qs, worth_qt, sold_qs, sold_qt, price_qs, price_qt, buyer_qs, buyer_qt, m_qs, m_qt, kind_qs, kind_qt, a_qs, a_qt, val_qs, val_qt, purse_qs, purse_qt, dr_qs, dr_qt, step_qs, step_qt, lit_qs, lit_qt, tick_qs, tick_qt, burnt_qs, burnt_qt, high_qs, high_qt, holder_qs, holder_qt, z_qs]; exact this
theorem noneq_ok (ok : q.Okx) : (noneq q).Ok := by
  obtain ⟨ol, ob, o1, o2, o6, o7⟩ := ok
  have hn := ol.1
  refine ⟨ol, ob, o1, o2, .inr rfl, Nat.le_refl 0, fun e => ?_, Nat.zero_le _, .inr ⟨rfl, rfl⟩, fun _ => ⟨rfl, rfl, rfl, rfl⟩⟩
  have e : 9 < q.n := e
  omega
theorem sellq_ok (ok : q.Okx) : (sellq q).Ok := noneq_ok (payq_ok (soldq_ok ok))
theorem cl_sold (hh : h = 1 ∨ h = 16 ∨ h = 31 ∨ h = 49) (ok : q.Okx) (hl : q.lit < q.n) (C : CH h q σ) : CH h (soldq q) (pI (pI (pI σ (h + 4 + q.lit) 2 (nI 1)) (h + 4 + q.lit) 3 (nI q.high)) (h + 4 + q.lit) 4 (cE q.holder)) := by
  have hn := ok.1.1
  obtain ⟨cs, cd, cl, cb⟩ := C
  unfold soldq
  refine ⟨CHs_c cs ⟨rfl, rfl, rfl, rfl, rfl, rfl, rfl, rfl, rfl⟩ (by intros; simp (disch := omega) only [gI_ne, gI_eq]), CHd_c cd (fun _ => rfl) (by intros; simp (disch := omega) only [gI_ne, gI_eq]), ⟨fun i hi => ?_, fun i hi => ?_⟩, CHb_c cb ok.2.1.1 rfl (fun _ => ⟨rfl, rfl, rfl, rfl⟩) (by intros; simp (disch := omega) only [gI_ne, gI_eq])⟩
  · have hi : i < q.n := hi
    obtain ⟨w1, w2, w3, w4, w5⟩ := cl.1 i hi
    by_cases e : i = q.lit
    · simp (disch := omega) only [n_qs, n_qt, wax_qs, wax_qt, worth_qs, worth_qt, sold_qs, sold_qt, price_qs, price_qt, buyer_qs, buyer_qt, m_qs, m_qt, kind_qs, kind_qt, a_qs, a_qt, val_qs, val_qt, purse_qs, purse_qt, dr_qs, dr_qt, step_qs, step_qt, lit_qs, lit_qt, tick_qs, tick_qt, burnt_qs, burnt_qt, high_qs, high_qt, holder_qs, holder_qt, z_qs, gI_eq, gI_ne, gL_pI, gI_pL, if_true]
      exact ⟨w1, w2, trivial, trivial, trivial⟩
    · simp (disch := omega) only [n_qs, n_qt, wax_qs, wax_qt, worth_qs, worth_qt, sold_qs, sold_qt, price_qs, price_qt, buyer_qs, buyer_qt, m_qs, m_qt, kind_qs, kind_qt, a_qs, a_qt, val_qs, val_qt, purse_qs, purse_qt, dr_qs, dr_qt, step_qs, step_qt, lit_qs, lit_qt, tick_qs, tick_qt, burnt_qs, burnt_qt, high_qs, high_qt, holder_qs, holder_qt, z_qs, gI_eq, gI_ne, gL_pI, gI_pL]
      exact ⟨w1, w2, w3, w4, w5⟩
  · by_cases e : i = q.lit
    · simp (disch := omega) only [gI_eq, gI_ne, gL_pI, gI_pL]
      exact .inr rfl
    · simp (disch := omega) only [gI_eq, gI_ne, gL_pI, gI_pL]
      exact cl.2 i hi
theorem cl_pay (ok : q.Okx) (hh : q.holder ≠ 9) (C : CH h q σ) : CH h (payq q) (pI σ (h + 9 + q.holder) 3 (nI (q.purse q.holder - q.high))) := by
  have hn := ok.1.1
  have hm := ok.2.1.1
  have hd := ok.2.2.2.2.2
  obtain ⟨cs, cd, cl, cb⟩ := C
  unfold payq
  rw [if_neg hh]
  refine ⟨CHs_c cs ⟨rfl, rfl, rfl, rfl, rfl, rfl, rfl, rfl, rfl⟩ (by intros; simp (disch := omega) only [gI_ne, gI_eq]), CHd_c cd (fun _ => rfl) (by intros; simp (disch := omega) only [gI_ne, gI_eq]), CHl_c cl hn rfl (fun _ => ⟨rfl, rfl, rfl, rfl, rfl⟩) (by intros; simp (disch := omega) only [gI_ne, gI_eq]), fun i hi => ?_⟩
  have hi : i < q.m := hi
  obtain ⟨w1, w2, w3, w4⟩ := cb i hi
  by_cases e : i = q.holder
  · simp (disch := omega) only [n_qs, n_qt, wax_qs, wax_qt, worth_qs, worth_qt, sold_qs, sold_qt, price_qs, price_qt, buyer_qs, buyer_qt, m_qs, m_qt, kind_qs, kind_qt, a_qs, a_qt, val_qs, val_qt, purse_qs, purse_qt, dr_qs, dr_qt, step_qs, step_qt, lit_qs, lit_qt, tick_qs, tick_qt, burnt_qs, burnt_qt, high_qs, high_qt, holder_qs, holder_qt, z_qs, gI_eq, gI_ne, gL_pI, gI_pL]
    exact ⟨w1, w2, w3, trivial⟩
  · simp (disch := omega) only [n_qs, n_qt, wax_qs, wax_qt, worth_qs, worth_qt, sold_qs, sold_qt, price_qs, price_qt, buyer_qs, buyer_qt, m_qs, m_qt, kind_qs, kind_qt, a_qs, a_qt, val_qs, val_qt, purse_qs, purse_qt, dr_qs, dr_qt, step_qs, step_qt, lit_qs, lit_qt, tick_qs, tick_qt, burnt_qs, burnt_qt, high_qs, high_qt, holder_qs, holder_qt, z_qs, gI_eq, gI_ne, gL_pI, gI_pL]
    exact ⟨w1, w2, w3, w4⟩
theorem cl_none (ok : q.Okx) (C : CH h q σ) : CH h (noneq q) (pI σ h 7 (-nI 9)) := by
  have hn := ok.1.1
  have hm := ok.2.1.1
  obtain ⟨cs, cd, cl, cb⟩ := C
  unfold noneq
  refine ⟨?_, CHd_c cd (fun _ => rfl) (by intros; simp (disch := omega) only [gI_ne, gI_eq]), CHl_c cl hn rfl (fun _ => ⟨rfl, rfl, rfl, rfl, rfl⟩) (by intros; simp (disch := omega) only [gI_ne, gI_eq]), CHb_c cb hm rfl (fun _ => ⟨rfl, rfl, rfl, rfl⟩) (by intros; simp (disch := omega) only [gI_ne, gI_eq])⟩
  obtain ⟨c1, c3, c5, c6, c7, c8⟩ := cs
  refine ⟨?_, ?_, ?_, ?_, ?_, fun e => absurd rfl e⟩
  · simp (disch := omega) only [n_qs, n_qt, wax_qs, wax_qt, worth_qs, worth_qt, sold_qs, sold_qt, price_qs, price_qt, buyer_qs, buyer_qt, m_qs, m_qt, kind_qs, kind_qt, a_qs, a_qt, val_qs, val_qt, purse_qs, purse_qt, dr_qs, dr_qt, step_qs, step_qt, lit_qs, lit_qt, tick_qs, tick_qt, burnt_qs, burnt_qt, high_qs, high_qt, holder_qs, holder_qt, z_qs, gI_eq, gI_ne, gL_pI, gI_pL]; exact c1
  · simp (disch := omega) only [n_qs, n_qt, wax_qs, wax_qt, worth_qs, worth_qt, sold_qs, sold_qt, price_qs, price_qt, buyer_qs, buyer_qt, m_qs, m_qt, kind_qs, kind_qt, a_qs, a_qt, val_qs, val_qt, purse_qs, purse_qt, dr_qs, dr_qt, step_qs, step_qt, lit_qs, lit_qt, tick_qs, tick_qt, burnt_qs, burnt_qt, high_qs, high_qt, holder_qs, holder_qt, z_qs, gI_eq, gI_ne, gL_pI, gI_pL]; exact c3
  · simp (disch := omega) only [n_qs, n_qt, wax_qs, wax_qt, worth_qs, worth_qt, sold_qs, sold_qt, price_qs, price_qt, buyer_qs, buyer_qt, m_qs, m_qt, kind_qs, kind_qt, a_qs, a_qt, val_qs, val_qt, purse_qs, purse_qt, dr_qs, dr_qt, step_qs, step_qt, lit_qs, lit_qt, tick_qs, tick_qt, burnt_qs, burnt_qt, high_qs, high_qt, holder_qs, holder_qt, z_qs, gI_eq, gI_ne, gL_pI, gI_pL]; exact c5
  · simp (disch := omega) only [n_qs, n_qt, wax_qs, wax_qt, worth_qs, worth_qt, sold_qs, sold_qt, price_qs, price_qt, buyer_qs, buyer_qt, m_qs, m_qt, kind_qs, kind_qt, a_qs, a_qt, val_qs, val_qt, purse_qs, purse_qt, dr_qs, dr_qt, step_qs, step_qt, lit_qs, lit_qt, tick_qs, tick_qt, burnt_qs, burnt_qt, high_qs, high_qt, holder_qs, holder_qt, z_qs, gI_eq, gI_ne, gL_pI, gI_pL]; exact c6
  · simp (disch := omega) only [n_qs, n_qt, wax_qs, wax_qt, worth_qs, worth_qt, sold_qs, sold_qt, price_qs, price_qt, buyer_qs, buyer_qt, m_qs, m_qt, kind_qs, kind_qt, a_qs, a_qt, val_qs, val_qt, purse_qs, purse_qt, dr_qs, dr_qt, step_qs, step_qt, lit_qs, lit_qt, tick_qs, tick_qt, burnt_qs, burnt_qt, high_qs, high_qt, holder_qs, holder_qt, z_qs, gI_eq, gI_ne, gL_pI, gI_pL, nI_lit, nI_addE, nI_mulE, nI_ltE, nI_leE, nI_eqE, nI_eqN, nI_Neq, nI_ltN, nI_Nlt, nI_leN, nI_Nle, nI_NeN, nI_subE, bd1_s, bd2_s, onrN, onrS, grd_t, grd_T, gI_eq, gI_ne, gL_pI, gI_pL, ltT, ltF, leT, leF, eqT, eqF, if_true, if_false, true_or, or_true, ite_true, ite_false, and_true, true_and, and_false, false_and, not_false_eq_true, not_true_eq_false, ↓reduceIte, in_eq, Nat.reduceAdd, Nat.reduceMul, Nat.zero_add, cE_f, cE_t, mE_f, mE_t, within_ok, ne_eq]
theorem sell_f (q : HQ) : (sellq q).n = q.n ∧ (sellq q).m = q.m ∧ (sellq q).sold q.lit = 1 ∧ (sellq q).price q.lit = q.high ∧ (sellq q).buyer q.lit = q.holder ∧ (sellq q).lit = 9 := by
  unfold sellq noneq payq
  by_cases g : (soldq q).holder = 9
  · rw [if_pos g]
    unfold soldq
    refine ⟨rfl, rfl, ?_, ?_, ?_, rfl⟩ <;> simp (disch := omega) only [n_qs, n_qt, wax_qs, wax_qt, worth_qs, worth_qt, sold_qs, sold_qt, price_qs, price_qt, buyer_qs, buyer_qt, m_qs, m_qt, kind_qs, kind_qt, a_qs, a_qt, val_qs, val_qt, purse_qs, purse_qt, dr_qs, dr_qt, step_qs, step_qt, lit_qs, lit_qt, tick_qs, tick_qt, burnt_qs, burnt_qt, high_qs, high_qt, holder_qs, holder_qt, z_qs]
  · rw [if_neg g]
    unfold soldq
    refine ⟨rfl, rfl, ?_, ?_, ?_, rfl⟩ <;> simp (disch := omega) only [n_qs, n_qt, wax_qs, wax_qt, worth_qs, worth_qt, sold_qs, sold_qt, price_qs, price_qt, buyer_qs, buyer_qt, m_qs, m_qt, kind_qs, kind_qt, a_qs, a_qt, val_qs, val_qt, purse_qs, purse_qt, dr_qs, dr_qt, step_qs, step_qt, lit_qs, lit_qt, tick_qs, tick_qt, burnt_qs, burnt_qt, high_qs, high_qt, holder_qs, holder_qt, z_qs]
def FH (h k _i : Nat) : Prop := h ≤ k ∧ k < h + 15
theorem cl_putOut (hh : h = 1 ∨ h = 16 ∨ h = 31 ∨ h = 49) (ok : q.Okx) (hl : q.lit < q.n) (C : CH h q σ) : ∃ σ', f_X2_putOut h σ = some σ' ∧ CH h (sellq q) σ' ∧ Fr (FH h) σ σ' := by
  have A := cl_sold hh ok hl C
  have okA := soldq_ok ok
  obtain ⟨⟨c1, c3, c5, c6, c7, c8⟩, -, -, cb⟩ := id C
  obtain ⟨c8, c9, c10, c11⟩ := c8 (by have := ok.1.1; omega)
  obtain ⟨hm, hob⟩ := ok.2.1
  have hn := ok.1.1
  have o6 := ok.2.2.2.2.1
  have hd := ok.2.2.2.2.2
  have z1 : gI (pI (pI (pI σ (h + 4 + q.lit) 2 (nI 1)) (h + 4 + q.lit) 3 (nI q.high)) (h + 4 + q.lit) 4 (cE q.holder)) h 11 = cE q.holder := by
    simp (disch := omega) only [gI_eq, gI_ne, gL_pI, gI_pL]; exact c11
  have z3 : gI (pI (pI (pI σ (h + 4 + q.lit) 2 (nI 1)) (h + 4 + q.lit) 3 (nI q.high)) (h + 4 + q.lit) 4 (cE q.holder)) h 3 = nI q.m := by
    simp (disch := omega) only [gI_eq, gI_ne, gL_pI, gI_pL]; exact c3
  have e1 : f_X2_putOut h σ = F_X2_putOut_21 h (pI (pI (pI σ (h + 4 + q.lit) 2 (nI 1)) (h + 4 + q.lit) 3 (nI q.high)) (h + 4 + q.lit) 4 (cE q.holder)) := by
    unfold f_X2_putOut f_X3_sell
    simp (disch := omega) only [cl_burning hh hn hl c1 c7, bd1_s, bd2_s, onrN, onrS, grd_t, grd_T, grd_lot hh, c10, c11, nI_lit]
  rw [e1]
  unfold F_X2_putOut_21
  generalize hσ : (pI (pI (pI σ (h + 4 + q.lit) 2 (nI 1)) (h + 4 + q.lit) 3 (nI q.high)) (h + 4 + q.lit) 4 (cE q.holder)) = σ1 at A z1 z3
  have F1 : Fr (FH h) σ σ1 := by
    rw [← hσ]
    repeat (refine Fr_pI _ ?_ (by unfold FH; omega))
    exact Fr_rfl _ _
  by_cases e : q.holder = 9
  · have B := cl_none okA A
    refine ⟨pI σ1 h 7 (-nI 9), ?_, ?_, Fr_pI _ F1 (by unfold FH; omega)⟩
    · rw [z1, cE_t e, bidAt_no z3 (bad9 (by omega))]
      simp (disch := omega) only [bd1_s, bd2_s, onrN, onrS, grd_t, grd_T, nI_lit]
    · have : payq (soldq q) = soldq q := if_pos e
      unfold sellq
      rw [this]
      exact B
  · have B := cl_none (payq_ok okA) (cl_pay okA e A)
    have hb : q.holder < q.m := by omega
    have hp := hob q.holder hb
    have w4 : gI σ1 (h + 9 + q.holder) 3 = nI (q.purse q.holder) := (A.2.2.2 q.holder hb).2.2.2
    have z10 : gI σ1 h 10 = nI q.high := by rw [← hσ]; simp (disch := omega) only [gI_eq, gI_ne, gL_pI, gI_pL]; exact c10
    refine ⟨pI (pI σ1 (h + 9 + q.holder) 3 (nI (q.purse q.holder - q.high))) h 7 (-nI 9), ?_, B, Fr_pI _ (Fr_pI _ F1 (by unfold FH; omega)) (by unfold FH; omega)⟩
    rw [z1, cE_f (by omega), bidAt_ok hh z3 hm hb]
    by_cases g : q.purse q.holder < q.high
    · have : q.purse q.holder - q.high = 0 := by omega
      simp (disch := omega) only [bd1_s, bd2_s, onrN, onrS, grd_t, grd_T, nI_lit, grd_bid hh, w4, z10, nI_sub_lt0, ltT, ltF, leT, leF, eqT, eqF, if_true, this]
    · simp (disch := omega) only [bd1_s, bd2_s, onrN, onrS, grd_t, grd_T, nI_lit, grd_bid hh, w4, z10, nI_ltE, ltT, ltF, leT, leF, eqT, eqF, ↓reduceIte, nI_subE]
theorem md_pay {o : Nat} (ho : o ≤ 11) (ok : q.Okx) (at' : gI σ 94 13 = nI o) (M : MH o q σ) : ∃ σ', f_X10_pays 94 σ = some σ' ∧ MH o (payq q) σ' ∧ Fr (fun k i => k = 104 ∧ o + 5 ≤ i) σ σ' := by
  obtain ⟨ms, ⟨n0, n1, n2, n3, n4, n5⟩, md, ml, mb⟩ := id M
  obtain ⟨hm, hob⟩ := ok.2.1
  have o6 := ok.2.2.2.2.1
  have hd := ok.2.2.2.2.2
  unfold f_X10_pays f_X10_its payq f_X10_becomes
  by_cases e : q.holder = 9
  · refine ⟨σ, ?_, ?_, Fr_rfl _ _⟩
    · simp (disch := omega) only [nI_lit, nI_addE, nI_mulE, nI_ltE, nI_leE, nI_eqE, nI_eqN, nI_Neq, nI_ltN, nI_Nlt, nI_leN, nI_Nle, nI_NeN, nI_subE, bd1_s, bd2_s, onrN, onrS, grd_t, grd_T, gI_eq, gI_ne, gL_pI, gI_pL, ltT, ltF, leT, leF, eqT, eqF, if_true, if_false, true_or, or_true, ite_true, ite_false, and_true, true_and, and_false, false_and, not_false_eq_true, not_true_eq_false, ↓reduceIte, in_eq, Nat.reduceAdd, Nat.reduceMul, Nat.zero_add, cE_f, cE_t, mE_f, mE_t, within_ok, ne_eq, ixo_95, ixo_96, ixo_97, ixo_98, ixo_99, ixo_100, ixo_101, ixo_102, ixo_103, ixo_104, ixo_105, ixo_106, ixo_107, ixo_108, ixo_109, ixo_110, ixo_111, ixo_112, ixo_113, ixo_114, ixo_115, ixo_116, ixo_117, ixo_118, ixo_119, ixo_120, ixo_121, ixo_122, ixo_123, ixo_124, ixo_125, ixo_126, at', n4]
    · rw [if_pos e]; exact M
  · have hb : q.holder < q.m := by omega
    have n5b := n5 q.holder hb
    have hp := hob q.holder hb
    have e5 : o + (5 + q.holder) = o + 5 + q.holder := by omega
    rw [if_neg e]
    refine ⟨pI σ 104 (o + 5 + q.holder) (nI (q.purse q.holder - q.high)), ?_, ?_, Fr_pI _ (Fr_rfl _ _) ⟨rfl, by omega⟩⟩
    · by_cases g : q.purse q.holder < q.high
      · have g0 : q.purse q.holder - q.high = 0 := by omega
        simp (disch := omega) only [nI_lit, nI_addE, nI_ltE, cE_f, mE_f, bd1_s, bd2_s, onrN, onrS, grd_t, grd_T, ltT, ltF, leT, leF, eqT, eqF, ↓reduceIte, Nat.reduceAdd, ixo_95, ixo_96, ixo_97, ixo_98, ixo_99, ixo_100, ixo_101, ixo_102, ixo_103, ixo_104, ixo_105, ixo_106, ixo_107, ixo_108, ixo_109, ixo_110, ixo_111, ixo_112, ixo_113, ixo_114, ixo_115, ixo_116, ixo_117, ixo_118, ixo_119, ixo_120, ixo_121, ixo_122, ixo_123, ixo_124, ixo_125, ixo_126, at', n4, e5, n5b, n3, nI_sub_ge0, g0]
      · simp (disch := omega) only [nI_lit, nI_addE, nI_ltE, cE_f, mE_f, bd1_s, bd2_s, onrN, onrS, grd_t, grd_T, ltT, ltF, leT, leF, eqT, eqF, ↓reduceIte, Nat.reduceAdd, ixo_95, ixo_96, ixo_97, ixo_98, ixo_99, ixo_100, ixo_101, ixo_102, ixo_103, ixo_104, ixo_105, ixo_106, ixo_107, ixo_108, ixo_109, ixo_110, ixo_111, ixo_112, ixo_113, ixo_114, ixo_115, ixo_116, ixo_117, ixo_118, ixo_119, ixo_120, ixo_121, ixo_122, ixo_123, ixo_124, ixo_125, ixo_126, at', n4, e5, n5b, n3, nI_leE, nI_subE]
    · refine ⟨MHs_c ms ⟨rfl, rfl, rfl, rfl⟩ ⟨(by intros; simp (disch := omega) only [gI_ne, gI_eq]), (by intros; simp (disch := omega) only [gI_ne, gI_eq]), (by intros; simp (disch := omega) only [gI_ne, gI_eq]), (by intros; simp (disch := omega) only [gI_ne, gI_eq])⟩, ⟨?_, ?_, ?_, ?_, ?_, fun b hb => ?_⟩, MHd_c md (fun _ => rfl) (by intros; simp (disch := omega) only [gI_ne, gI_eq]), MHl_c ml rfl (fun _ => ⟨rfl, rfl, rfl, rfl, rfl⟩) (by intros; simp (disch := omega) only [gI_ne, gI_eq]), MHb_c mb rfl (fun _ => ⟨rfl, rfl, rfl⟩) (by intros; simp (disch := omega) only [gI_ne, gI_eq])⟩
      · simp (disch := omega) only [n_qs, n_qt, wax_qs, wax_qt, worth_qs, worth_qt, sold_qs, sold_qt, price_qs, price_qt, buyer_qs, buyer_qt, m_qs, m_qt, kind_qs, kind_qt, a_qs, a_qt, val_qs, val_qt, purse_qs, purse_qt, dr_qs, dr_qt, step_qs, step_qt, lit_qs, lit_qt, tick_qs, tick_qt, burnt_qs, burnt_qt, high_qs, high_qt, holder_qs, holder_qt, z_qs, gI_eq, gI_ne, gL_pI, gI_pL]; exact n0
      · simp (disch := omega) only [n_qs, n_qt, wax_qs, wax_qt, worth_qs, worth_qt, sold_qs, sold_qt, price_qs, price_qt, buyer_qs, buyer_qt, m_qs, m_qt, kind_qs, kind_qt, a_qs, a_qt, val_qs, val_qt, purse_qs, purse_qt, dr_qs, dr_qt, step_qs, step_qt, lit_qs, lit_qt, tick_qs, tick_qt, burnt_qs, burnt_qt, high_qs, high_qt, holder_qs, holder_qt, z_qs, gI_eq, gI_ne, gL_pI, gI_pL]; exact n1
      · simp (disch := omega) only [n_qs, n_qt, wax_qs, wax_qt, worth_qs, worth_qt, sold_qs, sold_qt, price_qs, price_qt, buyer_qs, buyer_qt, m_qs, m_qt, kind_qs, kind_qt, a_qs, a_qt, val_qs, val_qt, purse_qs, purse_qt, dr_qs, dr_qt, step_qs, step_qt, lit_qs, lit_qt, tick_qs, tick_qt, burnt_qs, burnt_qt, high_qs, high_qt, holder_qs, holder_qt, z_qs, gI_eq, gI_ne, gL_pI, gI_pL]; exact n2
      · simp (disch := omega) only [n_qs, n_qt, wax_qs, wax_qt, worth_qs, worth_qt, sold_qs, sold_qt, price_qs, price_qt, buyer_qs, buyer_qt, m_qs, m_qt, kind_qs, kind_qt, a_qs, a_qt, val_qs, val_qt, purse_qs, purse_qt, dr_qs, dr_qt, step_qs, step_qt, lit_qs, lit_qt, tick_qs, tick_qt, burnt_qs, burnt_qt, high_qs, high_qt, holder_qs, holder_qt, z_qs, gI_eq, gI_ne, gL_pI, gI_pL]; exact n3
      · simp (disch := omega) only [n_qs, n_qt, wax_qs, wax_qt, worth_qs, worth_qt, sold_qs, sold_qt, price_qs, price_qt, buyer_qs, buyer_qt, m_qs, m_qt, kind_qs, kind_qt, a_qs, a_qt, val_qs, val_qt, purse_qs, purse_qt, dr_qs, dr_qt, step_qs, step_qt, lit_qs, lit_qt, tick_qs, tick_qt, burnt_qs, burnt_qt, high_qs, high_qt, holder_qs, holder_qt, z_qs, gI_eq, gI_ne, gL_pI, gI_pL]; exact n4
      · by_cases g : b = q.holder
        · simp (disch := omega) only [n_qs, n_qt, wax_qs, wax_qt, worth_qs, worth_qt, sold_qs, sold_qt, price_qs, price_qt, buyer_qs, buyer_qt, m_qs, m_qt, kind_qs, kind_qt, a_qs, a_qt, val_qs, val_qt, purse_qs, purse_qt, dr_qs, dr_qt, step_qs, step_qt, lit_qs, lit_qt, tick_qs, tick_qt, burnt_qs, burnt_qt, high_qs, high_qt, holder_qs, holder_qt, z_qs, gI_eq, gI_ne, gL_pI, gI_pL]
        · simp (disch := omega) only [n_qs, n_qt, wax_qs, wax_qt, worth_qs, worth_qt, sold_qs, sold_qt, price_qs, price_qt, buyer_qs, buyer_qt, m_qs, m_qt, kind_qs, kind_qt, a_qs, a_qt, val_qs, val_qt, purse_qs, purse_qt, dr_qs, dr_qt, step_qs, step_qt, lit_qs, lit_qt, tick_qs, tick_qt, burnt_qs, burnt_qt, high_qs, high_qt, holder_qs, holder_qt, z_qs, gI_eq, gI_ne, gL_pI, gI_pL]; exact n5 b hb
theorem MH_none {o : Nat} (M : MH o q σ) : MH o (noneq q) (noneM o σ) := by
  obtain ⟨ms, ⟨n0, n1, n2, n3, n4, n5⟩, md, ml, mb⟩ := M
  unfold noneq noneM
  refine ⟨MHs_c ms ⟨rfl, rfl, rfl, rfl⟩ ⟨(by intros; simp (disch := omega) only [gI_ne, gI_eq]), (by intros; simp (disch := omega) only [gI_ne, gI_eq]), (by intros; simp (disch := omega) only [gI_ne, gI_eq]), (by intros; simp (disch := omega) only [gI_ne, gI_eq])⟩, ⟨?_, ?_, ?_, ?_, ?_, fun b hb => ?_⟩, MHd_c md (fun _ => rfl) (by intros; simp (disch := omega) only [gI_ne, gI_eq]), MHl_c ml rfl (fun _ => ⟨rfl, rfl, rfl, rfl, rfl⟩) (by intros; simp (disch := omega) only [gI_ne, gI_eq]), MHb_c mb rfl (fun _ => ⟨rfl, rfl, rfl⟩) (by intros; simp (disch := omega) only [gI_ne, gI_eq])⟩
  · simp (disch := omega) only [n_qs, n_qt, wax_qs, wax_qt, worth_qs, worth_qt, sold_qs, sold_qt, price_qs, price_qt, buyer_qs, buyer_qt, m_qs, m_qt, kind_qs, kind_qt, a_qs, a_qt, val_qs, val_qt, purse_qs, purse_qt, dr_qs, dr_qt, step_qs, step_qt, lit_qs, lit_qt, tick_qs, tick_qt, burnt_qs, burnt_qt, high_qs, high_qt, holder_qs, holder_qt, z_qs, gI_eq, gI_ne, gL_pI, gI_pL, nI_lit, nI_addE, nI_mulE, nI_ltE, nI_leE, nI_eqE, nI_eqN, nI_Neq, nI_ltN, nI_Nlt, nI_leN, nI_Nle, nI_NeN, nI_subE, bd1_s, bd2_s, onrN, onrS, grd_t, grd_T, gI_eq, gI_ne, gL_pI, gI_pL, ltT, ltF, leT, leF, eqT, eqF, if_true, if_false, true_or, or_true, ite_true, ite_false, and_true, true_and, and_false, false_and, not_false_eq_true, not_true_eq_false, ↓reduceIte, in_eq, Nat.reduceAdd, Nat.reduceMul, Nat.zero_add, cE_f, cE_t, mE_f, mE_t, within_ok, ne_eq]
  · simp (disch := omega) only [n_qs, n_qt, wax_qs, wax_qt, worth_qs, worth_qt, sold_qs, sold_qt, price_qs, price_qt, buyer_qs, buyer_qt, m_qs, m_qt, kind_qs, kind_qt, a_qs, a_qt, val_qs, val_qt, purse_qs, purse_qt, dr_qs, dr_qt, step_qs, step_qt, lit_qs, lit_qt, tick_qs, tick_qt, burnt_qs, burnt_qt, high_qs, high_qt, holder_qs, holder_qt, z_qs, gI_eq, gI_ne, gL_pI, gI_pL, nI_lit, nI_addE, nI_mulE, nI_ltE, nI_leE, nI_eqE, nI_eqN, nI_Neq, nI_ltN, nI_Nlt, nI_leN, nI_Nle, nI_NeN, nI_subE, bd1_s, bd2_s, onrN, onrS, grd_t, grd_T, gI_eq, gI_ne, gL_pI, gI_pL, ltT, ltF, leT, leF, eqT, eqF, if_true, if_false, true_or, or_true, ite_true, ite_false, and_true, true_and, and_false, false_and, not_false_eq_true, not_true_eq_false, ↓reduceIte, in_eq, Nat.reduceAdd, Nat.reduceMul, Nat.zero_add, cE_f, cE_t, mE_f, mE_t, within_ok, ne_eq]
  · simp (disch := omega) only [n_qs, n_qt, wax_qs, wax_qt, worth_qs, worth_qt, sold_qs, sold_qt, price_qs, price_qt, buyer_qs, buyer_qt, m_qs, m_qt, kind_qs, kind_qt, a_qs, a_qt, val_qs, val_qt, purse_qs, purse_qt, dr_qs, dr_qt, step_qs, step_qt, lit_qs, lit_qt, tick_qs, tick_qt, burnt_qs, burnt_qt, high_qs, high_qt, holder_qs, holder_qt, z_qs, gI_eq, gI_ne, gL_pI, gI_pL, nI_lit, nI_addE, nI_mulE, nI_ltE, nI_leE, nI_eqE, nI_eqN, nI_Neq, nI_ltN, nI_Nlt, nI_leN, nI_Nle, nI_NeN, nI_subE, bd1_s, bd2_s, onrN, onrS, grd_t, grd_T, gI_eq, gI_ne, gL_pI, gI_pL, ltT, ltF, leT, leF, eqT, eqF, if_true, if_false, true_or, or_true, ite_true, ite_false, and_true, true_and, and_false, false_and, not_false_eq_true, not_true_eq_false, ↓reduceIte, in_eq, Nat.reduceAdd, Nat.reduceMul, Nat.zero_add, cE_f, cE_t, mE_f, mE_t, within_ok, ne_eq]
  · simp (disch := omega) only [n_qs, n_qt, wax_qs, wax_qt, worth_qs, worth_qt, sold_qs, sold_qt, price_qs, price_qt, buyer_qs, buyer_qt, m_qs, m_qt, kind_qs, kind_qt, a_qs, a_qt, val_qs, val_qt, purse_qs, purse_qt, dr_qs, dr_qt, step_qs, step_qt, lit_qs, lit_qt, tick_qs, tick_qt, burnt_qs, burnt_qt, high_qs, high_qt, holder_qs, holder_qt, z_qs, gI_eq, gI_ne, gL_pI, gI_pL, nI_lit, nI_addE, nI_mulE, nI_ltE, nI_leE, nI_eqE, nI_eqN, nI_Neq, nI_ltN, nI_Nlt, nI_leN, nI_Nle, nI_NeN, nI_subE, bd1_s, bd2_s, onrN, onrS, grd_t, grd_T, gI_eq, gI_ne, gL_pI, gI_pL, ltT, ltF, leT, leF, eqT, eqF, if_true, if_false, true_or, or_true, ite_true, ite_false, and_true, true_and, and_false, false_and, not_false_eq_true, not_true_eq_false, ↓reduceIte, in_eq, Nat.reduceAdd, Nat.reduceMul, Nat.zero_add, cE_f, cE_t, mE_f, mE_t, within_ok, ne_eq]
  · simp (disch := omega) only [n_qs, n_qt, wax_qs, wax_qt, worth_qs, worth_qt, sold_qs, sold_qt, price_qs, price_qt, buyer_qs, buyer_qt, m_qs, m_qt, kind_qs, kind_qt, a_qs, a_qt, val_qs, val_qt, purse_qs, purse_qt, dr_qs, dr_qt, step_qs, step_qt, lit_qs, lit_qt, tick_qs, tick_qt, burnt_qs, burnt_qt, high_qs, high_qt, holder_qs, holder_qt, z_qs, gI_eq, gI_ne, gL_pI, gI_pL, nI_lit, nI_addE, nI_mulE, nI_ltE, nI_leE, nI_eqE, nI_eqN, nI_Neq, nI_ltN, nI_Nlt, nI_leN, nI_Nle, nI_NeN, nI_subE, bd1_s, bd2_s, onrN, onrS, grd_t, grd_T, gI_eq, gI_ne, gL_pI, gI_pL, ltT, ltF, leT, leF, eqT, eqF, if_true, if_false, true_or, or_true, ite_true, ite_false, and_true, true_and, and_false, false_and, not_false_eq_true, not_true_eq_false, ↓reduceIte, in_eq, Nat.reduceAdd, Nat.reduceMul, Nat.zero_add, cE_f, cE_t, mE_f, mE_t, within_ok, ne_eq]
  · simp (disch := omega) only [n_qs, n_qt, wax_qs, wax_qt, worth_qs, worth_qt, sold_qs, sold_qt, price_qs, price_qt, buyer_qs, buyer_qt, m_qs, m_qt, kind_qs, kind_qt, a_qs, a_qt, val_qs, val_qt, purse_qs, purse_qt, dr_qs, dr_qt, step_qs, step_qt, lit_qs, lit_qt, tick_qs, tick_qt, burnt_qs, burnt_qt, high_qs, high_qt, holder_qs, holder_qt, z_qs, gI_eq, gI_ne, gL_pI, gI_pL]; exact n5 b hb
theorem Fr_none {o : Nat} (σ : Mem) : Fr (fun k _ => k = 104) σ (noneM o σ) := by
  unfold noneM
  repeat (refine Fr_pI _ ?_ rfl)
  exact Fr_rfl _ _
theorem md_sells (ok : q.Okx) (hl : q.lit < q.n) (at' : gI σ 94 13 = nI 0) (M : MH 0 q σ) : ∃ σ', f_X10_sells 94 σ = some (cE q.holder, σ') ∧ MH 0 (sellq q) σ' ∧ Fr (fun k _ => k = 97 ∨ k = 98 ∨ k = 99 ∨ k = 104) σ σ' := by
  obtain ⟨ms, ⟨n0, n1, n2, n3, n4, n5⟩, md, ml, mb⟩ := id M
  have hn := ok.1.1
  have o6 := ok.2.2.2.2.1
  have hd := ok.2.2.2.2.2
  have hm := ok.2.1.1
  simp only [Nat.zero_add] at n1 n2 n3 n4
  have A : MH 0 (soldq q) (pI (pI (pI σ 97 q.lit (nI 1)) 98 q.lit (nI q.high)) 99 q.lit (mE q.holder)) := by
    unfold soldq
    refine ⟨MHs_c ms ⟨rfl, rfl, rfl, rfl⟩ ⟨(by intros; simp (disch := omega) only [gI_ne, gI_eq]), (by intros; simp (disch := omega) only [gI_ne, gI_eq]), (by intros; simp (disch := omega) only [gI_ne, gI_eq]), (by intros; simp (disch := omega) only [gI_ne, gI_eq])⟩, MHr_c M.2.1 rfl ⟨rfl, rfl, rfl, rfl, rfl⟩ (fun _ => rfl) (by intros; simp (disch := omega) only [gI_ne, gI_eq]), MHd_c md (fun _ => rfl) (by intros; simp (disch := omega) only [gI_ne, gI_eq]), fun i hi => ?_, MHb_c mb rfl (fun _ => ⟨rfl, rfl, rfl⟩) (by intros; simp (disch := omega) only [gI_ne, gI_eq])⟩
    have hi : i < q.n := hi
    obtain ⟨w1, w2, w3, w4⟩ := ml i hi
    by_cases e : i = q.lit
    · simp (disch := omega) only [n_qs, n_qt, wax_qs, wax_qt, worth_qs, worth_qt, sold_qs, sold_qt, price_qs, price_qt, buyer_qs, buyer_qt, m_qs, m_qt, kind_qs, kind_qt, a_qs, a_qt, val_qs, val_qt, purse_qs, purse_qt, dr_qs, dr_qt, step_qs, step_qt, lit_qs, lit_qt, tick_qs, tick_qt, burnt_qs, burnt_qt, high_qs, high_qt, holder_qs, holder_qt, z_qs, gI_eq, gI_ne, gL_pI, gI_pL]
      exact ⟨w1, w2, trivial, fun _ => ⟨trivial, trivial⟩⟩
    · simp (disch := omega) only [n_qs, n_qt, wax_qs, wax_qt, worth_qs, worth_qt, sold_qs, sold_qt, price_qs, price_qt, buyer_qs, buyer_qt, m_qs, m_qt, kind_qs, kind_qt, a_qs, a_qt, val_qs, val_qt, purse_qs, purse_qt, dr_qs, dr_qt, step_qs, step_qt, lit_qs, lit_qt, tick_qs, tick_qt, burnt_qs, burnt_qt, high_qs, high_qt, holder_qs, holder_qt, z_qs, gI_eq, gI_ne, gL_pI, gI_pL]
      exact ⟨w1, w2, w3, w4⟩
  have okA := soldq_ok ok
  have aA : gI (pI (pI (pI σ 97 q.lit (nI 1)) 98 q.lit (nI q.high)) 99 q.lit (mE q.holder)) 94 13 = nI 0 := by simp (disch := omega) only [gI_eq, gI_ne, gL_pI, gI_pL]; exact at'
  obtain ⟨σ2, p1, p2, p3⟩ := md_pay (Nat.zero_le 11) okA aA A
  have a2 : gI σ2 94 13 = nI 0 := by rw [p3.1 94 13 (by omega)]; exact aA
  refine ⟨noneM 0 σ2, ?_, MH_none p2, ?_⟩
  · unfold f_X10_sells f_X10_orNot
    by_cases e : q.holder = 9
    · have h0 : q.high = 0 := by omega
      rw [h0, mE_t e] at p1
      simp (disch := omega) only [nI_lit, nI_addE, nI_mulE, nI_ltE, nI_leE, nI_eqE, nI_eqN, nI_Neq, nI_ltN, nI_Nlt, nI_leN, nI_Nle, nI_NeN, nI_subE, bd1_s, bd2_s, onrN, onrS, grd_t, grd_T, gI_eq, gI_ne, gL_pI, gI_pL, ltT, ltF, leT, leF, eqT, eqF, if_true, if_false, true_or, or_true, ite_true, ite_false, and_true, true_and, and_false, false_and, not_false_eq_true, not_true_eq_false, ↓reduceIte, in_eq, Nat.reduceAdd, Nat.reduceMul, Nat.zero_add, cE_f, cE_t, mE_f, mE_t, within_ok, ne_eq, ixo_95, ixo_96, ixo_97, ixo_98, ixo_99, ixo_100, ixo_101, ixo_102, ixo_103, ixo_104, ixo_105, ixo_106, ixo_107, ixo_108, ixo_109, ixo_110, ixo_111, ixo_112, ixo_113, ixo_114, ixo_115, ixo_116, ixo_117, ixo_118, ixo_119, ixo_120, ixo_121, ixo_122, ixo_123, ixo_124, ixo_125, ixo_126, n0, n4, p1, md_none (Nat.zero_le 11) a2]
    · rw [mE_f (by omega)] at p1
      simp (disch := omega) only [nI_lit, nI_addE, nI_mulE, nI_ltE, nI_leE, nI_eqE, nI_eqN, nI_Neq, nI_ltN, nI_Nlt, nI_leN, nI_Nle, nI_NeN, nI_subE, bd1_s, bd2_s, onrN, onrS, grd_t, grd_T, gI_eq, gI_ne, gL_pI, gI_pL, ltT, ltF, leT, leF, eqT, eqF, if_true, if_false, true_or, or_true, ite_true, ite_false, and_true, true_and, and_false, false_and, not_false_eq_true, not_true_eq_false, ↓reduceIte, in_eq, Nat.reduceAdd, Nat.reduceMul, Nat.zero_add, cE_f, cE_t, mE_f, mE_t, within_ok, ne_eq, ixo_95, ixo_96, ixo_97, ixo_98, ixo_99, ixo_100, ixo_101, ixo_102, ixo_103, ixo_104, ixo_105, ixo_106, ixo_107, ixo_108, ixo_109, ixo_110, ixo_111, ixo_112, ixo_113, ixo_114, ixo_115, ixo_116, ixo_117, ixo_118, ixo_119, ixo_120, ixo_121, ixo_122, ixo_123, ixo_124, ixo_125, ixo_126, n0, n4, n3, p1, md_none (Nat.zero_le 11) a2]
  · refine Fr_tr ?_ (Fr_tr (Fr_mono p3 (fun k i w => ?_)) (Fr_mono (Fr_none σ2) (fun k i w => ?_)))
    · refine Fr_pI _ (Fr_pI _ (Fr_pI _ (Fr_rfl _ _) ?_) ?_) ?_ <;> omega
    · omega
    · omega
theorem MH_fr {o : Nat} {σ' : Mem} (M : MH o q σ) (e : ∀ k i, (k = 94 ∧ (i = 0 ∨ i = 7 ∨ i = 8 ∨ i = 14)) ∨ (95 ≤ k ∧ k ≤ 104) → gI σ' k i = gI σ k i) : MH o q σ' := by
  obtain ⟨ms, mr, md, ml, mb⟩ := M
  refine ⟨MHs_c ms ⟨rfl, rfl, rfl, rfl⟩ ⟨e _ _ (by omega), e _ _ (by omega), e _ _ (by omega), e _ _ (by omega)⟩, MHr_c mr rfl ⟨rfl, rfl, rfl, rfl, rfl⟩ (fun _ => rfl) (fun i => e _ _ (by omega)), MHd_c md (fun _ => rfl) (fun i => e _ _ (by omega)), MHl_c ml rfl (fun _ => ⟨rfl, rfl, rfl, rfl, rfl⟩) (fun k i _ _ => e _ _ (by omega)), MHb_c mb rfl (fun _ => ⟨rfl, rfl, rfl⟩) (fun k i _ _ => e _ _ (by omega))⟩
theorem op_snuff (I : Inv q σ) : OpOk (f_X9_snuff 0) (f_X10_snuff 94) σ := by
  obtain ⟨⟨⟨hn, hol⟩, hob, hoc⟩, ⟨cs, cd, cl, cb⟩, ⟨ms, mr, md, ml, mb⟩, r0, r1⟩ := id I
  obtain ⟨c1, c3, c5, c6, c7, c8⟩ := id cs
  obtain ⟨m0, m8, m7, m14⟩ := id ms
  have hm := hob.1
  have n0 := mr.1
  by_cases e : q.lit = 9
  · refine ⟨-4, σ, σ, q, ?_, ?_, I⟩
    · simp (disch := omega) only [f_X9_snuff, nI_lit, nI_addE, nI_mulE, nI_ltE, nI_leE, nI_eqE, nI_eqN, nI_Neq, nI_ltN, nI_Nlt, nI_leN, nI_Nle, nI_NeN, nI_subE, bd1_s, bd2_s, onrN, onrS, grd_t, grd_T, gI_eq, gI_ne, gL_pI, gI_pL, ltT, ltF, leT, leF, eqT, eqF, if_true, if_false, true_or, or_true, ite_true, ite_false, and_true, true_and, and_false, false_and, not_false_eq_true, not_true_eq_false, ↓reduceIte, in_eq, Nat.reduceAdd, Nat.reduceMul, Nat.zero_add, cE_f, cE_t, mE_f, mE_t, within_ok, ne_eq, cl_burning9 e c1 c7]
    · simp (disch := omega) only [f_X10_snuff, nI_lit, nI_addE, nI_mulE, nI_ltE, nI_leE, nI_eqE, nI_eqN, nI_Neq, nI_ltN, nI_Nlt, nI_leN, nI_Nle, nI_NeN, nI_subE, bd1_s, bd2_s, onrN, onrS, grd_t, grd_T, gI_eq, gI_ne, gL_pI, gI_pL, ltT, ltF, leT, leF, eqT, eqF, if_true, if_false, true_or, or_true, ite_true, ite_false, and_true, true_and, and_false, false_and, not_false_eq_true, not_true_eq_false, ↓reduceIte, in_eq, Nat.reduceAdd, Nat.reduceMul, Nat.zero_add, cE_f, cE_t, mE_f, mE_t, within_ok, ne_eq, ixo_95, ixo_96, ixo_97, ixo_98, ixo_99, ixo_100, ixo_101, ixo_102, ixo_103, ixo_104, ixo_105, ixo_106, ixo_107, ixo_108, ixo_109, ixo_110, ixo_111, ixo_112, ixo_113, ixo_114, ixo_115, ixo_116, ixo_117, ixo_118, ixo_119, ixo_120, ixo_121, ixo_122, ixo_123, ixo_124, ixo_125, ixo_126, n0]
  have hL : q.lit < q.n := by have := hoc.2.2.1; omega
  obtain ⟨σ1, p1, p2, p3⟩ := cl_putOut (.inl rfl) (okx I.1) hL I.2.1
  have M1 : MH 0 q σ1 := MH_fr I.2.2.1 (fun k i c => p3.1 k i (by unfold FH; omega))
  have a1 : gI σ1 94 13 = nI 0 := (p3.1 94 13 (by unfold FH; omega)).trans r0.1
  obtain ⟨σ2, s1, s2, s3⟩ := md_sells (okx I.1) hL a1 M1
  refine ⟨cE q.holder, σ1, σ2, sellq q, ?_, ?_, sellq_ok (okx I.1), CH_fr (sellq_ok (okx I.1)) p2 (fun k i h1 h2 => s3.1 k i (by omega)), s2, ?_, R1_fr r1 (Fr_tr (Fr_mono p3 (fun k i w => ?_)) (Fr_mono s3 (fun k i w => ?_)))⟩
  · have S := sell_f q
    have w : gI σ1 (1 + 4 + q.lit) 4 = cE q.holder := by
      have := (p2.2.2.1.1 q.lit (by rw [S.1]; exact hL)).2.2.2.2
      rw [S.2.2.1, S.2.2.2.2.1] at this
      exact this
    simp only [Nat.reduceAdd] at w
    simp (disch := omega) only [f_X9_snuff, nI_lit, nI_addE, nI_mulE, nI_ltE, nI_leE, nI_eqE, nI_eqN, nI_Neq, nI_ltN, nI_Nlt, nI_leN, nI_Nle, nI_NeN, nI_subE, bd1_s, bd2_s, onrN, onrS, grd_t, grd_T, gI_eq, gI_ne, gL_pI, gI_pL, ltT, ltF, leT, leF, eqT, eqF, if_true, if_false, true_or, or_true, ite_true, ite_false, and_true, true_and, and_false, false_and, not_false_eq_true, not_true_eq_false, ↓reduceIte, in_eq, Nat.reduceAdd, Nat.reduceMul, Nat.zero_add, cE_f, cE_t, mE_f, mE_t, within_ok, ne_eq, cl_burning (.inl rfl) hn hL c1 c7, grd_lot (.inl rfl), grd_bid (.inl rfl), p1, w]
  · have n01 : gI σ1 104 0 = mE q.lit := M1.2.1.1
    simp (disch := omega) only [f_X10_snuff, nI_lit, nI_addE, nI_mulE, nI_ltE, nI_leE, nI_eqE, nI_eqN, nI_Neq, nI_ltN, nI_Nlt, nI_leN, nI_Nle, nI_NeN, nI_subE, bd1_s, bd2_s, onrN, onrS, grd_t, grd_T, gI_eq, gI_ne, gL_pI, gI_pL, ltT, ltF, leT, leF, eqT, eqF, if_true, if_false, true_or, or_true, ite_true, ite_false, and_true, true_and, and_false, false_and, not_false_eq_true, not_true_eq_false, ↓reduceIte, in_eq, Nat.reduceAdd, Nat.reduceMul, Nat.zero_add, cE_f, cE_t, mE_f, mE_t, within_ok, ne_eq, ixo_95, ixo_96, ixo_97, ixo_98, ixo_99, ixo_100, ixo_101, ixo_102, ixo_103, ixo_104, ixo_105, ixo_106, ixo_107, ixo_108, ixo_109, ixo_110, ixo_111, ixo_112, ixo_113, ixo_114, ixo_115, ixo_116, ixo_117, ixo_118, ixo_119, ixo_120, ixo_121, ixo_122, ixo_123, ixo_124, ixo_125, ixo_126, n01, s1]
  · refine ⟨(s3.1 94 13 (by omega)).trans a1, (s3.1 94 33 (by omega)).trans ((p3.1 94 33 (by unfold FH; omega)).trans r0.2)⟩
  · unfold FH at w; unfold WH; omega
  · unfold WH; omega
def backq (q : HQ) (l : Nat) : HQ := qs (if q.buyer l = 9 then q else qs q 10 (q.buyer l) (if 9999 < q.purse (q.buyer l) + q.price l then 9999 else q.purse (q.buyer l) + q.price l)) 3 l 0
theorem op_back (I : Inv q σ) (a1 : Int32) : OpOk (f_X9_back 0 a1) (f_X10_back 94 a1) σ := by
  obtain ⟨⟨⟨hn, hol⟩, hob, hoc⟩, ⟨cs, cd, cl, cb⟩, ⟨ms, mr, md, ml, mb⟩, r0, r1⟩ := id I
  obtain ⟨c1, c3, c5, c6, c7, c8⟩ := id cs
  obtain ⟨m0, m8, m7, m14⟩ := id ms
  have hm := hob.1
  rcases (arg3 a1 q.n (by omega)).symm with b | ⟨l, hl, rfl⟩
  · refine ⟨-1, σ, σ, q, ?_, ?_, I⟩
    · simp (disch := omega) only [f_X9_back, nI_lit, nI_addE, nI_mulE, nI_ltE, nI_leE, nI_eqE, nI_eqN, nI_Neq, nI_ltN, nI_Nlt, nI_leN, nI_Nle, nI_NeN, nI_subE, bd1_s, bd2_s, onrN, onrS, grd_t, grd_T, gI_eq, gI_ne, gL_pI, gI_pL, ltT, ltF, leT, leF, eqT, eqF, if_true, if_false, true_or, or_true, ite_true, ite_false, and_true, true_and, and_false, false_and, not_false_eq_true, not_true_eq_false, ↓reduceIte, in_eq, Nat.reduceAdd, Nat.reduceMul, Nat.zero_add, cE_f, cE_t, mE_f, mE_t, within_ok, ne_eq, lotAt_no c1 b]
    · simp (disch := omega) only [f_X10_back, nI_lit, nI_addE, nI_mulE, nI_ltE, nI_leE, nI_eqE, nI_eqN, nI_Neq, nI_ltN, nI_Nlt, nI_leN, nI_Nle, nI_NeN, nI_subE, bd1_s, bd2_s, onrN, onrS, grd_t, grd_T, gI_eq, gI_ne, gL_pI, gI_pL, ltT, ltF, leT, leF, eqT, eqF, if_true, if_false, true_or, or_true, ite_true, ite_false, and_true, true_and, and_false, false_and, not_false_eq_true, not_true_eq_false, ↓reduceIte, in_eq, Nat.reduceAdd, Nat.reduceMul, Nat.zero_add, cE_f, cE_t, mE_f, mE_t, within_ok, ne_eq, isLot_no m0 b]
  obtain ⟨w1, w2, w3, w4, w5⟩ := cl.1 l hl
  obtain ⟨v1, v2, v3, v4⟩ := ml l hl
  have ol := hol l hl
  simp only [Nat.reduceAdd] at w3 w4 w5
  obtain ⟨n0, n1, n2, n3, n4, n5⟩ := id mr
  by_cases s : q.sold l = 0
  · refine ⟨-4, σ, σ, q, ?_, ?_, I⟩
    · simp (disch := omega) only [f_X9_back, nI_lit, nI_addE, nI_mulE, nI_ltE, nI_leE, nI_eqE, nI_eqN, nI_Neq, nI_ltN, nI_Nlt, nI_leN, nI_Nle, nI_NeN, nI_subE, bd1_s, bd2_s, onrN, onrS, grd_t, grd_T, gI_eq, gI_ne, gL_pI, gI_pL, ltT, ltF, leT, leF, eqT, eqF, if_true, if_false, true_or, or_true, ite_true, ite_false, and_true, true_and, and_false, false_and, not_false_eq_true, not_true_eq_false, ↓reduceIte, in_eq, Nat.reduceAdd, Nat.reduceMul, Nat.zero_add, cE_f, cE_t, mE_f, mE_t, within_ok, ne_eq, lotAt_ok (.inl rfl) c1 hn hl, grd_lot (.inl rfl), grd_bid (.inl rfl), w3]
    · simp (disch := omega) only [f_X10_back, nI_lit, nI_addE, nI_mulE, nI_ltE, nI_leE, nI_eqE, nI_eqN, nI_Neq, nI_ltN, nI_Nlt, nI_leN, nI_Nle, nI_NeN, nI_subE, bd1_s, bd2_s, onrN, onrS, grd_t, grd_T, gI_eq, gI_ne, gL_pI, gI_pL, ltT, ltF, leT, leF, eqT, eqF, if_true, if_false, true_or, or_true, ite_true, ite_false, and_true, true_and, and_false, false_and, not_false_eq_true, not_true_eq_false, ↓reduceIte, in_eq, Nat.reduceAdd, Nat.reduceMul, Nat.zero_add, cE_f, cE_t, mE_f, mE_t, within_ok, ne_eq, isLot_ok m0 hn hl, ixo_95, ixo_96, ixo_97, ixo_98, ixo_99, ixo_100, ixo_101, ixo_102, ixo_103, ixo_104, ixo_105, ixo_106, ixo_107, ixo_108, ixo_109, ixo_110, ixo_111, ixo_112, ixo_113, ixo_114, ixo_115, ixo_116, ixo_117, ixo_118, ixo_119, ixo_120, ixo_121, ixo_122, ixo_123, ixo_124, ixo_125, ixo_126, v3]
  have s1 : q.sold l = 1 := by omega
  obtain ⟨v4, v5⟩ := v4 s1
  rw [if_pos s1] at w4 w5
  obtain ⟨op, ob⟩ := ol.2.2.2 s1
  have litne : q.lit = l ∨ q.lit ≠ l := by omega
  by_cases g : q.buyer l = 9
  · refine ⟨1, ?s1, ?s2, qs q 3 l 0, ?e1, ?e2, ?_⟩
    case e1 =>
      simp (disch := omega) only [f_X9_back, f_X3_unsell, nI_lit, nI_addE, nI_mulE, nI_ltE, nI_leE, nI_eqE, nI_eqN, nI_Neq, nI_ltN, nI_Nlt, nI_leN, nI_Nle, nI_NeN, nI_subE, bd1_s, bd2_s, onrN, onrS, grd_t, grd_T, gI_eq, gI_ne, gL_pI, gI_pL, ltT, ltF, leT, leF, eqT, eqF, if_true, if_false, true_or, or_true, ite_true, ite_false, and_true, true_and, and_false, false_and, not_false_eq_true, not_true_eq_false, ↓reduceIte, in_eq, Nat.reduceAdd, Nat.reduceMul, Nat.zero_add, cE_f, cE_t, mE_f, mE_t, within_ok, ne_eq, lotAt_ok (.inl rfl) c1 hn hl, grd_lot (.inl rfl), grd_bid (.inl rfl), w3, w5, bidAt_no c3 (bad9 (by omega))]
      rfl
    case e2 =>
      simp (disch := omega) only [f_X10_back, nI_lit, nI_addE, nI_mulE, nI_ltE, nI_leE, nI_eqE, nI_eqN, nI_Neq, nI_ltN, nI_Nlt, nI_leN, nI_Nle, nI_NeN, nI_subE, bd1_s, bd2_s, onrN, onrS, grd_t, grd_T, gI_eq, gI_ne, gL_pI, gI_pL, ltT, ltF, leT, leF, eqT, eqF, if_true, if_false, true_or, or_true, ite_true, ite_false, and_true, true_and, and_false, false_and, not_false_eq_true, not_true_eq_false, ↓reduceIte, in_eq, Nat.reduceAdd, Nat.reduceMul, Nat.zero_add, cE_f, cE_t, mE_f, mE_t, within_ok, ne_eq, f_X10_isLot, f_X10_isBidder, m0, m8, ixo_95, ixo_96, ixo_97, ixo_98, ixo_99, ixo_100, ixo_101, ixo_102, ixo_103, ixo_104, ixo_105, ixo_106, ixo_107, ixo_108, ixo_109, ixo_110, ixo_111, ixo_112, ixo_113, ixo_114, ixo_115, ixo_116, ixo_117, ixo_118, ixo_119, ixo_120, ixo_121, ixo_122, ixo_123, ixo_124, ixo_125, ixo_126, v3, v5]
      rfl
    refine ⟨⟨⟨hn, fun i hi => ?_⟩, hob, hoc⟩, ⟨(CHs_c cs ⟨rfl, rfl, rfl, rfl, rfl, rfl, rfl, rfl, rfl⟩ (by intros; simp (disch := omega) only [gI_ne, gI_eq])), (CHd_c cd (fun _ => rfl) (by intros; simp (disch := omega) only [gI_ne, gI_eq])), ⟨fun i hi => ?_, fun i hi => ?_⟩, (CHb_c cb hob.1 rfl (fun _ => ⟨rfl, rfl, rfl, rfl⟩) (by intros; simp (disch := omega) only [gI_ne, gI_eq]))⟩, ⟨(MHs_c ms ⟨rfl, rfl, rfl, rfl⟩ ⟨(by intros; simp (disch := omega) only [gI_ne, gI_eq]), (by intros; simp (disch := omega) only [gI_ne, gI_eq]), (by intros; simp (disch := omega) only [gI_ne, gI_eq]), (by intros; simp (disch := omega) only [gI_ne, gI_eq])⟩), (MHr_c mr rfl ⟨rfl, rfl, rfl, rfl, rfl⟩ (fun _ => rfl) (by intros; simp (disch := omega) only [gI_ne, gI_eq])), (MHd_c md (fun _ => rfl) (by intros; simp (disch := omega) only [gI_ne, gI_eq])), fun i hi => ?_, (MHb_c mb rfl (fun _ => ⟨rfl, rfl, rfl⟩) (by intros; simp (disch := omega) only [gI_ne, gI_eq]))⟩, ⟨by simp (disch := omega) only [gI_ne]; exact r0.1, by simp (disch := omega) only [gI_ne]; exact r0.2⟩, R1_fr r1 ?_⟩
    · have hi : i < q.n := hi
      have := hol i hi
      by_cases e : i = l
      · simp (disch := omega) only [n_qs, n_qt, wax_qs, wax_qt, worth_qs, worth_qt, sold_qs, sold_qt, price_qs, price_qt, buyer_qs, buyer_qt, m_qs, m_qt, kind_qs, kind_qt, a_qs, a_qt, val_qs, val_qt, purse_qs, purse_qt, dr_qs, dr_qt, step_qs, step_qt, lit_qs, lit_qt, tick_qs, tick_qt, burnt_qs, burnt_qt, high_qs, high_qt, holder_qs, holder_qt, z_qs]; exact ⟨this.1, this.2.1, Nat.zero_le 1, fun c => absurd c (by omega)⟩
      · simp (disch := omega) only [n_qs, n_qt, wax_qs, wax_qt, worth_qs, worth_qt, sold_qs, sold_qt, price_qs, price_qt, buyer_qs, buyer_qt, m_qs, m_qt, kind_qs, kind_qt, a_qs, a_qt, val_qs, val_qt, purse_qs, purse_qt, dr_qs, dr_qt, step_qs, step_qt, lit_qs, lit_qt, tick_qs, tick_qt, burnt_qs, burnt_qt, high_qs, high_qt, holder_qs, holder_qt, z_qs]; exact this
    · have hi : i < q.n := hi
      have := cl.1 i hi
      by_cases e : i = l
      · simp (disch := omega) only [n_qs, n_qt, wax_qs, wax_qt, worth_qs, worth_qt, sold_qs, sold_qt, price_qs, price_qt, buyer_qs, buyer_qt, m_qs, m_qt, kind_qs, kind_qt, a_qs, a_qt, val_qs, val_qt, purse_qs, purse_qt, dr_qs, dr_qt, step_qs, step_qt, lit_qs, lit_qt, tick_qs, tick_qt, burnt_qs, burnt_qt, high_qs, high_qt, holder_qs, holder_qt, z_qs, gI_eq, gI_ne, gL_pI, gI_pL, Nat.reduceAdd] at this ⊢
        exact ⟨this.1, this.2.1, trivial, by rw [if_neg (by omega)]; rfl, by rw [if_neg (by omega)]; rfl⟩
      · simp (disch := omega) only [n_qs, n_qt, wax_qs, wax_qt, worth_qs, worth_qt, sold_qs, sold_qt, price_qs, price_qt, buyer_qs, buyer_qt, m_qs, m_qt, kind_qs, kind_qt, a_qs, a_qt, val_qs, val_qt, purse_qs, purse_qt, dr_qs, dr_qt, step_qs, step_qt, lit_qs, lit_qt, tick_qs, tick_qt, burnt_qs, burnt_qt, high_qs, high_qt, holder_qs, holder_qt, z_qs, gI_eq, gI_ne, gL_pI, gI_pL]; exact this
    · by_cases e : i = l
      · simp (disch := omega) only [gI_eq, gI_ne, gL_pI, gI_pL, Nat.reduceAdd]; exact .inl rfl
      · simp (disch := omega) only [gI_eq, gI_ne, gL_pI, gI_pL]; exact cl.2 i hi
    · have hi : i < q.n := hi
      have := ml i hi
      by_cases e : i = l
      · simp (disch := omega) only [n_qs, n_qt, wax_qs, wax_qt, worth_qs, worth_qt, sold_qs, sold_qt, price_qs, price_qt, buyer_qs, buyer_qt, m_qs, m_qt, kind_qs, kind_qt, a_qs, a_qt, val_qs, val_qt, purse_qs, purse_qt, dr_qs, dr_qt, step_qs, step_qt, lit_qs, lit_qt, tick_qs, tick_qt, burnt_qs, burnt_qt, high_qs, high_qt, holder_qs, holder_qt, z_qs, gI_eq, gI_ne, gL_pI, gI_pL]; exact ⟨this.1, this.2.1, trivial, fun c => absurd c (by omega)⟩
      · simp (disch := omega) only [n_qs, n_qt, wax_qs, wax_qt, worth_qs, worth_qt, sold_qs, sold_qt, price_qs, price_qt, buyer_qs, buyer_qt, m_qs, m_qt, kind_qs, kind_qt, a_qs, a_qt, val_qs, val_qt, purse_qs, purse_qt, dr_qs, dr_qt, step_qs, step_qt, lit_qs, lit_qt, tick_qs, tick_qt, burnt_qs, burnt_qt, high_qs, high_qt, holder_qs, holder_qt, z_qs, gI_eq, gI_ne, gL_pI, gI_pL]; exact this
    · (repeat (refine Fr_pI _ ?_ (by unfold WH; omega))); exact Fr_rfl _ _
  · have hb : q.buyer l < q.m := by omega
    have n5b := n5 _ hb
    simp only [Nat.reduceAdd] at n5b
    obtain ⟨x1, x2, x3, x4⟩ := cb _ hb
    simp only [Nat.reduceAdd] at x4
    have obb := hob.2 _ hb
    have key : ∃ P, P ≤ 9999 ∧ P = (if 9999 < q.purse (q.buyer l) + q.price l then 9999 else q.purse (q.buyer l) + q.price l) := ⟨_, by split <;> omega, rfl⟩
    obtain ⟨P, hP, eP⟩ := key
    refine ⟨1, pI (pI (pI (pI σ (10 + q.buyer l) 3 (nI P)) (5 + l) 2 (nI 0)) (5 + l) 3 (-nI 9)) (5 + l) 4 (-nI 9), pI (pI (pI (pI (pI (pI σ (10 + q.buyer l) 3 (nI P)) (5 + l) 2 (nI 0)) (5 + l) 3 (-nI 9)) (5 + l) 4 (-nI 9)) 97 l (nI 0)) 104 (5 + q.buyer l) (nI P), qs (qs q 10 (q.buyer l) P) 3 l 0, ?e3, ?e4, ?_⟩
    case e3 =>
      rw [eP]
      by_cases gg : 9999 < q.purse (q.buyer l) + q.price l
      · simp (disch := omega) only [f_X9_back, f_X3_unsell, nI_lit, nI_addE, nI_mulE, nI_ltE, nI_leE, nI_eqE, nI_eqN, nI_Neq, nI_ltN, nI_Nlt, nI_leN, nI_Nle, nI_NeN, nI_subE, bd1_s, bd2_s, onrN, onrS, grd_t, grd_T, gI_eq, gI_ne, gL_pI, gI_pL, ltT, ltF, leT, leF, eqT, eqF, if_true, if_false, true_or, or_true, ite_true, ite_false, and_true, true_and, and_false, false_and, not_false_eq_true, not_true_eq_false, ↓reduceIte, in_eq, Nat.reduceAdd, Nat.reduceMul, Nat.zero_add, cE_f, cE_t, mE_f, mE_t, within_ok, ne_eq, lotAt_ok (.inl rfl) c1 hn hl, grd_lot (.inl rfl), grd_bid (.inl rfl), w3, w4, w5, bidAt_ok (.inl rfl) c3 hm hb, x4]
      · simp (disch := omega) only [f_X9_back, f_X3_unsell, nI_lit, nI_addE, nI_mulE, nI_ltE, nI_leE, nI_eqE, nI_eqN, nI_Neq, nI_ltN, nI_Nlt, nI_leN, nI_Nle, nI_NeN, nI_subE, bd1_s, bd2_s, onrN, onrS, grd_t, grd_T, gI_eq, gI_ne, gL_pI, gI_pL, ltT, ltF, leT, leF, eqT, eqF, if_true, if_false, true_or, or_true, ite_true, ite_false, and_true, true_and, and_false, false_and, not_false_eq_true, not_true_eq_false, ↓reduceIte, in_eq, Nat.reduceAdd, Nat.reduceMul, Nat.zero_add, cE_f, cE_t, mE_f, mE_t, within_ok, ne_eq, lotAt_ok (.inl rfl) c1 hn hl, grd_lot (.inl rfl), grd_bid (.inl rfl), w3, w4, w5, bidAt_ok (.inl rfl) c3 hm hb, x4]
    case e4 =>
      generalize hσ : pI (pI (pI (pI σ (10 + q.buyer l) 3 (nI P)) (5 + l) 2 (nI 0)) (5 + l) 3 (-nI 9)) (5 + l) 4 (-nI 9) = τ
      have y0 : gI τ 94 0 = nI q.n := by rw [← hσ]; simp (disch := omega) only [gI_eq, gI_ne, gL_pI, gI_pL]; exact m0
      have y1 : gI τ 97 l = nI (q.sold l) := by rw [← hσ]; simp (disch := omega) only [gI_eq, gI_ne, gL_pI, gI_pL]; exact v3
      have y2 : gI τ 99 l = mE (q.buyer l) := by rw [← hσ]; simp (disch := omega) only [gI_eq, gI_ne, gL_pI, gI_pL]; exact v5
      have y3 : gI τ 98 l = nI (q.price l) := by rw [← hσ]; simp (disch := omega) only [gI_eq, gI_ne, gL_pI, gI_pL]; exact v4
      have y4 : gI τ 104 (5 + q.buyer l) = nI (q.purse (q.buyer l)) := by rw [← hσ]; simp (disch := omega) only [gI_eq, gI_ne, gL_pI, gI_pL]; exact n5b
      rw [eP]
      by_cases gg : 9999 < q.purse (q.buyer l) + q.price l
      · simp (disch := omega) only [f_X10_back, nI_lit, nI_addE, nI_mulE, nI_ltE, nI_leE, nI_eqE, nI_eqN, nI_Neq, nI_ltN, nI_Nlt, nI_leN, nI_Nle, nI_NeN, nI_subE, bd1_s, bd2_s, onrN, onrS, grd_t, grd_T, gI_eq, gI_ne, gL_pI, gI_pL, ltT, ltF, leT, leF, eqT, eqF, if_true, if_false, true_or, or_true, ite_true, ite_false, and_true, true_and, and_false, false_and, not_false_eq_true, not_true_eq_false, ↓reduceIte, in_eq, Nat.reduceAdd, Nat.reduceMul, Nat.zero_add, cE_f, cE_t, mE_f, mE_t, within_ok, ne_eq, isLot_ok y0 hn hl, ixo_95, ixo_96, ixo_97, ixo_98, ixo_99, ixo_100, ixo_101, ixo_102, ixo_103, ixo_104, ixo_105, ixo_106, ixo_107, ixo_108, ixo_109, ixo_110, ixo_111, ixo_112, ixo_113, ixo_114, ixo_115, ixo_116, ixo_117, ixo_118, ixo_119, ixo_120, ixo_121, ixo_122, ixo_123, ixo_124, ixo_125, ixo_126, y1, y2, y3, y4]
      · simp (disch := omega) only [f_X10_back, nI_lit, nI_addE, nI_mulE, nI_ltE, nI_leE, nI_eqE, nI_eqN, nI_Neq, nI_ltN, nI_Nlt, nI_leN, nI_Nle, nI_NeN, nI_subE, bd1_s, bd2_s, onrN, onrS, grd_t, grd_T, gI_eq, gI_ne, gL_pI, gI_pL, ltT, ltF, leT, leF, eqT, eqF, if_true, if_false, true_or, or_true, ite_true, ite_false, and_true, true_and, and_false, false_and, not_false_eq_true, not_true_eq_false, ↓reduceIte, in_eq, Nat.reduceAdd, Nat.reduceMul, Nat.zero_add, cE_f, cE_t, mE_f, mE_t, within_ok, ne_eq, isLot_ok y0 hn hl, ixo_95, ixo_96, ixo_97, ixo_98, ixo_99, ixo_100, ixo_101, ixo_102, ixo_103, ixo_104, ixo_105, ixo_106, ixo_107, ixo_108, ixo_109, ixo_110, ixo_111, ixo_112, ixo_113, ixo_114, ixo_115, ixo_116, ixo_117, ixo_118, ixo_119, ixo_120, ixo_121, ixo_122, ixo_123, ixo_124, ixo_125, ixo_126, y1, y2, y3, y4]
    refine ⟨⟨⟨hn, fun i hi => ?_⟩, ⟨hm, fun i hi => ?_⟩, hoc⟩, ⟨(CHs_c cs ⟨rfl, rfl, rfl, rfl, rfl, rfl, rfl, rfl, rfl⟩ (by intros; simp (disch := omega) only [gI_ne, gI_eq])), (CHd_c cd (fun _ => rfl) (by intros; simp (disch := omega) only [gI_ne, gI_eq])), ⟨fun i hi => ?_, fun i hi => ?_⟩, fun i hi => ?_⟩, ⟨(MHs_c ms ⟨rfl, rfl, rfl, rfl⟩ ⟨(by intros; simp (disch := omega) only [gI_ne, gI_eq]), (by intros; simp (disch := omega) only [gI_ne, gI_eq]), (by intros; simp (disch := omega) only [gI_ne, gI_eq]), (by intros; simp (disch := omega) only [gI_ne, gI_eq])⟩), ⟨?_, ?_, ?_, ?_, ?_, fun i hi => ?_⟩, (MHd_c md (fun _ => rfl) (by intros; simp (disch := omega) only [gI_ne, gI_eq])), fun i hi => ?_, (MHb_c mb rfl (fun _ => ⟨rfl, rfl, rfl⟩) (by intros; simp (disch := omega) only [gI_ne, gI_eq]))⟩, ⟨by simp (disch := omega) only [gI_ne]; exact r0.1, by simp (disch := omega) only [gI_ne]; exact r0.2⟩, R1_fr r1 ?_⟩
    · have hi : i < q.n := hi
      have := hol i hi
      by_cases e : i = l
      · simp (disch := omega) only [n_qs, n_qt, wax_qs, wax_qt, worth_qs, worth_qt, sold_qs, sold_qt, price_qs, price_qt, buyer_qs, buyer_qt, m_qs, m_qt, kind_qs, kind_qt, a_qs, a_qt, val_qs, val_qt, purse_qs, purse_qt, dr_qs, dr_qt, step_qs, step_qt, lit_qs, lit_qt, tick_qs, tick_qt, burnt_qs, burnt_qt, high_qs, high_qt, holder_qs, holder_qt, z_qs]; exact ⟨this.1, this.2.1, Nat.zero_le 1, fun c => absurd c (by omega)⟩
      · simp (disch := omega) only [n_qs, n_qt, wax_qs, wax_qt, worth_qs, worth_qt, sold_qs, sold_qt, price_qs, price_qt, buyer_qs, buyer_qt, m_qs, m_qt, kind_qs, kind_qt, a_qs, a_qt, val_qs, val_qt, purse_qs, purse_qt, dr_qs, dr_qt, step_qs, step_qt, lit_qs, lit_qt, tick_qs, tick_qt, burnt_qs, burnt_qt, high_qs, high_qt, holder_qs, holder_qt, z_qs]; exact this
    · have hi : i < q.m := hi
      have := hob.2 i hi
      by_cases e : i = q.buyer l
      · simp (disch := omega) only [n_qs, n_qt, wax_qs, wax_qt, worth_qs, worth_qt, sold_qs, sold_qt, price_qs, price_qt, buyer_qs, buyer_qt, m_qs, m_qt, kind_qs, kind_qt, a_qs, a_qt, val_qs, val_qt, purse_qs, purse_qt, dr_qs, dr_qt, step_qs, step_qt, lit_qs, lit_qt, tick_qs, tick_qt, burnt_qs, burnt_qt, high_qs, high_qt, holder_qs, holder_qt, z_qs]; exact ⟨this.1, this.2.1, this.2.2.1, hP⟩
      · simp (disch := omega) only [n_qs, n_qt, wax_qs, wax_qt, worth_qs, worth_qt, sold_qs, sold_qt, price_qs, price_qt, buyer_qs, buyer_qt, m_qs, m_qt, kind_qs, kind_qt, a_qs, a_qt, val_qs, val_qt, purse_qs, purse_qt, dr_qs, dr_qt, step_qs, step_qt, lit_qs, lit_qt, tick_qs, tick_qt, burnt_qs, burnt_qt, high_qs, high_qt, holder_qs, holder_qt, z_qs]; exact this
    · have hi : i < q.n := hi
      have := cl.1 i hi
      by_cases e : i = l
      · simp (disch := omega) only [n_qs, n_qt, wax_qs, wax_qt, worth_qs, worth_qt, sold_qs, sold_qt, price_qs, price_qt, buyer_qs, buyer_qt, m_qs, m_qt, kind_qs, kind_qt, a_qs, a_qt, val_qs, val_qt, purse_qs, purse_qt, dr_qs, dr_qt, step_qs, step_qt, lit_qs, lit_qt, tick_qs, tick_qt, burnt_qs, burnt_qt, high_qs, high_qt, holder_qs, holder_qt, z_qs, gI_eq, gI_ne, gL_pI, gI_pL, Nat.reduceAdd] at this ⊢
        exact ⟨this.1, this.2.1, trivial, by rw [if_neg (by omega)]; rfl, by rw [if_neg (by omega)]; rfl⟩
      · simp (disch := omega) only [n_qs, n_qt, wax_qs, wax_qt, worth_qs, worth_qt, sold_qs, sold_qt, price_qs, price_qt, buyer_qs, buyer_qt, m_qs, m_qt, kind_qs, kind_qt, a_qs, a_qt, val_qs, val_qt, purse_qs, purse_qt, dr_qs, dr_qt, step_qs, step_qt, lit_qs, lit_qt, tick_qs, tick_qt, burnt_qs, burnt_qt, high_qs, high_qt, holder_qs, holder_qt, z_qs, gI_eq, gI_ne, gL_pI, gI_pL]; exact this
    · by_cases e : i = l
      · simp (disch := omega) only [gI_eq, gI_ne, gL_pI, gI_pL, Nat.reduceAdd]; exact .inl rfl
      · simp (disch := omega) only [gI_eq, gI_ne, gL_pI, gI_pL]; exact cl.2 i hi
    · have := cb i hi
      have hi : i < q.m := hi
      by_cases e : i = q.buyer l
      · simp (disch := omega) only [n_qs, n_qt, wax_qs, wax_qt, worth_qs, worth_qt, sold_qs, sold_qt, price_qs, price_qt, buyer_qs, buyer_qt, m_qs, m_qt, kind_qs, kind_qt, a_qs, a_qt, val_qs, val_qt, purse_qs, purse_qt, dr_qs, dr_qt, step_qs, step_qt, lit_qs, lit_qt, tick_qs, tick_qt, burnt_qs, burnt_qt, high_qs, high_qt, holder_qs, holder_qt, z_qs, gI_eq, gI_ne, gL_pI, gI_pL, Nat.reduceAdd] at this ⊢
        exact ⟨this.1, this.2.1, this.2.2.1, trivial⟩
      · simp (disch := omega) only [n_qs, n_qt, wax_qs, wax_qt, worth_qs, worth_qt, sold_qs, sold_qt, price_qs, price_qt, buyer_qs, buyer_qt, m_qs, m_qt, kind_qs, kind_qt, a_qs, a_qt, val_qs, val_qt, purse_qs, purse_qt, dr_qs, dr_qt, step_qs, step_qt, lit_qs, lit_qt, tick_qs, tick_qt, burnt_qs, burnt_qt, high_qs, high_qt, holder_qs, holder_qt, z_qs, gI_eq, gI_ne, gL_pI, gI_pL]; exact this
    · simp (disch := omega) only [n_qs, n_qt, wax_qs, wax_qt, worth_qs, worth_qt, sold_qs, sold_qt, price_qs, price_qt, buyer_qs, buyer_qt, m_qs, m_qt, kind_qs, kind_qt, a_qs, a_qt, val_qs, val_qt, purse_qs, purse_qt, dr_qs, dr_qt, step_qs, step_qt, lit_qs, lit_qt, tick_qs, tick_qt, burnt_qs, burnt_qt, high_qs, high_qt, holder_qs, holder_qt, z_qs, gI_eq, gI_ne, gL_pI, gI_pL]; exact n0
    · simp (disch := omega) only [n_qs, n_qt, wax_qs, wax_qt, worth_qs, worth_qt, sold_qs, sold_qt, price_qs, price_qt, buyer_qs, buyer_qt, m_qs, m_qt, kind_qs, kind_qt, a_qs, a_qt, val_qs, val_qt, purse_qs, purse_qt, dr_qs, dr_qt, step_qs, step_qt, lit_qs, lit_qt, tick_qs, tick_qt, burnt_qs, burnt_qt, high_qs, high_qt, holder_qs, holder_qt, z_qs, gI_eq, gI_ne, gL_pI, gI_pL]; exact n1
    · simp (disch := omega) only [n_qs, n_qt, wax_qs, wax_qt, worth_qs, worth_qt, sold_qs, sold_qt, price_qs, price_qt, buyer_qs, buyer_qt, m_qs, m_qt, kind_qs, kind_qt, a_qs, a_qt, val_qs, val_qt, purse_qs, purse_qt, dr_qs, dr_qt, step_qs, step_qt, lit_qs, lit_qt, tick_qs, tick_qt, burnt_qs, burnt_qt, high_qs, high_qt, holder_qs, holder_qt, z_qs, gI_eq, gI_ne, gL_pI, gI_pL]; exact n2
    · simp (disch := omega) only [n_qs, n_qt, wax_qs, wax_qt, worth_qs, worth_qt, sold_qs, sold_qt, price_qs, price_qt, buyer_qs, buyer_qt, m_qs, m_qt, kind_qs, kind_qt, a_qs, a_qt, val_qs, val_qt, purse_qs, purse_qt, dr_qs, dr_qt, step_qs, step_qt, lit_qs, lit_qt, tick_qs, tick_qt, burnt_qs, burnt_qt, high_qs, high_qt, holder_qs, holder_qt, z_qs, gI_eq, gI_ne, gL_pI, gI_pL]; exact n3
    · simp (disch := omega) only [n_qs, n_qt, wax_qs, wax_qt, worth_qs, worth_qt, sold_qs, sold_qt, price_qs, price_qt, buyer_qs, buyer_qt, m_qs, m_qt, kind_qs, kind_qt, a_qs, a_qt, val_qs, val_qt, purse_qs, purse_qt, dr_qs, dr_qt, step_qs, step_qt, lit_qs, lit_qt, tick_qs, tick_qt, burnt_qs, burnt_qt, high_qs, high_qt, holder_qs, holder_qt, z_qs, gI_eq, gI_ne, gL_pI, gI_pL]; exact n4
    · have hi : i < q.m := hi
      by_cases e : i = q.buyer l
      · simp (disch := omega) only [n_qs, n_qt, wax_qs, wax_qt, worth_qs, worth_qt, sold_qs, sold_qt, price_qs, price_qt, buyer_qs, buyer_qt, m_qs, m_qt, kind_qs, kind_qt, a_qs, a_qt, val_qs, val_qt, purse_qs, purse_qt, dr_qs, dr_qt, step_qs, step_qt, lit_qs, lit_qt, tick_qs, tick_qt, burnt_qs, burnt_qt, high_qs, high_qt, holder_qs, holder_qt, z_qs, gI_eq, gI_ne, gL_pI, gI_pL]
      · simp (disch := omega) only [n_qs, n_qt, wax_qs, wax_qt, worth_qs, worth_qt, sold_qs, sold_qt, price_qs, price_qt, buyer_qs, buyer_qt, m_qs, m_qt, kind_qs, kind_qt, a_qs, a_qt, val_qs, val_qt, purse_qs, purse_qt, dr_qs, dr_qt, step_qs, step_qt, lit_qs, lit_qt, tick_qs, tick_qt, burnt_qs, burnt_qt, high_qs, high_qt, holder_qs, holder_qt, z_qs, gI_eq, gI_ne, gL_pI, gI_pL]; exact n5 i hi
    · have hi : i < q.n := hi
      have := ml i hi
      by_cases e : i = l
      · simp (disch := omega) only [n_qs, n_qt, wax_qs, wax_qt, worth_qs, worth_qt, sold_qs, sold_qt, price_qs, price_qt, buyer_qs, buyer_qt, m_qs, m_qt, kind_qs, kind_qt, a_qs, a_qt, val_qs, val_qt, purse_qs, purse_qt, dr_qs, dr_qt, step_qs, step_qt, lit_qs, lit_qt, tick_qs, tick_qt, burnt_qs, burnt_qt, high_qs, high_qt, holder_qs, holder_qt, z_qs, gI_eq, gI_ne, gL_pI, gI_pL]; exact ⟨this.1, this.2.1, trivial, fun c => absurd c (by omega)⟩
      · simp (disch := omega) only [n_qs, n_qt, wax_qs, wax_qt, worth_qs, worth_qt, sold_qs, sold_qt, price_qs, price_qt, buyer_qs, buyer_qt, m_qs, m_qt, kind_qs, kind_qt, a_qs, a_qt, val_qs, val_qt, purse_qs, purse_qt, dr_qs, dr_qt, step_qs, step_qt, lit_qs, lit_qt, tick_qs, tick_qt, burnt_qs, burnt_qt, high_qs, high_qt, holder_qs, holder_qt, z_qs, gI_eq, gI_ne, gL_pI, gI_pL]; exact this
    · (repeat (refine Fr_pI _ ?_ (by unfold WH; omega))); exact Fr_rfl _ _
end
