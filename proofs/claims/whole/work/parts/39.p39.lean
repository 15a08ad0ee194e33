section
variable {q : HQ} {σ : Mem} {h b w o : Nat}
theorem lef_d : q.wax q.lit - q.burnt = lef q := rfl
theorem rdy_le : rdy q b ≤ 1 := by
  unfold rdy
  repeat' split
  all_goals omega
theorem rais_le (hb : q.Okb) (hm : b < q.m) (hs : q.step ≤ 20) : rais q b ≤ 49 := by
  have := hb.2 b hm
  unfold rais
  repeat' split
  all_goals omega
theorem callv_le (hb : q.Okb) (hm : b < q.m) (hw : q.worth q.lit ≤ 99) : callv q b ≤ 9999 := by
  have := limw_le hb hm hw
  unfold callv
  repeat' split
  all_goals omega
theorem cl_burning (hh : h = 1 ∨ h = 16 ∨ h = 31 ∨ h = 49) (hn : q.n ≤ 5) (hl : q.lit < q.n) (c1 : gI σ h 1 = nI q.n) (c7 : gI σ h 7 = cE q.lit) : f_X2_burning h σ = some (some (h + 4 + q.lit), σ) := by
  unfold f_X2_burning
  simp (disch := omega) only [nI_lit, nI_addE, nI_mulE, nI_ltE, nI_leE, nI_eqE, nI_eqN, nI_Neq, nI_ltN, nI_Nlt, nI_leN, nI_Nle, nI_NeN, nI_subE, bd1_s, bd2_s, onrN, onrS, grd_t, grd_T, gI_eq, gI_ne, gL_pI, gI_pL, ltT, ltF, leT, leF, eqT, eqF, if_true, if_false, true_or, or_true, ite_true, ite_false, and_true, true_and, and_false, false_and, not_false_eq_true, not_true_eq_false, ↓reduceIte, in_eq, Nat.reduceAdd, Nat.reduceMul, Nat.zero_add, cE_f, cE_t, mE_f, mE_t, within_ok, ne_eq, c7, lotAt_ok hh c1 hn hl, grd_lot hh]
theorem bad9 {n : Nat} (hn : n < 2147483648) : Bad (-nI 9) n := .inl (by simp (disch := omega) only [nI_lit, nI_addE, nI_mulE, nI_ltE, nI_leE, nI_eqE, nI_eqN, nI_Neq, nI_ltN, nI_Nlt, nI_leN, nI_Nle, nI_NeN, nI_subE, bd1_s, bd2_s, onrN, onrS, grd_t, grd_T, gI_eq, gI_ne, gL_pI, gI_pL, ltT, ltF, leT, leF, eqT, eqF, if_true, if_false, true_or, or_true, ite_true, ite_false, and_true, true_and, and_false, false_and, not_false_eq_true, not_true_eq_false, ↓reduceIte, in_eq, Nat.reduceAdd, Nat.reduceMul, Nat.zero_add, cE_f, cE_t, mE_f, mE_t, within_ok, ne_eq])
theorem cl_burning9 (hl : q.lit = 9) (c1 : gI σ h 1 = nI q.n) (c7 : gI σ h 7 = cE q.lit) : f_X2_burning h σ = some (none, σ) := by
  unfold f_X2_burning
  rw [c7, cE_t hl, lotAt_no c1 (.inl (by simp (disch := omega) only [nI_lit, nI_addE, nI_mulE, nI_ltE, nI_leE, nI_eqE, nI_eqN, nI_Neq, nI_ltN, nI_Nlt, nI_leN, nI_Nle, nI_NeN, nI_subE, bd1_s, bd2_s, onrN, onrS, grd_t, grd_T, gI_eq, gI_ne, gL_pI, gI_pL, ltT, ltF, leT, leF, eqT, eqF, if_true, if_false, true_or, or_true, ite_true, ite_false, and_true, true_and, and_false, false_and, not_false_eq_true, not_true_eq_false, ↓reduceIte, in_eq, Nat.reduceAdd, Nat.reduceMul, Nat.zero_add, cE_f, cE_t, mE_f, mE_t, within_ok, ne_eq])), bd2_s, onrN]
theorem cl_call (hh : h = 1 ∨ h = 16 ∨ h = 31 ∨ h = 49) (ok : q.Ok) (hl : q.lit < q.n) (hm : b < q.m) (C : CH h q σ) : f_X2_callOf h (nI b) σ = some (nI (callv q b), σ) := by
  obtain ⟨⟨hn, hol⟩, hob, hoc⟩ := ok
  obtain ⟨⟨c1, c3, c5, c6, c7, c8⟩, cd, cl, cb⟩ := C
  obtain ⟨c8, c9, c10, c11⟩ := c8 (by omega)
  obtain ⟨o1, o2, o3, o4, o5, o6, o7⟩ := hoc
  have o5 := o5 hl
  have hm6 := hob.1
  have ol := hol q.lit hl
  obtain ⟨w0, w1, -⟩ := cl.1 q.lit hl
  have hL : lef q ≤ 99 := by unfold lef; omega
  have hB : burns q ≤ 99 := by
    have := o1 (q.tick % 12) (Nat.mod_lt _ (by omega))
    unfold burns; omega
  have hr := rais_le hob hm o2.2
  have hli := limw_le hob hm ol.2.1.2
  have hrd := rdy_le (q := q) (b := b)
  unfold f_X2_callOf callv
  by_cases e1 : q.holder = b
  · have : cE q.holder = nI b := by rw [cE_f (by omega), e1]
    simp (disch := omega) only [nI_lit, nI_addE, nI_mulE, nI_ltE, nI_leE, nI_eqE, nI_eqN, nI_Neq, nI_ltN, nI_Nlt, nI_leN, nI_Nle, nI_NeN, nI_subE, bd1_s, bd2_s, onrN, onrS, grd_t, grd_T, gI_eq, gI_ne, gL_pI, gI_pL, ltT, ltF, leT, leF, eqT, eqF, if_true, if_false, true_or, or_true, ite_true, ite_false, and_true, true_and, and_false, false_and, not_false_eq_true, not_true_eq_false, ↓reduceIte, in_eq, Nat.reduceAdd, Nat.reduceMul, Nat.zero_add, cE_f, cE_t, mE_f, mE_t, within_ok, ne_eq, cl_burning hh hn hl c1 c7, bidAt_ok hh c3 hm6 hm, grd_lot hh, grd_bid hh, c11, this]
  · have : (nI b = cE q.holder) = False := by
      by_cases e2 : q.holder = 9 <;> simp (disch := omega) only [nI_lit, nI_addE, nI_mulE, nI_ltE, nI_leE, nI_eqE, nI_eqN, nI_Neq, nI_ltN, nI_Nlt, nI_leN, nI_Nle, nI_NeN, nI_subE, bd1_s, bd2_s, onrN, onrS, grd_t, grd_T, gI_eq, gI_ne, gL_pI, gI_pL, ltT, ltF, leT, leF, eqT, eqF, if_true, if_false, true_or, or_true, ite_true, ite_false, and_true, true_and, and_false, false_and, not_false_eq_true, not_true_eq_false, ↓reduceIte, in_eq, Nat.reduceAdd, Nat.reduceMul, Nat.zero_add, cE_f, cE_t, mE_f, mE_t, within_ok, ne_eq]
    by_cases e3 : rdy q b = 0 <;> by_cases e4 : limw q b (q.worth q.lit) < q.high + rais q b <;>
    simp (disch := omega) only [nI_lit, nI_addE, nI_mulE, nI_ltE, nI_leE, nI_eqE, nI_eqN, nI_Neq, nI_ltN, nI_Nlt, nI_leN, nI_Nle, nI_NeN, nI_subE, bd1_s, bd2_s, onrN, onrS, grd_t, grd_T, gI_eq, gI_ne, gL_pI, gI_pL, ltT, ltF, leT, leF, eqT, eqF, if_true, if_false, true_or, or_true, ite_true, ite_false, and_true, true_and, and_false, false_and, not_false_eq_true, not_true_eq_false, ↓reduceIte, in_eq, Nat.reduceAdd, Nat.reduceMul, Nat.zero_add, cE_f, cE_t, mE_f, mE_t, within_ok, ne_eq, cl_burning hh hn hl c1 c7, bidAt_ok hh c3 hm6 hm, grd_lot hh, grd_bid hh, c11, this, cl_burns hh _ c8 cd, c8, w0, c9, lef_d, c10, cl_ready hm hob cb, c5, cl_raise hm hob cb, w1, cl_limit hob hm ol.2.1.2 cb]
theorem cl_call9 (hl : q.lit = 9) (hh : h = 1 ∨ h = 16 ∨ h = 31 ∨ h = 49) (hob : q.Okb) (hm : b < q.m) (C : CH h q σ) : f_X2_callOf h (nI b) σ = some (0, σ) := by
  obtain ⟨⟨c1, c3, c5, c6, c7, c8⟩, cd, cl, cb⟩ := C
  have hm6 := hob.1
  unfold f_X2_callOf
  simp (disch := omega) only [nI_lit, nI_addE, nI_mulE, nI_ltE, nI_leE, nI_eqE, nI_eqN, nI_Neq, nI_ltN, nI_Nlt, nI_leN, nI_Nle, nI_NeN, nI_subE, bd1_s, bd2_s, onrN, onrS, grd_t, grd_T, gI_eq, gI_ne, gL_pI, gI_pL, ltT, ltF, leT, leF, eqT, eqF, if_true, if_false, true_or, or_true, ite_true, ite_false, and_true, true_and, and_false, false_and, not_false_eq_true, not_true_eq_false, ↓reduceIte, in_eq, Nat.reduceAdd, Nat.reduceMul, Nat.zero_add, cE_f, cE_t, mE_f, mE_t, within_ok, ne_eq, cl_burning9 hl c1 c7, bidAt_ok hh c3 hm6 hm, grd_bid hh]
theorem md_turn (ok : q.Ok) (hm : b < q.m) (ho : o ≤ 11) (at' : gI σ 94 13 = nI o) (ht : q.tick ≤ 9999) (M : MH o q σ) : f_X10_isInTurn 94 (nI b) σ = some (nI (if q.tick % (q.a b + 1) = 0 then 1 else 0), σ) := by
  obtain ⟨⟨m0, m8, m7, m14⟩, ⟨r0, r1, r2, r3, r4, r5⟩, md, ml, mb⟩ := M
  obtain ⟨⟨hn, hol⟩, hob, hoc⟩ := ok
  have k := hob.2 b hm
  have hm6 := hob.1
  obtain ⟨b0, b1, b2⟩ := mb b hm
  have tm : q.tick % (q.a b + 1) ≤ q.tick := Nat.mod_le _ _
  unfold f_X10_isInTurn f_X10_its
  by_cases t : q.tick % (q.a b + 1) = 0 <;> simp (disch := omega) only [nI_lit, nI_addE, nI_mulE, nI_ltE, nI_leE, nI_eqE, nI_eqN, nI_Neq, nI_ltN, nI_Nlt, nI_leN, nI_Nle, nI_NeN, nI_subE, bd1_s, bd2_s, onrN, onrS, grd_t, grd_T, gI_eq, gI_ne, gL_pI, gI_pL, ltT, ltF, leT, leF, eqT, eqF, if_true, if_false, true_or, or_true, ite_true, ite_false, and_true, true_and, and_false, false_and, not_false_eq_true, not_true_eq_false, ↓reduceIte, in_eq, Nat.reduceAdd, Nat.reduceMul, Nat.zero_add, cE_f, cE_t, mE_f, mE_t, within_ok, ne_eq, ixo_95, ixo_96, ixo_97, ixo_98, ixo_99, ixo_100, ixo_101, ixo_102, ixo_103, ixo_104, ixo_105, ixo_106, ixo_107, ixo_108, ixo_109, ixo_110, ixo_111, ixo_112, ixo_113, ixo_114, ixo_115, ixo_116, ixo_117, ixo_118, ixo_119, ixo_120, ixo_121, ixo_122, ixo_123, ixo_124, ixo_125, ixo_126, at', r1, b1, nI_remE, t]
theorem md_left (ok : q.Ok) (hl : q.lit < q.n) (ho : o ≤ 11) (at' : gI σ 94 13 = nI o) (M : MH o q σ) : f_X10_leftOf 94 σ = some (nI (lef q), σ) := by
  obtain ⟨⟨m0, m8, m7, m14⟩, ⟨r0, r1, r2, r3, r4, r5⟩, md, ml, mb⟩ := M
  obtain ⟨⟨hn, hol⟩, hob, ⟨o1, o2, o3, o4, o5, o6, o7⟩⟩ := ok
  have o5 := o5 hl
  have ol := hol q.lit hl
  obtain ⟨w0, w1, -⟩ := ml q.lit hl
  unfold f_X10_leftOf f_X10_its
  simp (disch := omega) only [nI_lit, nI_addE, nI_mulE, nI_ltE, nI_leE, nI_eqE, nI_eqN, nI_Neq, nI_ltN, nI_Nlt, nI_leN, nI_Nle, nI_NeN, nI_subE, bd1_s, bd2_s, onrN, onrS, grd_t, grd_T, gI_eq, gI_ne, gL_pI, gI_pL, ltT, ltF, leT, leF, eqT, eqF, if_true, if_false, true_or, or_true, ite_true, ite_false, and_true, true_and, and_false, false_and, not_false_eq_true, not_true_eq_false, ↓reduceIte, in_eq, Nat.reduceAdd, Nat.reduceMul, Nat.zero_add, cE_f, cE_t, mE_f, mE_t, within_ok, ne_eq, ixo_95, ixo_96, ixo_97, ixo_98, ixo_99, ixo_100, ixo_101, ixo_102, ixo_103, ixo_104, ixo_105, ixo_106, ixo_107, ixo_108, ixo_109, ixo_110, ixo_111, ixo_112, ixo_113, ixo_114, ixo_115, ixo_116, ixo_117, ixo_118, ixo_119, ixo_120, ixo_121, ixo_122, ixo_123, ixo_124, ixo_125, ixo_126, at', r0, r2, Nat.add_zero, w0, lef_d]
theorem md_time (ok : q.Ok) (hl : q.lit < q.n) (hm : b < q.m) (ho : o ≤ 11) (at' : gI σ 94 13 = nI o) (ht : q.tick ≤ 9999) (M : MH o q σ) : f_X10_isTime 94 (nI b) σ = some (nI (rdy q b), σ) := by
  have T := md_turn ok hm ho at' ht M
  have L := md_left ok hl ho at' M
  obtain ⟨⟨m0, m8, m7, m14⟩, ⟨r0, r1, r2, r3, r4, r5⟩, md, ml, mb⟩ := id M
  obtain ⟨⟨hn, hol⟩, hob, ⟨o1, o2, o3, o4, o5, o6, o7⟩⟩ := id ok
  have B := md_burns ht ho at' M.2.1 md
  have k := hob.2 b hm
  have hm6 := hob.1
  have o5 := o5 hl
  have ol := hol q.lit hl
  obtain ⟨b0, b1, b2⟩ := mb b hm
  have hL : lef q ≤ 99 := by unfold lef; omega
  have hB : burns q ≤ 99 := by
    have := o1 (q.tick % 12) (Nat.mod_lt _ (by omega))
    unfold burns; omega
  unfold f_X10_isTime rdy f_X10_its
  generalize lef q = LL at *
  generalize burns q = BB at *
  have hk : q.kind b = 0 ∨ q.kind b = 1 ∨ q.kind b = 2 ∨ q.kind b = 3 ∨ q.kind b = 4 ∨ q.kind b = 5 := by omega
  by_cases t : q.tick % (q.a b + 1) = 0 <;> by_cases l1 : LL ≤ BB <;> by_cases l2 : LL ≤ 3 * q.a b <;> by_cases l3 : 0 < q.high <;> rcases hk with e | e | e | e | e | e <;> simp (disch := omega) only [nI_lit, nI_addE, nI_mulE, nI_ltE, nI_leE, nI_eqE, nI_eqN, nI_Neq, nI_ltN, nI_Nlt, nI_leN, nI_Nle, nI_NeN, nI_subE, bd1_s, bd2_s, onrN, onrS, grd_t, grd_T, gI_eq, gI_ne, gL_pI, gI_pL, ltT, ltF, leT, leF, eqT, eqF, if_true, if_false, true_or, or_true, ite_true, ite_false, and_true, true_and, and_false, false_and, not_false_eq_true, not_true_eq_false, ↓reduceIte, in_eq, Nat.reduceAdd, Nat.reduceMul, Nat.zero_add, cE_f, cE_t, mE_f, mE_t, within_ok, ne_eq, ixo_95, ixo_96, ixo_97, ixo_98, ixo_99, ixo_100, ixo_101, ixo_102, ixo_103, ixo_104, ixo_105, ixo_106, ixo_107, ixo_108, ixo_109, ixo_110, ixo_111, ixo_112, ixo_113, ixo_114, ixo_115, ixo_116, ixo_117, ixo_118, ixo_119, ixo_120, ixo_121, ixo_122, ixo_123, ixo_124, ixo_125, ixo_126, b0, b1, e, t, T, L, B, at', r3]
theorem md_call (ok : q.Ok) (hl : q.lit < q.n) (hm : b < q.m) (ho : o ≤ 11) (at' : gI σ 94 13 = nI o) (ht : q.tick ≤ 9999) (M : MH o q σ) : f_X10_callOf 94 (nI b) σ = some (nI (callv q b), σ) := by
  have T := md_time ok hl hm ho at' ht M
  obtain ⟨⟨m0, m8, m7, m14⟩, ⟨r0, r1, r2, r3, r4, r5⟩, md, ml, mb⟩ := id M
  obtain ⟨⟨hn, hol⟩, hob, ⟨o1, o2, o3, o4, o5, o6, o7⟩⟩ := id ok
  have k := hob.2 b hm
  have hm6 := hob.1
  have ol := hol q.lit hl
  obtain ⟨b0, b1, b2⟩ := mb b hm
  have hr := rais_le hob hm o2.2
  have hli := limw_le hob hm ol.2.1.2
  have hrd := rdy_le (q := q) (b := b)
  have LL := md_limit (l := q.lit) ⟨hn, hol⟩ hob ho hm hl ml mb M.2.1 at'
  have main : F_X10_callOf_40 94 (nI b) (nI (rais q b)) σ = some (nI (callv q b), σ) := by
    unfold F_X10_callOf_40 f_X10_its callv
    by_cases e1 : q.holder = b
    · simp (disch := omega) only [nI_lit, nI_addE, nI_mulE, nI_ltE, nI_leE, nI_eqE, nI_eqN, nI_Neq, nI_ltN, nI_Nlt, nI_leN, nI_Nle, nI_NeN, nI_subE, bd1_s, bd2_s, onrN, onrS, grd_t, grd_T, gI_eq, gI_ne, gL_pI, gI_pL, ltT, ltF, leT, leF, eqT, eqF, if_true, if_false, true_or, or_true, ite_true, ite_false, and_true, true_and, and_false, false_and, not_false_eq_true, not_true_eq_false, ↓reduceIte, in_eq, Nat.reduceAdd, Nat.reduceMul, Nat.zero_add, cE_f, cE_t, mE_f, mE_t, within_ok, ne_eq, ixo_95, ixo_96, ixo_97, ixo_98, ixo_99, ixo_100, ixo_101, ixo_102, ixo_103, ixo_104, ixo_105, ixo_106, ixo_107, ixo_108, ixo_109, ixo_110, ixo_111, ixo_112, ixo_113, ixo_114, ixo_115, ixo_116, ixo_117, ixo_118, ixo_119, ixo_120, ixo_121, ixo_122, ixo_123, ixo_124, ixo_125, ixo_126, at', r3, r4]
    · have : (mE q.holder = nI b) = False := by
        by_cases e2 : q.holder = 9 <;> simp (disch := omega) only [nI_lit, nI_addE, nI_mulE, nI_ltE, nI_leE, nI_eqE, nI_eqN, nI_Neq, nI_ltN, nI_Nlt, nI_leN, nI_Nle, nI_NeN, nI_subE, bd1_s, bd2_s, onrN, onrS, grd_t, grd_T, gI_eq, gI_ne, gL_pI, gI_pL, ltT, ltF, leT, leF, eqT, eqF, if_true, if_false, true_or, or_true, ite_true, ite_false, and_true, true_and, and_false, false_and, not_false_eq_true, not_true_eq_false, ↓reduceIte, in_eq, Nat.reduceAdd, Nat.reduceMul, Nat.zero_add, cE_f, cE_t, mE_f, mE_t, within_ok, ne_eq]
      by_cases e3 : rdy q b = 0 <;> by_cases e4 : limw q b (q.worth q.lit) < q.high + rais q b <;>
      simp (disch := omega) only [nI_lit, nI_addE, nI_mulE, nI_ltE, nI_leE, nI_eqE, nI_eqN, nI_Neq, nI_ltN, nI_Nlt, nI_leN, nI_Nle, nI_NeN, nI_subE, bd1_s, bd2_s, onrN, onrS, grd_t, grd_T, gI_eq, gI_ne, gL_pI, gI_pL, ltT, ltF, leT, leF, eqT, eqF, if_true, if_false, true_or, or_true, ite_true, ite_false, and_true, true_and, and_false, false_and, not_false_eq_true, not_true_eq_false, ↓reduceIte, in_eq, Nat.reduceAdd, Nat.reduceMul, Nat.zero_add, cE_f, cE_t, mE_f, mE_t, within_ok, ne_eq, ixo_95, ixo_96, ixo_97, ixo_98, ixo_99, ixo_100, ixo_101, ixo_102, ixo_103, ixo_104, ixo_105, ixo_106, ixo_107, ixo_108, ixo_109, ixo_110, ixo_111, ixo_112, ixo_113, ixo_114, ixo_115, ixo_116, ixo_117, ixo_118, ixo_119, ixo_120, ixo_121, ixo_122, ixo_123, ixo_124, ixo_125, ixo_126, at', r3, r4, this, r0, Nat.add_zero, LL, T]
  have m7' : gI σ 94 7 = nI q.step := m7
  unfold f_X10_callOf
  unfold rais at main
  by_cases e : q.kind b = 2
  · rw [if_pos e] at main
    simp (disch := omega) only [nI_lit, nI_addE, nI_mulE, nI_ltE, nI_leE, nI_eqE, nI_eqN, nI_Neq, nI_ltN, nI_Nlt, nI_leN, nI_Nle, nI_NeN, nI_subE, bd1_s, bd2_s, onrN, onrS, grd_t, grd_T, gI_eq, gI_ne, gL_pI, gI_pL, ltT, ltF, leT, leF, eqT, eqF, if_true, if_false, true_or, or_true, ite_true, ite_false, and_true, true_and, and_false, false_and, not_false_eq_true, not_true_eq_false, ↓reduceIte, in_eq, Nat.reduceAdd, Nat.reduceMul, Nat.zero_add, cE_f, cE_t, mE_f, mE_t, within_ok, ne_eq, ixo_95, ixo_96, ixo_97, ixo_98, ixo_99, ixo_100, ixo_101, ixo_102, ixo_103, ixo_104, ixo_105, ixo_106, ixo_107, ixo_108, ixo_109, ixo_110, ixo_111, ixo_112, ixo_113, ixo_114, ixo_115, ixo_116, ixo_117, ixo_118, ixo_119, ixo_120, ixo_121, ixo_122, ixo_123, ixo_124, ixo_125, ixo_126, b0, b1, m7, e]
    exact main
  · rw [if_neg e] at main
    by_cases g : q.kind b = 4
    · rw [if_pos g] at main
      simp (disch := omega) only [nI_lit, nI_addE, nI_mulE, nI_ltE, nI_leE, nI_eqE, nI_eqN, nI_Neq, nI_ltN, nI_Nlt, nI_leN, nI_Nle, nI_NeN, nI_subE, bd1_s, bd2_s, onrN, onrS, grd_t, grd_T, gI_eq, gI_ne, gL_pI, gI_pL, ltT, ltF, leT, leF, eqT, eqF, if_true, if_false, true_or, or_true, ite_true, ite_false, and_true, true_and, and_false, false_and, not_false_eq_true, not_true_eq_false, ↓reduceIte, in_eq, Nat.reduceAdd, Nat.reduceMul, Nat.zero_add, cE_f, cE_t, mE_f, mE_t, within_ok, ne_eq, ixo_95, ixo_96, ixo_97, ixo_98, ixo_99, ixo_100, ixo_101, ixo_102, ixo_103, ixo_104, ixo_105, ixo_106, ixo_107, ixo_108, ixo_109, ixo_110, ixo_111, ixo_112, ixo_113, ixo_114, ixo_115, ixo_116, ixo_117, ixo_118, ixo_119, ixo_120, ixo_121, ixo_122, ixo_123, ixo_124, ixo_125, ixo_126, b0, b1, m7, g]
      exact main
    · rw [if_neg g] at main
      simp (disch := omega) only [nI_lit, nI_addE, nI_mulE, nI_ltE, nI_leE, nI_eqE, nI_eqN, nI_Neq, nI_ltN, nI_Nlt, nI_leN, nI_Nle, nI_NeN, nI_subE, bd1_s, bd2_s, onrN, onrS, grd_t, grd_T, gI_eq, gI_ne, gL_pI, gI_pL, ltT, ltF, leT, leF, eqT, eqF, if_true, if_false, true_or, or_true, ite_true, ite_false, and_true, true_and, and_false, false_and, not_false_eq_true, not_true_eq_false, ↓reduceIte, in_eq, Nat.reduceAdd, Nat.reduceMul, Nat.zero_add, cE_f, cE_t, mE_f, mE_t, within_ok, ne_eq, ixo_95, ixo_96, ixo_97, ixo_98, ixo_99, ixo_100, ixo_101, ixo_102, ixo_103, ixo_104, ixo_105, ixo_106, ixo_107, ixo_108, ixo_109, ixo_110, ixo_111, ixo_112, ixo_113, ixo_114, ixo_115, ixo_116, ixo_117, ixo_118, ixo_119, ixo_120, ixo_121, ixo_122, ixo_123, ixo_124, ixo_125, ixo_126, b0, b1, m7]
      exact main
end
