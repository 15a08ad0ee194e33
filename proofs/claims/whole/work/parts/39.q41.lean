def lits (q : HQ) (l : Nat) : HQ := qs (qs (qs (qs (qs q 13 0 l) 14 0 0) 15 0 0) 16 0 0) 17 0 9
def takes (q : HQ) (b v : Nat) : HQ := qs (qs q 17 0 b) 16 0 v
section
variable {q : HQ} {σ : Mem}
theorem draw_val (z : Int32) : ∃ d, d ≤ 3 ∧ ((z.toUInt32 >>> ((16 : Int32).toUInt32 &&& Int32.toUInt32 31)).toInt32 - (z.toUInt32 >>> ((16 : Int32).toUInt32 &&& Int32.toUInt32 31)).toInt32 / (4 : Int32) * (4 : Int32)) = nI d := by
  have e : (z.toUInt32 >>> ((16 : Int32).toUInt32 &&& Int32.toUInt32 31)).toInt32 = nI (z.toUInt32.toNat / 65536) := by
    unfold nI
    have h1 : ((16 : Int32).toUInt32 &&& Int32.toUInt32 31) = 16 := by decide
    rw [h1]
    have h2 : (z.toUInt32 >>> 16) = UInt32.ofNat (z.toUInt32.toNat / 65536) := by
      apply UInt32.toNat_inj.mp
      rw [UInt32.toNat_shiftRight, UInt32.toNat_ofNat']
      have := z.toUInt32.toNat_lt
      have h3 : (16 : UInt32).toNat % 32 = 16 := by decide
      rw [h3, Nat.shiftRight_eq_div_pow]
      rw [Nat.mod_eq_of_lt (by omega)]
    rw [h2]
    rfl
  have := z.toUInt32.toNat_lt
  refine ⟨z.toUInt32.toNat / 65536 % 4, by omega, ?_⟩
  rw [e, nI_lit, nI_remE (by omega) (by decide) (by decide)]
theorem op_draw (I : Inv q σ) (a1 : Int32) : OpOk (f_X9_draw 0 a1) (f_X10_draw 94 a1) σ := by
  obtain ⟨⟨⟨hn, hol⟩, hob, hoc⟩, ⟨cs, cd, cl, cb⟩, ⟨ms, mr, md, ml, mb⟩, r0, r1⟩ := id I
  obtain ⟨c1, c3, c5, c6, c7, c8⟩ := id cs
  obtain ⟨m0, m8, m7, m14⟩ := id ms
  have hm := hob.1
  rcases (arg a1 0 11 (by omega) (by omega)).symm with b | ⟨p, -, hp, rfl⟩
  · refine ⟨-1, σ, σ, q, ?_, ?_, I⟩
    · simp (disch := omega) only [f_X9_draw, nI_lit, nI_addE, nI_mulE, nI_ltE, nI_leE, nI_eqE, nI_eqN, nI_Neq, nI_ltN, nI_Nlt, nI_leN, nI_Nle, nI_NeN, nI_subE, bd1_s, bd2_s, onrN, onrS, grd_t, grd_T, gI_eq, gI_ne, gL_pI, gI_pL, ltT, ltF, leT, leF, eqT, eqF, if_true, if_false, true_or, or_true, ite_true, ite_false, and_true, true_and, and_false, false_and, not_false_eq_true, not_true_eq_false, ↓reduceIte, in_eq, Nat.reduceAdd, Nat.reduceMul, Nat.zero_add, cE_f, cE_t, mE_f, mE_t, within_ok, ne_eq, within_no _ b]
    · simp (disch := omega) only [f_X10_draw, nI_lit, nI_addE, nI_mulE, nI_ltE, nI_leE, nI_eqE, nI_eqN, nI_Neq, nI_ltN, nI_Nlt, nI_leN, nI_Nle, nI_NeN, nI_subE, bd1_s, bd2_s, onrN, onrS, grd_t, grd_T, gI_eq, gI_ne, gL_pI, gI_pL, ltT, ltF, leT, leF, eqT, eqF, if_true, if_false, true_or, or_true, ite_true, ite_false, and_true, true_and, and_false, false_and, not_false_eq_true, not_true_eq_false, ↓reduceIte, in_eq, Nat.reduceAdd, Nat.reduceMul, Nat.zero_add, cE_f, cE_t, mE_f, mE_t, within_ok, ne_eq, isPlace_no b]
  obtain ⟨z, ez⟩ : ∃ z, z = q.2 * (1103515245 : Int32) + (12345 : Int32) := ⟨_, rfl⟩
  obtain ⟨d, hd, ed⟩ := draw_val z
  have iw : ixo 4 (nI p) = some p := ixo_4 (by omega)
  have im : ixo 100 (nI p) = some p := ixo_100 (by omega)
  refine ⟨nI d, ?s1, ?s2, qz (qs q 11 p d) z, ?e1, ?e2, ?_⟩
  case e1 =>
    unfold f_X9_draw
    rw [nI_lit 0, nI_lit 11, within_ok σ (Nat.zero_le p) hp (by decide)]
    simp (disch := omega) only [bd1_s, bd2_s, onrN, onrS, grd_t, grd_T, Nat.reduceAdd, nI10, if_false, iw, gI_eq, gI_ne, gL_pI, gI_pL, c6, ← ez, ed]
    rfl
  case e2 =>
    unfold f_X10_draw
    simp (disch := omega) only [bd1_s, bd2_s, onrN, onrS, grd_t, grd_T, isPlace_ok, Nat.reduceAdd, if_false, im, gI_eq, gI_ne, gL_pI, gI_pL, m14, ← ez, ed]
    rw [if_neg (by rw [nI_lit, nI10]; exact id)]
  clear ez
  refine ⟨⟨⟨hn, hol⟩, hob, ?_⟩, ⟨?_, fun j hj => ?_, (CHl_c cl hn rfl (fun _ => ⟨rfl, rfl, rfl, rfl, rfl⟩) (by intros; simp (disch := omega) only [gI_ne, gI_eq])), (CHb_c cb hob.1 rfl (fun _ => ⟨rfl, rfl, rfl, rfl⟩) (by intros; simp (disch := omega) only [gI_ne, gI_eq]))⟩, ⟨?_, (MHr_c mr rfl ⟨rfl, rfl, rfl, rfl, rfl⟩ (fun _ => rfl) (by intros; simp (disch := omega) only [gI_ne, gI_eq])), fun j hj => ?_, (MHl_c ml rfl (fun _ => ⟨rfl, rfl, rfl, rfl, rfl⟩) (by intros; simp (disch := omega) only [gI_ne, gI_eq])), (MHb_c mb rfl (fun _ => ⟨rfl, rfl, rfl⟩) (by intros; simp (disch := omega) only [gI_ne, gI_eq]))⟩, ⟨by simp (disch := omega) only [gI_ne]; exact r0.1, by simp (disch := omega) only [gI_ne]; exact r0.2⟩, R1_fr r1 ?_⟩
  · obtain ⟨o1, o2, o3⟩ := hoc
    refine ⟨fun j hj => ?_, o2, o3⟩
    show (qs q 11 p d).dr j ≤ 3
    by_cases e : j = p
    · simp (disch := omega) only [n_qs, n_qt, wax_qs, wax_qt, worth_qs, worth_qt, sold_qs, sold_qt, price_qs, price_qt, buyer_qs, buyer_qt, m_qs, m_qt, kind_qs, kind_qt, a_qs, a_qt, val_qs, val_qt, purse_qs, purse_qt, dr_qs, dr_qt, step_qs, step_qt, lit_qs, lit_qt, tick_qs, tick_qt, burnt_qs, burnt_qt, high_qs, high_qt, holder_qs, holder_qt, z_qs]; omega
    · simp (disch := omega) only [n_qs, n_qt, wax_qs, wax_qt, worth_qs, worth_qt, sold_qs, sold_qt, price_qs, price_qt, buyer_qs, buyer_qt, m_qs, m_qt, kind_qs, kind_qt, a_qs, a_qt, val_qs, val_qt, purse_qs, purse_qt, dr_qs, dr_qt, step_qs, step_qt, lit_qs, lit_qt, tick_qs, tick_qt, burnt_qs, burnt_qt, high_qs, high_qt, holder_qs, holder_qt, z_qs]; exact o1 j hj
  · refine ⟨?_, ?_, ?_, ?_, ?_, ?_⟩ <;> simp (disch := omega) only [gI_eq, gI_ne, gL_pI, gI_pL] <;> first | assumption | rfl
  · show _ = nI ((qs q 11 p d).dr j)
    by_cases e : j = p
    · simp (disch := omega) only [n_qs, n_qt, wax_qs, wax_qt, worth_qs, worth_qt, sold_qs, sold_qt, price_qs, price_qt, buyer_qs, buyer_qt, m_qs, m_qt, kind_qs, kind_qt, a_qs, a_qt, val_qs, val_qt, purse_qs, purse_qt, dr_qs, dr_qt, step_qs, step_qt, lit_qs, lit_qt, tick_qs, tick_qt, burnt_qs, burnt_qt, high_qs, high_qt, holder_qs, holder_qt, z_qs, gI_eq, gI_ne, gL_pI, gI_pL, Nat.reduceAdd]
    · simp (disch := omega) only [n_qs, n_qt, wax_qs, wax_qt, worth_qs, worth_qt, sold_qs, sold_qt, price_qs, price_qt, buyer_qs, buyer_qt, m_qs, m_qt, kind_qs, kind_qt, a_qs, a_qt, val_qs, val_qt, purse_qs, purse_qt, dr_qs, dr_qt, step_qs, step_qt, lit_qs, lit_qt, tick_qs, tick_qt, burnt_qs, burnt_qt, high_qs, high_qt, holder_qs, holder_qt, z_qs, gI_eq, gI_ne, gL_pI, gI_pL, Nat.reduceAdd]; exact cd j hj
  · refine ⟨?_, ?_, ?_, ?_⟩ <;> simp (disch := omega) only [gI_eq, gI_ne, gL_pI, gI_pL] <;> first | assumption | rfl
  · show _ = nI ((qs q 11 p d).dr j)
    by_cases e : j = p
    · simp (disch := omega) only [n_qs, n_qt, wax_qs, wax_qt, worth_qs, worth_qt, sold_qs, sold_qt, price_qs, price_qt, buyer_qs, buyer_qt, m_qs, m_qt, kind_qs, kind_qt, a_qs, a_qt, val_qs, val_qt, purse_qs, purse_qt, dr_qs, dr_qt, step_qs, step_qt, lit_qs, lit_qt, tick_qs, tick_qt, burnt_qs, burnt_qt, high_qs, high_qt, holder_qs, holder_qt, z_qs, gI_eq, gI_ne, gL_pI, gI_pL]
    · simp (disch := omega) only [n_qs, n_qt, wax_qs, wax_qt, worth_qs, worth_qt, sold_qs, sold_qt, price_qs, price_qt, buyer_qs, buyer_qt, m_qs, m_qt, kind_qs, kind_qt, a_qs, a_qt, val_qs, val_qt, purse_qs, purse_qt, dr_qs, dr_qt, step_qs, step_qt, lit_qs, lit_qt, tick_qs, tick_qt, burnt_qs, burnt_qt, high_qs, high_qt, holder_qs, holder_qt, z_qs, gI_eq, gI_ne, gL_pI, gI_pL]; exact md j hj
  · (repeat (refine Fr_pI _ ?_ (by unfold WH; omega))); exact Fr_rfl _ _
theorem op_trim (I : Inv q σ) (a1 a2 a3 : Int32) : OpOk (f_X9_trim 0 a1 a2 a3) (f_X10_trim 94 a1 a2 a3) σ := by
  obtain ⟨⟨⟨hn, hol⟩, hob, hoc⟩, ⟨cs, cd, cl, cb⟩, ⟨ms, mr, md, ml, mb⟩, r0, r1⟩ := id I
  obtain ⟨c1, c3, c5, c6, c7, c8⟩ := id cs
  obtain ⟨m0, m8, m7, m14⟩ := id ms
  have hm := hob.1
  rcases (arg3 a1 q.n (by omega)).symm with b | ⟨l, hl, rfl⟩
  · refine ⟨-1, σ, σ, q, ?_, ?_, I⟩
    · simp (disch := omega) only [f_X9_trim, nI_lit, nI_addE, nI_mulE, nI_ltE, nI_leE, nI_eqE, nI_eqN, nI_Neq, nI_ltN, nI_Nlt, nI_leN, nI_Nle, nI_NeN, nI_subE, bd1_s, bd2_s, onrN, onrS, grd_t, grd_T, gI_eq, gI_ne, gL_pI, gI_pL, ltT, ltF, leT, leF, eqT, eqF, if_true, if_false, true_or, or_true, ite_true, ite_false, and_true, true_and, and_false, false_and, not_false_eq_true, not_true_eq_false, ↓reduceIte, in_eq, Nat.reduceAdd, Nat.reduceMul, Nat.zero_add, cE_f, cE_t, mE_f, mE_t, within_ok, ne_eq, lotAt_no c1 b]
    · simp (disch := omega) only [f_X10_trim, nI_lit, nI_addE, nI_mulE, nI_ltE, nI_leE, nI_eqE, nI_eqN, nI_Neq, nI_ltN, nI_Nlt, nI_leN, nI_Nle, nI_NeN, nI_subE, bd1_s, bd2_s, onrN, onrS, grd_t, grd_T, gI_eq, gI_ne, gL_pI, gI_pL, ltT, ltF, leT, leF, eqT, eqF, if_true, if_false, true_or, or_true, ite_true, ite_false, and_true, true_and, and_false, false_and, not_false_eq_true, not_true_eq_false, ↓reduceIte, in_eq, Nat.reduceAdd, Nat.reduceMul, Nat.zero_add, cE_f, cE_t, mE_f, mE_t, within_ok, ne_eq, isLot_no m0 b]
  rcases (arg a2 0 1 (by omega) (by omega)).symm with b | ⟨k, -, hk, rfl⟩
  · refine ⟨-1, σ, σ, q, ?_, ?_, I⟩
    · simp (disch := omega) only [f_X9_trim, nI_lit, nI_addE, nI_mulE, nI_ltE, nI_leE, nI_eqE, nI_eqN, nI_Neq, nI_ltN, nI_Nlt, nI_leN, nI_Nle, nI_NeN, nI_subE, bd1_s, bd2_s, onrN, onrS, grd_t, grd_T, gI_eq, gI_ne, gL_pI, gI_pL, ltT, ltF, leT, leF, eqT, eqF, if_true, if_false, true_or, or_true, ite_true, ite_false, and_true, true_and, and_false, false_and, not_false_eq_true, not_true_eq_false, ↓reduceIte, in_eq, Nat.reduceAdd, Nat.reduceMul, Nat.zero_add, cE_f, cE_t, mE_f, mE_t, within_ok, ne_eq, lotAt_ok (.inl rfl) c1 hn hl, grd_lot (.inl rfl), grd_bid (.inl rfl), within_no _ b]
    · simp (disch := omega) only [f_X10_trim, nI_lit, nI_addE, nI_mulE, nI_ltE, nI_leE, nI_eqE, nI_eqN, nI_Neq, nI_ltN, nI_Nlt, nI_leN, nI_Nle, nI_NeN, nI_subE, bd1_s, bd2_s, onrN, onrS, grd_t, grd_T, gI_eq, gI_ne, gL_pI, gI_pL, ltT, ltF, leT, leF, eqT, eqF, if_true, if_false, true_or, or_true, ite_true, ite_false, and_true, true_and, and_false, false_and, not_false_eq_true, not_true_eq_false, ↓reduceIte, in_eq, Nat.reduceAdd, Nat.reduceMul, Nat.zero_add, cE_f, cE_t, mE_f, mE_t, within_ok, ne_eq, isLot_ok m0 hn hl, isSide_no b]
  obtain ⟨w1, w2, w3, w4, w5⟩ := cl.1 l hl
  obtain ⟨v1, v2, v3, v4⟩ := ml l hl
  have ol := hol l hl
  simp only [Nat.reduceAdd] at w1 w2 w3 w4 w5
  obtain ⟨o1, o2, o3, o4, o5, o6, o7, o8⟩ := id hoc
  have n0 := mr.1
  have hk : k = 0 ∨ k = 1 := by omega
  rcases hk with rfl | rfl
  · rcases (arg a3 1 60 (by omega) (by omega)).symm with b | ⟨v, hv, hv2, rfl⟩
    · refine ⟨-1, σ, σ, q, ?_, ?_, I⟩
      · simp (disch := omega) only [f_X9_trim, F_X9_trim_39x1, nI_lit, nI_addE, nI_mulE, nI_ltE, nI_leE, nI_eqE, nI_eqN, nI_Neq, nI_ltN, nI_Nlt, nI_leN, nI_Nle, nI_NeN, nI_subE, bd1_s, bd2_s, onrN, onrS, grd_t, grd_T, gI_eq, gI_ne, gL_pI, gI_pL, ltT, ltF, leT, leF, eqT, eqF, if_true, if_false, true_or, or_true, ite_true, ite_false, and_true, true_and, and_false, false_and, not_false_eq_true, not_true_eq_false, ↓reduceIte, in_eq, Nat.reduceAdd, Nat.reduceMul, Nat.zero_add, cE_f, cE_t, mE_f, mE_t, within_ok, ne_eq, lotAt_ok (.inl rfl) c1 hn hl, grd_lot (.inl rfl), grd_bid (.inl rfl), within_no _ b]
      · simp (disch := omega) only [f_X10_trim, nI_lit, nI_addE, nI_mulE, nI_ltE, nI_leE, nI_eqE, nI_eqN, nI_Neq, nI_ltN, nI_Nlt, nI_leN, nI_Nle, nI_NeN, nI_subE, bd1_s, bd2_s, onrN, onrS, grd_t, grd_T, gI_eq, gI_ne, gL_pI, gI_pL, ltT, ltF, leT, leF, eqT, eqF, if_true, if_false, true_or, or_true, ite_true, ite_false, and_true, true_and, and_false, false_and, not_false_eq_true, not_true_eq_false, ↓reduceIte, in_eq, Nat.reduceAdd, Nat.reduceMul, Nat.zero_add, cE_f, cE_t, mE_f, mE_t, within_ok, ne_eq, isLot_ok m0 hn hl, isSide_ok, isWax_no b]
    by_cases s : q.sold l = 1
    · refine ⟨-4, σ, σ, q, ?_, ?_, I⟩
      · simp (disch := omega) only [f_X9_trim, F_X9_trim_39x1, nI_lit, nI_addE, nI_mulE, nI_ltE, nI_leE, nI_eqE, nI_eqN, nI_Neq, nI_ltN, nI_Nlt, nI_leN, nI_Nle, nI_NeN, nI_subE, bd1_s, bd2_s, onrN, onrS, grd_t, grd_T, gI_eq, gI_ne, gL_pI, gI_pL, ltT, ltF, leT, leF, eqT, eqF, if_true, if_false, true_or, or_true, ite_true, ite_false, and_true, true_and, and_false, false_and, not_false_eq_true, not_true_eq_false, ↓reduceIte, in_eq, Nat.reduceAdd, Nat.reduceMul, Nat.zero_add, cE_f, cE_t, mE_f, mE_t, within_ok, ne_eq, lotAt_ok (.inl rfl) c1 hn hl, grd_lot (.inl rfl), grd_bid (.inl rfl), w3]
      · simp (disch := omega) only [f_X10_trim, F_X10_trim_38, nI_lit, nI_addE, nI_mulE, nI_ltE, nI_leE, nI_eqE, nI_eqN, nI_Neq, nI_ltN, nI_Nlt, nI_leN, nI_Nle, nI_NeN, nI_subE, bd1_s, bd2_s, onrN, onrS, grd_t, grd_T, gI_eq, gI_ne, gL_pI, gI_pL, ltT, ltF, leT, leF, eqT, eqF, if_true, if_false, true_or, or_true, ite_true, ite_false, and_true, true_and, and_false, false_and, not_false_eq_true, not_true_eq_false, ↓reduceIte, in_eq, Nat.reduceAdd, Nat.reduceMul, Nat.zero_add, cE_f, cE_t, mE_f, mE_t, within_ok, ne_eq, isLot_ok m0 hn hl, isSide_ok, isWax_ok, ixo_95, ixo_96, ixo_97, ixo_98, ixo_99, ixo_100, ixo_101, ixo_102, ixo_103, ixo_104, ixo_105, ixo_106, ixo_107, ixo_108, ixo_109, ixo_110, ixo_111, ixo_112, ixo_113, ixo_114, ixo_115, ixo_116, ixo_117, ixo_118, ixo_119, ixo_120, ixo_121, ixo_122, ixo_123, ixo_124, ixo_125, ixo_126, v3]
    by_cases g : q.lit = l
    · have g9 : q.lit ≠ 9 := by omega
      refine ⟨-4, σ, σ, q, ?_, ?_, I⟩
      · simp (disch := omega) only [f_X9_trim, F_X9_trim_39x1, nI_lit, nI_addE, nI_mulE, nI_ltE, nI_leE, nI_eqE, nI_eqN, nI_Neq, nI_ltN, nI_Nlt, nI_leN, nI_Nle, nI_NeN, nI_subE, bd1_s, bd2_s, onrN, onrS, grd_t, grd_T, gI_eq, gI_ne, gL_pI, gI_pL, ltT, ltF, leT, leF, eqT, eqF, if_true, if_false, true_or, or_true, ite_true, ite_false, and_true, true_and, and_false, false_and, not_false_eq_true, not_true_eq_false, ↓reduceIte, in_eq, Nat.reduceAdd, Nat.reduceMul, Nat.zero_add, cE_f, cE_t, mE_f, mE_t, within_ok, ne_eq, lotAt_ok (.inl rfl) c1 hn hl, grd_lot (.inl rfl), grd_bid (.inl rfl), w3, c7]
      · simp (disch := omega) only [f_X10_trim, F_X10_trim_38, nI_lit, nI_addE, nI_mulE, nI_ltE, nI_leE, nI_eqE, nI_eqN, nI_Neq, nI_ltN, nI_Nlt, nI_leN, nI_Nle, nI_NeN, nI_subE, bd1_s, bd2_s, onrN, onrS, grd_t, grd_T, gI_eq, gI_ne, gL_pI, gI_pL, ltT, ltF, leT, leF, eqT, eqF, if_true, if_false, true_or, or_true, ite_true, ite_false, and_true, true_and, and_false, false_and, not_false_eq_true, not_true_eq_false, ↓reduceIte, in_eq, Nat.reduceAdd, Nat.reduceMul, Nat.zero_add, cE_f, cE_t, mE_f, mE_t, within_ok, ne_eq, isLot_ok m0 hn hl, isSide_ok, isWax_ok, ixo_95, ixo_96, ixo_97, ixo_98, ixo_99, ixo_100, ixo_101, ixo_102, ixo_103, ixo_104, ixo_105, ixo_106, ixo_107, ixo_108, ixo_109, ixo_110, ixo_111, ixo_112, ixo_113, ixo_114, ixo_115, ixo_116, ixo_117, ixo_118, ixo_119, ixo_120, ixo_121, ixo_122, ixo_123, ixo_124, ixo_125, ixo_126, v3, n0]
    have gc : (cE q.lit = nI l) = False := by by_cases g9 : q.lit = 9 <;> simp (disch := omega) only [nI_lit, nI_addE, nI_mulE, nI_ltE, nI_leE, nI_eqE, nI_eqN, nI_Neq, nI_ltN, nI_Nlt, nI_leN, nI_Nle, nI_NeN, nI_subE, bd1_s, bd2_s, onrN, onrS, grd_t, grd_T, gI_eq, gI_ne, gL_pI, gI_pL, ltT, ltF, leT, leF, eqT, eqF, if_true, if_false, true_or, or_true, ite_true, ite_false, and_true, true_and, and_false, false_and, not_false_eq_true, not_true_eq_false, ↓reduceIte, in_eq, Nat.reduceAdd, Nat.reduceMul, Nat.zero_add, cE_f, cE_t, mE_f, mE_t, within_ok, ne_eq]
    have gm : (mE q.lit = nI l) = False := by by_cases g9 : q.lit = 9 <;> simp (disch := omega) only [nI_lit, nI_addE, nI_mulE, nI_ltE, nI_leE, nI_eqE, nI_eqN, nI_Neq, nI_ltN, nI_Nlt, nI_leN, nI_Nle, nI_NeN, nI_subE, bd1_s, bd2_s, onrN, onrS, grd_t, grd_T, gI_eq, gI_ne, gL_pI, gI_pL, ltT, ltF, leT, leF, eqT, eqF, if_true, if_false, true_or, or_true, ite_true, ite_false, and_true, true_and, and_false, false_and, not_false_eq_true, not_true_eq_false, ↓reduceIte, in_eq, Nat.reduceAdd, Nat.reduceMul, Nat.zero_add, cE_f, cE_t, mE_f, mE_t, within_ok, ne_eq]
    refine ⟨nI (q.wax l), ?s1, ?s2, qs q 1 l v, ?e1, ?e2, ?_⟩
    case e1 =>
      simp (disch := omega) only [f_X9_trim, F_X9_trim_39x1, nI_lit, nI_addE, nI_mulE, nI_ltE, nI_leE, nI_eqE, nI_eqN, nI_Neq, nI_ltN, nI_Nlt, nI_leN, nI_Nle, nI_NeN, nI_subE, bd1_s, bd2_s, onrN, onrS, grd_t, grd_T, gI_eq, gI_ne, gL_pI, gI_pL, ltT, ltF, leT, leF, eqT, eqF, if_true, if_false, true_or, or_true, ite_true, ite_false, and_true, true_and, and_false, false_and, not_false_eq_true, not_true_eq_false, ↓reduceIte, in_eq, Nat.reduceAdd, Nat.reduceMul, Nat.zero_add, cE_f, cE_t, mE_f, mE_t, within_ok, ne_eq, lotAt_ok (.inl rfl) c1 hn hl, grd_lot (.inl rfl), grd_bid (.inl rfl), w3, c7, gc, w1]
      rfl
    case e2 =>
      simp (disch := omega) only [f_X10_trim, F_X10_trim_38, nI_lit, nI_addE, nI_mulE, nI_ltE, nI_leE, nI_eqE, nI_eqN, nI_Neq, nI_ltN, nI_Nlt, nI_leN, nI_Nle, nI_NeN, nI_subE, bd1_s, bd2_s, onrN, onrS, grd_t, grd_T, gI_eq, gI_ne, gL_pI, gI_pL, ltT, ltF, leT, leF, eqT, eqF, if_true, if_false, true_or, or_true, ite_true, ite_false, and_true, true_and, and_false, false_and, not_false_eq_true, not_true_eq_false, ↓reduceIte, in_eq, Nat.reduceAdd, Nat.reduceMul, Nat.zero_add, cE_f, cE_t, mE_f, mE_t, within_ok, ne_eq, f_X10_isLot, f_X10_isBidder, m0, m8, isSide_ok, isWax_ok, ixo_95, ixo_96, ixo_97, ixo_98, ixo_99, ixo_100, ixo_101, ixo_102, ixo_103, ixo_104, ixo_105, ixo_106, ixo_107, ixo_108, ixo_109, ixo_110, ixo_111, ixo_112, ixo_113, ixo_114, ixo_115, ixo_116, ixo_117, ixo_118, ixo_119, ixo_120, ixo_121, ixo_122, ixo_123, ixo_124, ixo_125, ixo_126, v3, n0, gm, v1]
      rfl
    refine ⟨⟨⟨hn, fun i hi => ?_⟩, hob, o1, o2, o3, o4, fun hL => ?_, o6, o7, o8⟩, ⟨(CHs_c cs ⟨rfl, rfl, rfl, rfl, rfl, rfl, rfl, rfl, rfl⟩ (by intros; simp (disch := omega) only [gI_ne, gI_eq])), (CHd_c cd (fun _ => rfl) (by intros; simp (disch := omega) only [gI_ne, gI_eq])), ⟨fun i hi => ?_, fun i hi => ?_⟩, (CHb_c cb hob.1 rfl (fun _ => ⟨rfl, rfl, rfl, rfl⟩) (by intros; simp (disch := omega) only [gI_ne, gI_eq]))⟩, ⟨(MHs_c ms ⟨rfl, rfl, rfl, rfl⟩ ⟨(by intros; simp (disch := omega) only [gI_ne, gI_eq]), (by intros; simp (disch := omega) only [gI_ne, gI_eq]), (by intros; simp (disch := omega) only [gI_ne, gI_eq]), (by intros; simp (disch := omega) only [gI_ne, gI_eq])⟩), (MHr_c mr rfl ⟨rfl, rfl, rfl, rfl, rfl⟩ (fun _ => rfl) (by intros; simp (disch := omega) only [gI_ne, gI_eq])), (MHd_c md (fun _ => rfl) (by intros; simp (disch := omega) only [gI_ne, gI_eq])), fun i hi => ?_, (MHb_c mb rfl (fun _ => ⟨rfl, rfl, rfl⟩) (by intros; simp (disch := omega) only [gI_ne, gI_eq]))⟩, ⟨by simp (disch := omega) only [gI_ne]; exact r0.1, by simp (disch := omega) only [gI_ne]; exact r0.2⟩, R1_fr r1 ?_⟩
    · have hi : i < q.n := hi
      by_cases e : i = l
      · have := hol l hl; simp (disch := omega) only [n_qs, n_qt, wax_qs, wax_qt, worth_qs, worth_qt, sold_qs, sold_qt, price_qs, price_qt, buyer_qs, buyer_qt, m_qs, m_qt, kind_qs, kind_qt, a_qs, a_qt, val_qs, val_qt, purse_qs, purse_qt, dr_qs, dr_qt, step_qs, step_qt, lit_qs, lit_qt, tick_qs, tick_qt, burnt_qs, burnt_qt, high_qs, high_qt, holder_qs, holder_qt, z_qs, e]; exact ⟨⟨hv, hv2⟩, this.2⟩
      · simp (disch := omega) only [n_qs, n_qt, wax_qs, wax_qt, worth_qs, worth_qt, sold_qs, sold_qt, price_qs, price_qt, buyer_qs, buyer_qt, m_qs, m_qt, kind_qs, kind_qt, a_qs, a_qt, val_qs, val_qt, purse_qs, purse_qt, dr_qs, dr_qt, step_qs, step_qt, lit_qs, lit_qt, tick_qs, tick_qt, burnt_qs, burnt_qt, high_qs, high_qt, holder_qs, holder_qt, z_qs]; exact hol i hi
    · simp (disch := omega) only [n_qs, n_qt, wax_qs, wax_qt, worth_qs, worth_qt, sold_qs, sold_qt, price_qs, price_qt, buyer_qs, buyer_qt, m_qs, m_qt, kind_qs, kind_qt, a_qs, a_qt, val_qs, val_qt, purse_qs, purse_qt, dr_qs, dr_qt, step_qs, step_qt, lit_qs, lit_qt, tick_qs, tick_qt, burnt_qs, burnt_qt, high_qs, high_qt, holder_qs, holder_qt, z_qs]; exact o5 hL
    · have hi : i < q.n := hi
      by_cases e : i = l
      · have := cl.1 l hl
        simp only [Nat.reduceAdd] at this
        simp (disch := omega) only [n_qs, n_qt, wax_qs, wax_qt, worth_qs, worth_qt, sold_qs, sold_qt, price_qs, price_qt, buyer_qs, buyer_qt, m_qs, m_qt, kind_qs, kind_qt, a_qs, a_qt, val_qs, val_qt, purse_qs, purse_qt, dr_qs, dr_qt, step_qs, step_qt, lit_qs, lit_qt, tick_qs, tick_qt, burnt_qs, burnt_qt, high_qs, high_qt, holder_qs, holder_qt, z_qs, gI_eq, gI_ne, gL_pI, gI_pL, e, Nat.reduceAdd]; exact ⟨trivial, this.2⟩
      · simp (disch := omega) only [n_qs, n_qt, wax_qs, wax_qt, worth_qs, worth_qt, sold_qs, sold_qt, price_qs, price_qt, buyer_qs, buyer_qt, m_qs, m_qt, kind_qs, kind_qt, a_qs, a_qt, val_qs, val_qt, purse_qs, purse_qt, dr_qs, dr_qt, step_qs, step_qt, lit_qs, lit_qt, tick_qs, tick_qt, burnt_qs, burnt_qt, high_qs, high_qt, holder_qs, holder_qt, z_qs, gI_eq, gI_ne, gL_pI, gI_pL]; exact cl.1 i hi
    · simp (disch := omega) only [gI_eq, gI_ne, gL_pI, gI_pL]; exact cl.2 i hi
    · have hi : i < q.n := hi
      by_cases e : i = l
      · have := ml l hl; simp (disch := omega) only [n_qs, n_qt, wax_qs, wax_qt, worth_qs, worth_qt, sold_qs, sold_qt, price_qs, price_qt, buyer_qs, buyer_qt, m_qs, m_qt, kind_qs, kind_qt, a_qs, a_qt, val_qs, val_qt, purse_qs, purse_qt, dr_qs, dr_qt, step_qs, step_qt, lit_qs, lit_qt, tick_qs, tick_qt, burnt_qs, burnt_qt, high_qs, high_qt, holder_qs, holder_qt, z_qs, gI_eq, gI_ne, gL_pI, gI_pL, e]; exact ⟨trivial, this.2⟩
      · simp (disch := omega) only [n_qs, n_qt, wax_qs, wax_qt, worth_qs, worth_qt, sold_qs, sold_qt, price_qs, price_qt, buyer_qs, buyer_qt, m_qs, m_qt, kind_qs, kind_qt, a_qs, a_qt, val_qs, val_qt, purse_qs, purse_qt, dr_qs, dr_qt, step_qs, step_qt, lit_qs, lit_qt, tick_qs, tick_qt, burnt_qs, burnt_qt, high_qs, high_qt, holder_qs, holder_qt, z_qs, gI_eq, gI_ne, gL_pI, gI_pL]; exact ml i hi
    · (repeat (refine Fr_pI _ ?_ (by unfold WH; omega))); exact Fr_rfl _ _
  · rcases (arg a3 1 99 (by omega) (by omega)).symm with b | ⟨v, hv, hv2, rfl⟩
    · refine ⟨-1, σ, σ, q, ?_, ?_, I⟩
      · simp (disch := omega) only [f_X9_trim, F_X9_trim_39, nI_lit, nI_addE, nI_mulE, nI_ltE, nI_leE, nI_eqE, nI_eqN, nI_Neq, nI_ltN, nI_Nlt, nI_leN, nI_Nle, nI_NeN, nI_subE, bd1_s, bd2_s, onrN, onrS, grd_t, grd_T, gI_eq, gI_ne, gL_pI, gI_pL, ltT, ltF, leT, leF, eqT, eqF, if_true, if_false, true_or, or_true, ite_true, ite_false, and_true, true_and, and_false, false_and, not_false_eq_true, not_true_eq_false, ↓reduceIte, in_eq, Nat.reduceAdd, Nat.reduceMul, Nat.zero_add, cE_f, cE_t, mE_f, mE_t, within_ok, ne_eq, lotAt_ok (.inl rfl) c1 hn hl, grd_lot (.inl rfl), grd_bid (.inl rfl), within_no _ b]
      · simp (disch := omega) only [f_X10_trim, nI_lit, nI_addE, nI_mulE, nI_ltE, nI_leE, nI_eqE, nI_eqN, nI_Neq, nI_ltN, nI_Nlt, nI_leN, nI_Nle, nI_NeN, nI_subE, bd1_s, bd2_s, onrN, onrS, grd_t, grd_T, gI_eq, gI_ne, gL_pI, gI_pL, ltT, ltF, leT, leF, eqT, eqF, if_true, if_false, true_or, or_true, ite_true, ite_false, and_true, true_and, and_false, false_and, not_false_eq_true, not_true_eq_false, ↓reduceIte, in_eq, Nat.reduceAdd, Nat.reduceMul, Nat.zero_add, cE_f, cE_t, mE_f, mE_t, within_ok, ne_eq, isLot_ok m0 hn hl, isSide_ok, isWorth_no b]
    by_cases s : q.sold l = 1
    · refine ⟨-4, σ, σ, q, ?_, ?_, I⟩
      · simp (disch := omega) only [f_X9_trim, F_X9_trim_39, nI_lit, nI_addE, nI_mulE, nI_ltE, nI_leE, nI_eqE, nI_eqN, nI_Neq, nI_ltN, nI_Nlt, nI_leN, nI_Nle, nI_NeN, nI_subE, bd1_s, bd2_s, onrN, onrS, grd_t, grd_T, gI_eq, gI_ne, gL_pI, gI_pL, ltT, ltF, leT, leF, eqT, eqF, if_true, if_false, true_or, or_true, ite_true, ite_false, and_true, true_and, and_false, false_and, not_false_eq_true, not_true_eq_false, ↓reduceIte, in_eq, Nat.reduceAdd, Nat.reduceMul, Nat.zero_add, cE_f, cE_t, mE_f, mE_t, within_ok, ne_eq, lotAt_ok (.inl rfl) c1 hn hl, grd_lot (.inl rfl), grd_bid (.inl rfl), w3]
      · simp (disch := omega) only [f_X10_trim, F_X10_trim_38, nI_lit, nI_addE, nI_mulE, nI_ltE, nI_leE, nI_eqE, nI_eqN, nI_Neq, nI_ltN, nI_Nlt, nI_leN, nI_Nle, nI_NeN, nI_subE, bd1_s, bd2_s, onrN, onrS, grd_t, grd_T, gI_eq, gI_ne, gL_pI, gI_pL, ltT, ltF, leT, leF, eqT, eqF, if_true, if_false, true_or, or_true, ite_true, ite_false, and_true, true_and, and_false, false_and, not_false_eq_true, not_true_eq_false, ↓reduceIte, in_eq, Nat.reduceAdd, Nat.reduceMul, Nat.zero_add, cE_f, cE_t, mE_f, mE_t, within_ok, ne_eq, isLot_ok m0 hn hl, isSide_ok, isWorth_ok, ixo_95, ixo_96, ixo_97, ixo_98, ixo_99, ixo_100, ixo_101, ixo_102, ixo_103, ixo_104, ixo_105, ixo_106, ixo_107, ixo_108, ixo_109, ixo_110, ixo_111, ixo_112, ixo_113, ixo_114, ixo_115, ixo_116, ixo_117, ixo_118, ixo_119, ixo_120, ixo_121, ixo_122, ixo_123, ixo_124, ixo_125, ixo_126, v3]
    by_cases g : q.lit = l
    · have g9 : q.lit ≠ 9 := by omega
      refine ⟨-4, σ, σ, q, ?_, ?_, I⟩
      · simp (disch := omega) only [f_X9_trim, F_X9_trim_39, nI_lit, nI_addE, nI_mulE, nI_ltE, nI_leE, nI_eqE, nI_eqN, nI_Neq, nI_ltN, nI_Nlt, nI_leN, nI_Nle, nI_NeN, nI_subE, bd1_s, bd2_s, onrN, onrS, grd_t, grd_T, gI_eq, gI_ne, gL_pI, gI_pL, ltT, ltF, leT, leF, eqT, eqF, if_true, if_false, true_or, or_true, ite_true, ite_false, and_true, true_and, and_false, false_and, not_false_eq_true, not_true_eq_false, ↓reduceIte, in_eq, Nat.reduceAdd, Nat.reduceMul, Nat.zero_add, cE_f, cE_t, mE_f, mE_t, within_ok, ne_eq, lotAt_ok (.inl rfl) c1 hn hl, grd_lot (.inl rfl), grd_bid (.inl rfl), w3, c7]
      · simp (disch := omega) only [f_X10_trim, F_X10_trim_38, nI_lit, nI_addE, nI_mulE, nI_ltE, nI_leE, nI_eqE, nI_eqN, nI_Neq, nI_ltN, nI_Nlt, nI_leN, nI_Nle, nI_NeN, nI_subE, bd1_s, bd2_s, onrN, onrS, grd_t, grd_T, gI_eq, gI_ne, gL_pI, gI_pL, ltT, ltF, leT, leF, eqT, eqF, if_true, if_false, true_or, or_true, ite_true, ite_false, and_true, true_and, and_false, false_and, not_false_eq_true, not_true_eq_false, ↓reduceIte, in_eq, Nat.reduceAdd, Nat.reduceMul, Nat.zero_add, cE_f, cE_t, mE_f, mE_t, within_ok, ne_eq, isLot_ok m0 hn hl, isSide_ok, isWorth_ok, ixo_95, ixo_96, ixo_97, ixo_98, ixo_99, ixo_100, ixo_101, ixo_102, ixo_103, ixo_104, ixo_105, ixo_106, ixo_107, ixo_108, ixo_109, ixo_110, ixo_111, ixo_112, ixo_113, ixo_114, ixo_115, ixo_116, ixo_117, ixo_118, ixo_119, ixo_120, ixo_121, ixo_122, ixo_123, ixo_124, ixo_125, ixo_126, v3, n0]
    have gc : (cE q.lit = nI l) = False := by by_cases g9 : q.lit = 9 <;> simp (disch := omega) only [nI_lit, nI_addE, nI_mulE, nI_ltE, nI_leE, nI_eqE, nI_eqN, nI_Neq, nI_ltN, nI_Nlt, nI_leN, nI_Nle, nI_NeN, nI_subE, bd1_s, bd2_s, onrN, onrS, grd_t, grd_T, gI_eq, gI_ne, gL_pI, gI_pL, ltT, ltF, leT, leF, eqT, eqF, if_true, if_false, true_or, or_true, ite_true, ite_false, and_true, true_and, and_false, false_and, not_false_eq_true, not_true_eq_false, ↓reduceIte, in_eq, Nat.reduceAdd, Nat.reduceMul, Nat.zero_add, cE_f, cE_t, mE_f, mE_t, within_ok, ne_eq]
    have gm : (mE q.lit = nI l) = False := by by_cases g9 : q.lit = 9 <;> simp (disch := omega) only [nI_lit, nI_addE, nI_mulE, nI_ltE, nI_leE, nI_eqE, nI_eqN, nI_Neq, nI_ltN, nI_Nlt, nI_leN, nI_Nle, nI_NeN, nI_subE, bd1_s, bd2_s, onrN, onrS, grd_t, grd_T, gI_eq, gI_ne, gL_pI, gI_pL, ltT, ltF, leT, leF, eqT, eqF, if_true, if_false, true_or, or_true, ite_true, ite_false, and_true, true_and, and_false, false_and, not_false_eq_true, not_true_eq_false, ↓reduceIte, in_eq, Nat.reduceAdd, Nat.reduceMul, Nat.zero_add, cE_f, cE_t, mE_f, mE_t, within_ok, ne_eq]
    refine ⟨nI (q.worth l), ?s3, ?s4, qs q 2 l v, ?e3, ?e4, ?_⟩
    case e3 =>
      simp (disch := omega) only [f_X9_trim, F_X9_trim_39, nI_lit, nI_addE, nI_mulE, nI_ltE, nI_leE, nI_eqE, nI_eqN, nI_Neq, nI_ltN, nI_Nlt, nI_leN, nI_Nle, nI_NeN, nI_subE, bd1_s, bd2_s, onrN, onrS, grd_t, grd_T, gI_eq, gI_ne, gL_pI, gI_pL, ltT, ltF, leT, leF, eqT, eqF, if_true, if_false, true_or, or_true, ite_true, ite_false, and_true, true_and, and_false, false_and, not_false_eq_true, not_true_eq_false, ↓reduceIte, in_eq, Nat.reduceAdd, Nat.reduceMul, Nat.zero_add, cE_f, cE_t, mE_f, mE_t, within_ok, ne_eq, lotAt_ok (.inl rfl) c1 hn hl, grd_lot (.inl rfl), grd_bid (.inl rfl), w3, c7, gc, w2]
      rfl
    case e4 =>
      simp (disch := omega) only [f_X10_trim, F_X10_trim_38, nI_lit, nI_addE, nI_mulE, nI_ltE, nI_leE, nI_eqE, nI_eqN, nI_Neq, nI_ltN, nI_Nlt, nI_leN, nI_Nle, nI_NeN, nI_subE, bd1_s, bd2_s, onrN, onrS, grd_t, grd_T, gI_eq, gI_ne, gL_pI, gI_pL, ltT, ltF, leT, leF, eqT, eqF, if_true, if_false, true_or, or_true, ite_true, ite_false, and_true, true_and, and_false, false_and, not_false_eq_true, not_true_eq_false, ↓reduceIte, in_eq, Nat.reduceAdd, Nat.reduceMul, Nat.zero_add, cE_f, cE_t, mE_f, mE_t, within_ok, ne_eq, f_X10_isLot, f_X10_isBidder, m0, m8, isSide_ok, isWorth_ok, ixo_95, ixo_96, ixo_97, ixo_98, ixo_99, ixo_100, ixo_101, ixo_102, ixo_103, ixo_104, ixo_105, ixo_106, ixo_107, ixo_108, ixo_109, ixo_110, ixo_111, ixo_112, ixo_113, ixo_114, ixo_115, ixo_116, ixo_117, ixo_118, ixo_119, ixo_120, ixo_121, ixo_122, ixo_123, ixo_124, ixo_125, ixo_126, v3, n0, gm, v2]
      rfl
    refine ⟨⟨⟨hn, fun i hi => ?_⟩, hob, hoc⟩, ⟨(CHs_c cs ⟨rfl, rfl, rfl, rfl, rfl, rfl, rfl, rfl, rfl⟩ (by intros; simp (disch := omega) only [gI_ne, gI_eq])), (CHd_c cd (fun _ => rfl) (by intros; simp (disch := omega) only [gI_ne, gI_eq])), ⟨fun i hi => ?_, fun i hi => ?_⟩, (CHb_c cb hob.1 rfl (fun _ => ⟨rfl, rfl, rfl, rfl⟩) (by intros; simp (disch := omega) only [gI_ne, gI_eq]))⟩, ⟨(MHs_c ms ⟨rfl, rfl, rfl, rfl⟩ ⟨(by intros; simp (disch := omega) only [gI_ne, gI_eq]), (by intros; simp (disch := omega) only [gI_ne, gI_eq]), (by intros; simp (disch := omega) only [gI_ne, gI_eq]), (by intros; simp (disch := omega) only [gI_ne, gI_eq])⟩), (MHr_c mr rfl ⟨rfl, rfl, rfl, rfl, rfl⟩ (fun _ => rfl) (by intros; simp (disch := omega) only [gI_ne, gI_eq])), (MHd_c md (fun _ => rfl) (by intros; simp (disch := omega) only [gI_ne, gI_eq])), fun i hi => ?_, (MHb_c mb rfl (fun _ => ⟨rfl, rfl, rfl⟩) (by intros; simp (disch := omega) only [gI_ne, gI_eq]))⟩, ⟨by simp (disch := omega) only [gI_ne]; exact r0.1, by simp (disch := omega) only [gI_ne]; exact r0.2⟩, R1_fr r1 ?_⟩
    · have hi : i < q.n := hi
      by_cases e : i = l
      · have := hol l hl; simp (disch := omega) only [n_qs, n_qt, wax_qs, wax_qt, worth_qs, worth_qt, sold_qs, sold_qt, price_qs, price_qt, buyer_qs, buyer_qt, m_qs, m_qt, kind_qs, kind_qt, a_qs, a_qt, val_qs, val_qt, purse_qs, purse_qt, dr_qs, dr_qt, step_qs, step_qt, lit_qs, lit_qt, tick_qs, tick_qt, burnt_qs, burnt_qt, high_qs, high_qt, holder_qs, holder_qt, z_qs, e]; exact ⟨this.1, ⟨hv, hv2⟩, this.2.2⟩
      · simp (disch := omega) only [n_qs, n_qt, wax_qs, wax_qt, worth_qs, worth_qt, sold_qs, sold_qt, price_qs, price_qt, buyer_qs, buyer_qt, m_qs, m_qt, kind_qs, kind_qt, a_qs, a_qt, val_qs, val_qt, purse_qs, purse_qt, dr_qs, dr_qt, step_qs, step_qt, lit_qs, lit_qt, tick_qs, tick_qt, burnt_qs, burnt_qt, high_qs, high_qt, holder_qs, holder_qt, z_qs]; exact hol i hi
    · have hi : i < q.n := hi
      by_cases e : i = l
      · have := cl.1 l hl
        simp only [Nat.reduceAdd] at this
        simp (disch := omega) only [n_qs, n_qt, wax_qs, wax_qt, worth_qs, worth_qt, sold_qs, sold_qt, price_qs, price_qt, buyer_qs, buyer_qt, m_qs, m_qt, kind_qs, kind_qt, a_qs, a_qt, val_qs, val_qt, purse_qs, purse_qt, dr_qs, dr_qt, step_qs, step_qt, lit_qs, lit_qt, tick_qs, tick_qt, burnt_qs, burnt_qt, high_qs, high_qt, holder_qs, holder_qt, z_qs, gI_eq, gI_ne, gL_pI, gI_pL, e, Nat.reduceAdd]; exact ⟨this.1, trivial, this.2.2⟩
      · simp (disch := omega) only [n_qs, n_qt, wax_qs, wax_qt, worth_qs, worth_qt, sold_qs, sold_qt, price_qs, price_qt, buyer_qs, buyer_qt, m_qs, m_qt, kind_qs, kind_qt, a_qs, a_qt, val_qs, val_qt, purse_qs, purse_qt, dr_qs, dr_qt, step_qs, step_qt, lit_qs, lit_qt, tick_qs, tick_qt, burnt_qs, burnt_qt, high_qs, high_qt, holder_qs, holder_qt, z_qs, gI_eq, gI_ne, gL_pI, gI_pL]; exact cl.1 i hi
    · simp (disch := omega) only [gI_eq, gI_ne, gL_pI, gI_pL]; exact cl.2 i hi
    · have hi : i < q.n := hi
      by_cases e : i = l
      · have := ml l hl; simp (disch := omega) only [n_qs, n_qt, wax_qs, wax_qt, worth_qs, worth_qt, sold_qs, sold_qt, price_qs, price_qt, buyer_qs, buyer_qt, m_qs, m_qt, kind_qs, kind_qt, a_qs, a_qt, val_qs, val_qt, purse_qs, purse_qt, dr_qs, dr_qt, step_qs, step_qt, lit_qs, lit_qt, tick_qs, tick_qt, burnt_qs, burnt_qt, high_qs, high_qt, holder_qs, holder_qt, z_qs, gI_eq, gI_ne, gL_pI, gI_pL, e]; exact ⟨this.1, trivial, this.2.2⟩
      · simp (disch := omega) only [n_qs, n_qt, wax_qs, wax_qt, worth_qs, worth_qt, sold_qs, sold_qt, price_qs, price_qt, buyer_qs, buyer_qt, m_qs, m_qt, kind_qs, kind_qt, a_qs, a_qt, val_qs, val_qt, purse_qs, purse_qt, dr_qs, dr_qt, step_qs, step_qt, lit_qs, lit_qt, tick_qs, tick_qt, burnt_qs, burnt_qt, high_qs, high_qt, holder_qs, holder_qt, z_qs, gI_eq, gI_ne, gL_pI, gI_pL]; exact ml i hi
    · (repeat (refine Fr_pI _ ?_ (by unfold WH; omega))); exact Fr_rfl _ _
end
