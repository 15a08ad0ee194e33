def outq (q : HQ) : Prop := q.wax q.lit ≤ q.burnt
section
variable {q : HQ} {σ : Mem} {h o b v : Nat}
theorem cl_bidsR {k : Nat} (hk : k = 74 ∨ k = 76) (hh : h = 1 ∨ h = 16 ∨ h = 31 ∨ h = 49) : ∀ (d i : Nat) (x : HQ × Lg) (σ : Mem) (fuel : Nat), i + d = x.1.m → d < fuel → Liv x.1 → CH h x.1 σ → LC k x.2 σ → ∃ σ1 rec, CH h (bidsR 9 d i x).1 σ1 ∧ LC k (bidsR 9 d i x).2 σ1 ∧ Fr (fun c i => FH h c i ∨ c = k ∨ c = k + 1) σ σ1 ∧ iterF (F_X2_goOneTick_2 h k) (fun _ _ => none) fuel (nI i) σ = F_X2_goOneTick_2 h k rec (nI x.1.m) σ1 := by
  intro d
  induction d with
  | zero =>
    intro i x σ fuel hi hf L C G
    obtain ⟨f, rfl⟩ : ∃ f, fuel = f + 1 := ⟨fuel - 1, by omega⟩
    have : i = x.1.m := by omega
    subst this
    exact ⟨σ, _, C, G, Fr_rfl _ _, rfl⟩
  | succ d ih =>
    intro i x σ fuel hi hf L C G
    obtain ⟨q, g⟩ := x
    have hi : i + (d + 1) = q.m := hi
    have L : Liv q := L
    have C : CH h q σ := C
    have G : LC k g σ := G
    have hb : i < q.m := by omega
    obtain ⟨f, rfl⟩ : ∃ f, fuel = f + 1 := ⟨fuel - 1, by omega⟩
    have hm := L.1.2.1.1
    have A := bid1_liv (s := 9) (g := g) L hb
    have K := cl_call hh L.1 L.2 hb C
    have kl := callv_le' L hb
    have c3 := C.1.2.1
    have c8 := (C.1.2.2.2.2.2 (by have := L.2; have := L.1.1.1; omega)).1
    show ∃ σ1 rec, CH h (bidsR 9 d (i + 1) (bid1 9 (q, g) i)).1 σ1 ∧ LC k (bidsR 9 d (i + 1) (bid1 9 (q, g) i)).2 σ1 ∧ Fr (fun c i => FH h c i ∨ c = k ∨ c = k + 1) σ σ1 ∧ F_X2_goOneTick_2 h k (iterF (F_X2_goOneTick_2 h k) (fun _ _ => none) f) (nI i) σ = F_X2_goOneTick_2 h k rec (nI q.m) σ1
    by_cases e : callv q i = 0
    · have e1 : bid1 9 (q, g) i = (q, g) := by
        unfold bid1
        rw [if_neg (by omega), if_pos e]
      rw [e1]
      obtain ⟨σ1, rec, r1, r2, r3, r4⟩ := ih (i + 1) (q, g) σ f (by show i + 1 + d = q.m; omega) (by omega) L C G
      refine ⟨σ1, rec, r1, r2, r3, Eq.trans ?_ r4⟩
      simp (disch := omega) only [F_X2_goOneTick_2, nI_lit, nI_addE, nI_mulE, nI_ltE, nI_leE, nI_eqE, nI_eqN, nI_Neq, nI_ltN, nI_Nlt, nI_leN, nI_Nle, nI_NeN, nI_subE, bd1_s, bd2_s, onrN, onrS, grd_t, grd_T, gI_eq, gI_ne, gL_pI, gI_pL, ltT, ltF, leT, leF, eqT, eqF, if_true, if_false, true_or, or_true, ite_true, ite_false, and_true, true_and, and_false, false_and, not_false_eq_true, not_true_eq_false, ↓reduceIte, in_eq, Nat.reduceAdd, Nat.reduceMul, Nat.zero_add, cE_f, cE_t, mE_f, mE_t, within_ok, ne_eq, c3, K, e]
    · have e1 : bid1 9 (q, g) i = (takes q i (callv q i), lnote g q.tick i (callv q i)) := by
        unfold bid1
        rw [if_neg (by omega), if_neg e]
      rw [e1] at A ⊢
      have C1 := CH_take (v := callv q i) L hb C
      have G1 : LC k g (pI (pI σ h 10 (nI (callv q i))) h 11 (nI i)) := by
        obtain ⟨l0, l1, l2⟩ := G
        refine ⟨l0, ?_, fun j hj => ?_⟩
        · simp (disch := omega) only [gI_eq, gI_ne, gL_pI, gI_pL]; exact l1
        · simp (disch := omega) only [gI_eq, gI_ne, gL_pI, gI_pL]; exact l2 j hj
      have t8 : gI (pI (pI σ h 10 (nI (callv q i))) h 11 (nI i)) h 8 = nI q.tick := by simp (disch := omega) only [gI_eq, gI_ne, gL_pI, gI_pL]; exact c8
      obtain ⟨σ0, p1, p2, p3⟩ := LC_note (t := q.tick) (b := i) (v := callv q i) G1 hk
      have okt := A.1.1
      have C2 : CH h (takes q i (callv q i)) σ0 := CH_fr okt C1 (fun c j h1 h2 => p3.1 c j (by omega))
      obtain ⟨σ1, rec, r1, r2, r3, r4⟩ := ih (i + 1) (takes q i (callv q i), lnote g q.tick i (callv q i)) σ0 f (by show i + 1 + d = q.m; omega) (by omega) A.1 C2 p2
      refine ⟨σ1, rec, r1, r2, Fr_tr (Fr_pI _ (Fr_pI _ (Fr_rfl _ _) (.inl ⟨by omega, by omega⟩)) (.inl ⟨by omega, by omega⟩)) (Fr_tr (Fr_mono p3 (fun c i w => .inr w)) r3), Eq.trans ?_ r4⟩
      simp (disch := omega) only [F_X2_goOneTick_2, f_X2_takeCall, nI_lit, nI_addE, nI_mulE, nI_ltE, nI_leE, nI_eqE, nI_eqN, nI_Neq, nI_ltN, nI_Nlt, nI_leN, nI_Nle, nI_NeN, nI_subE, bd1_s, bd2_s, onrN, onrS, grd_t, grd_T, gI_eq, gI_ne, gL_pI, gI_pL, ltT, ltF, leT, leF, eqT, eqF, if_true, if_false, true_or, or_true, ite_true, ite_false, and_true, true_and, and_false, false_and, not_false_eq_true, not_true_eq_false, ↓reduceIte, in_eq, Nat.reduceAdd, Nat.reduceMul, Nat.zero_add, cE_f, cE_t, mE_f, mE_t, within_ok, ne_eq, c3, K, c8, p1]
theorem burns_le (hq : ∀ p, p < 12 → q.dr p ≤ 3) : 1 ≤ burns q ∧ burns q ≤ 4 := by
  have := hq (q.tick % 12) (Nat.mod_lt _ (by omega))
  unfold burns; omega
theorem burnq_okx (L : Liv q) : (burnq q).Okx := by
  obtain ⟨hl, hb, o1, o2, o3, o4, o5, o6, o7, o8⟩ := L.1
  exact ⟨hl, hb, o1, o2, o6, o7⟩
theorem burnq_liv (L : Liv q) (h : ¬ outq (burnq q)) : Liv (burnq q) := by
  have B := burns_le L.1.2.2.1
  obtain ⟨⟨hl, hb, o1, o2, o3, o4, o5, o6, o7, o8⟩, hL⟩ := L
  have hn := hl.1
  refine ⟨⟨hl, hb, o1, o2, o3, ?_, fun _ => ?_, o6, o7, fun e => ?_⟩, hL⟩
  · show q.tick + 1 ≤ q.burnt + burns q; omega
  · unfold outq at h
    have h : ¬ (q.wax q.lit ≤ q.burnt + burns q) := h
    show q.burnt + burns q < q.wax q.lit
    omega
  · have e : q.lit = 9 := e
    omega
theorem CH_burn (L : Liv q) (C : CH h q σ) : CH h (burnq q) (pI (pI σ h 9 (nI (q.burnt + burns q))) h 8 (nI (q.tick + 1))) := by
  have hn := L.1.1.1
  have hm := L.1.2.1.1
  have hl := L.2
  obtain ⟨⟨c1, c3, c5, c6, c7, c8⟩, cd, cl, cb⟩ := C
  obtain ⟨c8, c9, c10, c11⟩ := c8 (by omega)
  unfold burnq
  refine ⟨⟨?_, ?_, ?_, ?_, ?_, fun _ => ⟨?_, ?_, ?_, ?_⟩⟩, CHd_c cd (fun _ => rfl) (by intros; simp (disch := omega) only [gI_ne, gI_eq]), CHl_c cl hn rfl (fun _ => ⟨rfl, rfl, rfl, rfl, rfl⟩) (by intros; simp (disch := omega) only [gI_ne, gI_eq]), CHb_c cb hm rfl (fun _ => ⟨rfl, rfl, rfl, rfl⟩) (by intros; simp (disch := omega) only [gI_ne, gI_eq])⟩
  · simp (disch := omega) only [n_qs, n_qt, wax_qs, wax_qt, worth_qs, worth_qt, sold_qs, sold_qt, price_qs, price_qt, buyer_qs, buyer_qt, m_qs, m_qt, kind_qs, kind_qt, a_qs, a_qt, val_qs, val_qt, purse_qs, purse_qt, dr_qs, dr_qt, step_qs, step_qt, lit_qs, lit_qt, tick_qs, tick_qt, burnt_qs, burnt_qt, high_qs, high_qt, holder_qs, holder_qt, z_qs, gI_eq, gI_ne, gL_pI, gI_pL]; exact c1
  · simp (disch := omega) only [n_qs, n_qt, wax_qs, wax_qt, worth_qs, worth_qt, sold_qs, sold_qt, price_qs, price_qt, buyer_qs, buyer_qt, m_qs, m_qt, kind_qs, kind_qt, a_qs, a_qt, val_qs, val_qt, purse_qs, purse_qt, dr_qs, dr_qt, step_qs, step_qt, lit_qs, lit_qt, tick_qs, tick_qt, burnt_qs, burnt_qt, high_qs, high_qt, holder_qs, holder_qt, z_qs, gI_eq, gI_ne, gL_pI, gI_pL]; exact c3
  · simp (disch := omega) only [n_qs, n_qt, wax_qs, wax_qt, worth_qs, worth_qt, sold_qs, sold_qt, price_qs, price_qt, buyer_qs, buyer_qt, m_qs, m_qt, kind_qs, kind_qt, a_qs, a_qt, val_qs, val_qt, purse_qs, purse_qt, dr_qs, dr_qt, step_qs, step_qt, lit_qs, lit_qt, tick_qs, tick_qt, burnt_qs, burnt_qt, high_qs, high_qt, holder_qs, holder_qt, z_qs, gI_eq, gI_ne, gL_pI, gI_pL]; exact c5
  · simp (disch := omega) only [n_qs, n_qt, wax_qs, wax_qt, worth_qs, worth_qt, sold_qs, sold_qt, price_qs, price_qt, buyer_qs, buyer_qt, m_qs, m_qt, kind_qs, kind_qt, a_qs, a_qt, val_qs, val_qt, purse_qs, purse_qt, dr_qs, dr_qt, step_qs, step_qt, lit_qs, lit_qt, tick_qs, tick_qt, burnt_qs, burnt_qt, high_qs, high_qt, holder_qs, holder_qt, z_qs, gI_eq, gI_ne, gL_pI, gI_pL]; exact c6
  · simp (disch := omega) only [n_qs, n_qt, wax_qs, wax_qt, worth_qs, worth_qt, sold_qs, sold_qt, price_qs, price_qt, buyer_qs, buyer_qt, m_qs, m_qt, kind_qs, kind_qt, a_qs, a_qt, val_qs, val_qt, purse_qs, purse_qt, dr_qs, dr_qt, step_qs, step_qt, lit_qs, lit_qt, tick_qs, tick_qt, burnt_qs, burnt_qt, high_qs, high_qt, holder_qs, holder_qt, z_qs, gI_eq, gI_ne, gL_pI, gI_pL]; exact c7
  · simp (disch := omega) only [n_qs, n_qt, wax_qs, wax_qt, worth_qs, worth_qt, sold_qs, sold_qt, price_qs, price_qt, buyer_qs, buyer_qt, m_qs, m_qt, kind_qs, kind_qt, a_qs, a_qt, val_qs, val_qt, purse_qs, purse_qt, dr_qs, dr_qt, step_qs, step_qt, lit_qs, lit_qt, tick_qs, tick_qt, burnt_qs, burnt_qt, high_qs, high_qt, holder_qs, holder_qt, z_qs, gI_eq, gI_ne, gL_pI, gI_pL]
  · simp (disch := omega) only [n_qs, n_qt, wax_qs, wax_qt, worth_qs, worth_qt, sold_qs, sold_qt, price_qs, price_qt, buyer_qs, buyer_qt, m_qs, m_qt, kind_qs, kind_qt, a_qs, a_qt, val_qs, val_qt, purse_qs, purse_qt, dr_qs, dr_qt, step_qs, step_qt, lit_qs, lit_qt, tick_qs, tick_qt, burnt_qs, burnt_qt, high_qs, high_qt, holder_qs, holder_qt, z_qs, gI_eq, gI_ne, gL_pI, gI_pL]
  · simp (disch := omega) only [n_qs, n_qt, wax_qs, wax_qt, worth_qs, worth_qt, sold_qs, sold_qt, price_qs, price_qt, buyer_qs, buyer_qt, m_qs, m_qt, kind_qs, kind_qt, a_qs, a_qt, val_qs, val_qt, purse_qs, purse_qt, dr_qs, dr_qt, step_qs, step_qt, lit_qs, lit_qt, tick_qs, tick_qt, burnt_qs, burnt_qt, high_qs, high_qt, holder_qs, holder_qt, z_qs, gI_eq, gI_ne, gL_pI, gI_pL]; exact c10
  · simp (disch := omega) only [n_qs, n_qt, wax_qs, wax_qt, worth_qs, worth_qt, sold_qs, sold_qt, price_qs, price_qt, buyer_qs, buyer_qt, m_qs, m_qt, kind_qs, kind_qt, a_qs, a_qt, val_qs, val_qt, purse_qs, purse_qt, dr_qs, dr_qt, step_qs, step_qt, lit_qs, lit_qt, tick_qs, tick_qt, burnt_qs, burnt_qt, high_qs, high_qt, holder_qs, holder_qt, z_qs, gI_eq, gI_ne, gL_pI, gI_pL]; exact c11
theorem MH_burn (L : Liv q) (M : MH o q σ) : MH o (burnq q) (pI (pI σ 104 (o + 2) (nI (q.burnt + burns q))) 104 (o + 1) (nI (q.tick + 1))) := by
  obtain ⟨ms, ⟨n0, n1, n2, n3, n4, n5⟩, md, ml, mb⟩ := M
  unfold burnq
  refine ⟨MHs_c ms ⟨rfl, rfl, rfl, rfl⟩ ⟨(by intros; simp (disch := omega) only [gI_ne, gI_eq]), (by intros; simp (disch := omega) only [gI_ne, gI_eq]), (by intros; simp (disch := omega) only [gI_ne, gI_eq]), (by intros; simp (disch := omega) only [gI_ne, gI_eq])⟩, ⟨?_, ?_, ?_, ?_, ?_, fun b hb => ?_⟩, MHd_c md (fun _ => rfl) (by intros; simp (disch := omega) only [gI_ne, gI_eq]), MHl_c ml rfl (fun _ => ⟨rfl, rfl, rfl, rfl, rfl⟩) (by intros; simp (disch := omega) only [gI_ne, gI_eq]), MHb_c mb rfl (fun _ => ⟨rfl, rfl, rfl⟩) (by intros; simp (disch := omega) only [gI_ne, gI_eq])⟩
  · simp (disch := omega) only [n_qs, n_qt, wax_qs, wax_qt, worth_qs, worth_qt, sold_qs, sold_qt, price_qs, price_qt, buyer_qs, buyer_qt, m_qs, m_qt, kind_qs, kind_qt, a_qs, a_qt, val_qs, val_qt, purse_qs, purse_qt, dr_qs, dr_qt, step_qs, step_qt, lit_qs, lit_qt, tick_qs, tick_qt, burnt_qs, burnt_qt, high_qs, high_qt, holder_qs, holder_qt, z_qs, gI_eq, gI_ne, gL_pI, gI_pL]; exact n0
  · simp (disch := omega) only [n_qs, n_qt, wax_qs, wax_qt, worth_qs, worth_qt, sold_qs, sold_qt, price_qs, price_qt, buyer_qs, buyer_qt, m_qs, m_qt, kind_qs, kind_qt, a_qs, a_qt, val_qs, val_qt, purse_qs, purse_qt, dr_qs, dr_qt, step_qs, step_qt, lit_qs, lit_qt, tick_qs, tick_qt, burnt_qs, burnt_qt, high_qs, high_qt, holder_qs, holder_qt, z_qs, gI_eq, gI_ne, gL_pI, gI_pL]
  · simp (disch := omega) only [n_qs, n_qt, wax_qs, wax_qt, worth_qs, worth_qt, sold_qs, sold_qt, price_qs, price_qt, buyer_qs, buyer_qt, m_qs, m_qt, kind_qs, kind_qt, a_qs, a_qt, val_qs, val_qt, purse_qs, purse_qt, dr_qs, dr_qt, step_qs, step_qt, lit_qs, lit_qt, tick_qs, tick_qt, burnt_qs, burnt_qt, high_qs, high_qt, holder_qs, holder_qt, z_qs, gI_eq, gI_ne, gL_pI, gI_pL]
  · simp (disch := omega) only [n_qs, n_qt, wax_qs, wax_qt, worth_qs, worth_qt, sold_qs, sold_qt, price_qs, price_qt, buyer_qs, buyer_qt, m_qs, m_qt, kind_qs, kind_qt, a_qs, a_qt, val_qs, val_qt, purse_qs, purse_qt, dr_qs, dr_qt, step_qs, step_qt, lit_qs, lit_qt, tick_qs, tick_qt, burnt_qs, burnt_qt, high_qs, high_qt, holder_qs, holder_qt, z_qs, gI_eq, gI_ne, gL_pI, gI_pL]; exact n3
  · simp (disch := omega) only [n_qs, n_qt, wax_qs, wax_qt, worth_qs, worth_qt, sold_qs, sold_qt, price_qs, price_qt, buyer_qs, buyer_qt, m_qs, m_qt, kind_qs, kind_qt, a_qs, a_qt, val_qs, val_qt, purse_qs, purse_qt, dr_qs, dr_qt, step_qs, step_qt, lit_qs, lit_qt, tick_qs, tick_qt, burnt_qs, burnt_qt, high_qs, high_qt, holder_qs, holder_qt, z_qs, gI_eq, gI_ne, gL_pI, gI_pL]; exact n4
  · simp (disch := omega) only [n_qs, n_qt, wax_qs, wax_qt, worth_qs, worth_qt, sold_qs, sold_qt, price_qs, price_qt, buyer_qs, buyer_qt, m_qs, m_qt, kind_qs, kind_qt, a_qs, a_qt, val_qs, val_qt, purse_qs, purse_qt, dr_qs, dr_qt, step_qs, step_qt, lit_qs, lit_qt, tick_qs, tick_qt, burnt_qs, burnt_qt, high_qs, high_qt, holder_qs, holder_qt, z_qs, gI_eq, gI_ne, gL_pI, gI_pL]; exact n5 b hb
/-- behind the bids -/
theorem cl_tail (hh : h = 1 ∨ h = 16 ∨ h = 31 ∨ h = 49) (L : Liv q) (C : CH h q σ) : ∃ σ', Fr (FH h) σ σ' ∧ (outq (burnq q) → CH h (sellq (burnq q)) σ') ∧ (¬ outq (burnq q) → CH h (burnq q) σ') ∧ (∀ rec, F_X2_goOneTick_N_2 h rec (nI q.m) σ = some σ') ∧ (∀ k rec, F_X2_goOneTick_2 h k rec (nI q.m) σ = some σ') := by
  have D := CH_burn L C
  have B := burns_le L.1.2.2.1
  have hn := L.1.1.1
  have hm := L.1.2.1.1
  have hL := L.2
  have o4 := L.1.2.2.2.2.2.1
  have o5 := L.1.2.2.2.2.2.2.1 hL
  have ol := L.1.1.2 _ hL
  obtain ⟨⟨c1, c3, c5, c6, c7, c8⟩, cd, cl, cb⟩ := id C
  obtain ⟨c8, c9, c10, c11⟩ := c8 (by omega)
  have K := cl_burns hh (by omega) c8 cd
  obtain ⟨⟨d1, d3, d5, d6, d7, d8⟩, dd, dl, db⟩ := id D
  have E := cl_burning (q := burnq q) hh hn hL d1 d7
  have E : f_X2_burning h (pI (pI σ h 9 (nI (q.burnt + burns q))) h 8 (nI (q.tick + 1))) = some (some (h + 4 + q.lit), pI (pI σ h 9 (nI (q.burnt + burns q))) h 8 (nI (q.tick + 1))) := E
  have w0 := (cl.1 q.lit hL).1
  have y9 : gI (pI (pI σ h 9 (nI (q.burnt + burns q))) h 8 (nI (q.tick + 1))) h 9 = nI (q.burnt + burns q) := by simp (disch := omega) only [gI_eq, gI_ne, gL_pI, gI_pL]
  have y0 : gI (pI (pI σ h 9 (nI (q.burnt + burns q))) h 8 (nI (q.tick + 1))) (h + 4 + q.lit) 0 = nI (q.wax q.lit) := by simp (disch := omega) only [gI_eq, gI_ne, gL_pI, gI_pL]; exact w0
  have F1 : Fr (FH h) σ (pI (pI σ h 9 (nI (q.burnt + burns q))) h 8 (nI (q.tick + 1))) := Fr_pI _ (Fr_pI _ (Fr_rfl _ _) ⟨by omega, by omega⟩) ⟨by omega, by omega⟩
  by_cases e : q.wax q.lit ≤ q.burnt + burns q
  · obtain ⟨σ2, p1, p2, p3⟩ := cl_putOut (q := burnq q) hh (burnq_okx L) hL D
    refine ⟨σ2, Fr_tr F1 p3, fun _ => p2, fun n => absurd e n, fun rec => ?_, fun k rec => ?_⟩
    · simp (disch := omega) only [F_X2_goOneTick_N_2, nI_lit, nI_addE, bd1_s, bd2_s, onrN, onrS, grd_t, grd_T, gI_ne, ltT, ltF, leT, leF, eqT, eqF, ↓reduceIte, c3, K, c9, c8, E, grd_lot hh, y9, y0, w0, nI_leE, nI_ltE, p1]
    · simp (disch := omega) only [F_X2_goOneTick_2, nI_lit, nI_addE, bd1_s, bd2_s, onrN, onrS, grd_t, grd_T, gI_ne, ltT, ltF, leT, leF, eqT, eqF, ↓reduceIte, c3, K, c9, c8, E, grd_lot hh, y9, y0, w0, nI_leE, nI_ltE, p1]
  · refine ⟨_, F1, fun c => absurd c e, fun _ => D, fun rec => ?_, fun k rec => ?_⟩
    · simp (disch := omega) only [F_X2_goOneTick_N_2, nI_lit, nI_addE, bd1_s, bd2_s, onrN, onrS, grd_t, grd_T, gI_ne, ltT, ltF, leT, leF, eqT, eqF, ↓reduceIte, c3, K, c9, c8, E, grd_lot hh, y9, y0, w0, nI_leE, nI_ltE]
    · simp (disch := omega) only [F_X2_goOneTick_2, nI_lit, nI_addE, bd1_s, bd2_s, onrN, onrS, grd_t, grd_T, gI_ne, ltT, ltF, leT, leF, eqT, eqF, ↓reduceIte, c3, K, c9, c8, E, grd_lot hh, y9, y0, w0, nI_leE, nI_ltE]
theorem cl_tickN (hh : h = 1 ∨ h = 16 ∨ h = 31 ∨ h = 49) {x : HQ × Lg} (L : Liv x.1) (C : CH h x.1 σ) : ∃ σ', f_X2_goOneTick_N h σ = some σ' ∧ Fr (FH h) σ σ' ∧ (outq (tickq 9 x).1 → CH h (sellq (tickq 9 x).1) σ') ∧ (¬ outq (tickq 9 x).1 → CH h (tickq 9 x).1 σ') := by
  have hm := L.1.2.1.1
  obtain ⟨σ1, rec, r1, r2, r3⟩ := cl_bidsN hh x.1.m 0 x σ FU (by omega) (FU_lt (by omega)) L C
  have V := bids_liv (s := 9) x.1.m 0 x L (by omega)
  obtain ⟨σ2, t1, t2, t3, t4, -⟩ := cl_tail hh V.1 r1
  refine ⟨σ2, ?_, Fr_tr r2 t1, t2, t3⟩
  have t4 := t4 rec
  rw [V.2.2.1] at t4
  exact r3.trans t4
theorem cl_tickR {k : Nat} (hk : k = 74 ∨ k = 76) (hh : h = 1 ∨ h = 16 ∨ h = 31 ∨ h = 49) {x : HQ × Lg} (L : Liv x.1) (C : CH h x.1 σ) (G : LC k x.2 σ) : ∃ σ', f_X2_goOneTick h k σ = some σ' ∧ Fr (fun c i => FH h c i ∨ c = k ∨ c = k + 1) σ σ' ∧ LC k (tickq 9 x).2 σ' ∧ (outq (tickq 9 x).1 → CH h (sellq (tickq 9 x).1) σ') ∧ (¬ outq (tickq 9 x).1 → CH h (tickq 9 x).1 σ') := by
  have hm := L.1.2.1.1
  obtain ⟨σ1, rec, r1, r2, r3, r4⟩ := cl_bidsR hk hh x.1.m 0 x σ FU (by omega) (FU_lt (by omega)) L C G
  have V := bids_liv (s := 9) x.1.m 0 x L (by omega)
  obtain ⟨σ2, t1, t2, t3, -, t4⟩ := cl_tail hh V.1 r1
  refine ⟨σ2, ?_, Fr_tr r3 (Fr_mono t1 fun c i w => .inl w), ?_, t2, t3⟩
  · have t4 := t4 k rec
    rw [V.2.2.1] at t4
    exact r4.trans t4
  · obtain ⟨l0, l1, l2⟩ := r2
    refine ⟨l0, ?_, fun j hj => ?_⟩
    · rw [t1.1 k 1 (by unfold FH; omega)]; exact l1
    · rw [t1.1 (k + 1) j (by unfold FH; omega)]; exact l2 j hj
def FM (o k i : Nat) : Prop := (k = 104 ∧ o ≤ i) ∨ k = 113 ∨ (k = 94 ∧ i = 35)
theorem md_bids {s : Nat} (hs : s ≤ 9) (ho : o ≤ 11) : ∀ (d i : Nat) (x : HQ × Lg) (σ : Mem) (fuel : Nat), i + d = x.1.m → d < fuel → Liv x.1 → x.1.tick ≤ 9999 → gI σ 94 13 = nI o → gI σ 94 33 = mE s → MH o x.1 σ → LM x.2 σ → ∃ σ1 rec, MH o (bidsR s d i x).1 σ1 ∧ LM (bidsR s d i x).2 σ1 ∧ Fr (FM o) σ σ1 ∧ iterF (F_X10_tickGoes_2 94) (fun _ _ => none) fuel (nI i) σ = F_X10_tickGoes_2 94 rec (nI x.1.m) σ1 := by
  intro d
  induction d with
  | zero =>
    intro i x σ fuel hi hf L ht at' as' M G
    obtain ⟨f, rfl⟩ : ∃ f, fuel = f + 1 := ⟨fuel - 1, by omega⟩
    have : i = x.1.m := by omega
    subst this
    exact ⟨σ, _, M, G, Fr_rfl _ _, rfl⟩
  | succ d ih =>
    intro i x σ fuel hi hf L ht at' as' M G
    obtain ⟨q, g⟩ := x
    have hi : i + (d + 1) = q.m := hi
    have L : Liv q := L
    have M : MH o q σ := M
    have G : LM g σ := G
    have ht : q.tick ≤ 9999 := ht
    have hb : i < q.m := by omega
    obtain ⟨f, rfl⟩ : ∃ f, fuel = f + 1 := ⟨fuel - 1, by omega⟩
    have hm := L.1.2.1.1
    have A := bid1_liv (s := s) (g := g) L hb
    have K := md_call L.1 L.2 hb ho at' ht M
    have kl := callv_le' L hb
    have m8 := M.1.2.1
    show ∃ σ1 rec, MH o (bidsR s d (i + 1) (bid1 s (q, g) i)).1 σ1 ∧ LM (bidsR s d (i + 1) (bid1 s (q, g) i)).2 σ1 ∧ Fr (FM o) σ σ1 ∧ F_X10_tickGoes_2 94 (iterF (F_X10_tickGoes_2 94) (fun _ _ => none) f) (nI i) σ = F_X10_tickGoes_2 94 rec (nI q.m) σ1
    by_cases es : i = s
    · have e1 : bid1 s (q, g) i = (q, g) := by
        unfold bid1
        rw [if_pos es]
      rw [e1]
      obtain ⟨σ1, rec, r1, r2, r3, r4⟩ := ih (i + 1) (q, g) σ f (by show i + 1 + d = q.m; omega) (by omega) L ht at' as' M G
      refine ⟨σ1, rec, r1, r2, r3, Eq.trans ?_ r4⟩
      simp (disch := omega) only [F_X10_tickGoes_2, nI_lit, nI_addE, nI_mulE, nI_ltE, nI_leE, nI_eqE, nI_eqN, nI_Neq, nI_ltN, nI_Nlt, nI_leN, nI_Nle, nI_NeN, nI_subE, bd1_s, bd2_s, onrN, onrS, grd_t, grd_T, gI_eq, gI_ne, gL_pI, gI_pL, ltT, ltF, leT, leF, eqT, eqF, if_true, if_false, true_or, or_true, ite_true, ite_false, and_true, true_and, and_false, false_and, not_false_eq_true, not_true_eq_false, ↓reduceIte, in_eq, Nat.reduceAdd, Nat.reduceMul, Nat.zero_add, cE_f, cE_t, mE_f, mE_t, within_ok, ne_eq, m8, as']
    · have ns : (nI i = mE s) = False := by
        by_cases e9 : s = 9 <;> simp (disch := omega) only [nI_lit, nI_addE, nI_mulE, nI_ltE, nI_leE, nI_eqE, nI_eqN, nI_Neq, nI_ltN, nI_Nlt, nI_leN, nI_Nle, nI_NeN, nI_subE, bd1_s, bd2_s, onrN, onrS, grd_t, grd_T, gI_eq, gI_ne, gL_pI, gI_pL, ltT, ltF, leT, leF, eqT, eqF, if_true, if_false, true_or, or_true, ite_true, ite_false, and_true, true_and, and_false, false_and, not_false_eq_true, not_true_eq_false, ↓reduceIte, in_eq, Nat.reduceAdd, Nat.reduceMul, Nat.zero_add, cE_f, cE_t, mE_f, mE_t, within_ok, ne_eq]
      by_cases e : callv q i = 0
      · have e1 : bid1 s (q, g) i = (q, g) := by
          unfold bid1
          rw [if_neg es, if_pos e]
        rw [e1]
        obtain ⟨σ1, rec, r1, r2, r3, r4⟩ := ih (i + 1) (q, g) σ f (by show i + 1 + d = q.m; omega) (by omega) L ht at' as' M G
        refine ⟨σ1, rec, r1, r2, r3, Eq.trans ?_ r4⟩
        simp (disch := omega) only [F_X10_tickGoes_2, nI_lit, nI_addE, nI_mulE, nI_ltE, nI_leE, nI_eqE, nI_eqN, nI_Neq, nI_ltN, nI_Nlt, nI_leN, nI_Nle, nI_NeN, nI_subE, bd1_s, bd2_s, onrN, onrS, grd_t, grd_T, gI_eq, gI_ne, gL_pI, gI_pL, ltT, ltF, leT, leF, eqT, eqF, if_true, if_false, true_or, or_true, ite_true, ite_false, and_true, true_and, and_false, false_and, not_false_eq_true, not_true_eq_false, ↓reduceIte, in_eq, Nat.reduceAdd, Nat.reduceMul, Nat.zero_add, cE_f, cE_t, mE_f, mE_t, within_ok, ne_eq, m8, as', ns, K, e]
      · have e1 : bid1 s (q, g) i = (takes q i (callv q i), lnote g q.tick i (callv q i)) := by
          unfold bid1
          rw [if_neg es, if_neg e]
        rw [e1] at A ⊢
        have M1 := MH_take (v := callv q i) L hb M
        have at1 : gI (pI (pI σ 104 (o + 4) (nI i)) 104 (o + 3) (nI (callv q i))) 94 13 = nI o := by simp (disch := omega) only [gI_eq, gI_ne, gL_pI, gI_pL]; exact at'
        have G1 : LM g (pI (pI σ 104 (o + 4) (nI i)) 104 (o + 3) (nI (callv q i))) := by
          obtain ⟨l0, l1, l2⟩ := G
          refine ⟨l0, ?_, fun j hj => ?_⟩
          · simp (disch := omega) only [gI_eq, gI_ne, gL_pI, gI_pL]; exact l1
          · simp (disch := omega) only [gI_eq, gI_ne, gL_pI, gI_pL]; exact l2 j hj
        obtain ⟨σ0, p1, p2, p3⟩ := LM_note (b := i) (v := callv q i) G1 ho at1 M1
        have at2 : gI σ0 94 13 = nI o := (p3.1 94 13 (by omega)).trans at1
        have as2 : gI σ0 94 33 = mE s := by
          rw [p3.1 94 33 (by omega)]
          simp (disch := omega) only [gI_eq, gI_ne, gL_pI, gI_pL]; exact as'
        have M2 : MH o (takes q i (callv q i)) σ0 := MH_fr M1 (fun c j w => p3.1 c j (by omega))
        obtain ⟨σ1, rec, r1, r2, r3, r4⟩ := ih (i + 1) (takes q i (callv q i), lnote g q.tick i (callv q i)) σ0 f (by show i + 1 + d = q.m; omega) (by omega) A.1 ht at2 as2 M2 p2
        refine ⟨σ1, rec, r1, r2, Fr_tr (Fr_pI _ (Fr_pI _ (Fr_rfl _ _) (.inl ⟨rfl, by omega⟩)) (.inl ⟨rfl, by omega⟩)) (Fr_tr (Fr_mono p3 (fun c i w => by unfold FM; omega)) r3), Eq.trans ?_ r4⟩
        simp (disch := omega) only [F_X10_tickGoes_2, f_X10_becomes, nI_lit, nI_addE, nI_mulE, nI_ltE, nI_leE, nI_eqE, nI_eqN, nI_Neq, nI_ltN, nI_Nlt, nI_leN, nI_Nle, nI_NeN, nI_subE, bd1_s, bd2_s, onrN, onrS, grd_t, grd_T, gI_eq, gI_ne, gL_pI, gI_pL, ltT, ltF, leT, leF, eqT, eqF, if_true, if_false, true_or, or_true, ite_true, ite_false, and_true, true_and, and_false, false_and, not_false_eq_true, not_true_eq_false, ↓reduceIte, in_eq, Nat.reduceAdd, Nat.reduceMul, Nat.zero_add, cE_f, cE_t, mE_f, mE_t, within_ok, ne_eq, m8, as', ns, K, ixo_95, ixo_96, ixo_97, ixo_98, ixo_99, ixo_100, ixo_101, ixo_102, ixo_103, ixo_104, ixo_105, ixo_106, ixo_107, ixo_108, ixo_109, ixo_110, ixo_111, ixo_112, ixo_113, ixo_114, ixo_115, ixo_116, ixo_117, ixo_118, ixo_119, ixo_120, ixo_121, ixo_122, ixo_123, ixo_124, ixo_125, ixo_126, at', p1]
theorem md_tail (ho : o ≤ 11) (L : Liv q) (at' : gI σ 94 13 = nI o) (M : MH o q σ) : ∃ σ' v, v ≤ 1 ∧ (outq (burnq q) → v = 1) ∧ (¬ outq (burnq q) → v = 0) ∧ MH o (burnq q) σ' ∧ Fr (fun k i => k = 104 ∧ o ≤ i) σ σ' ∧ ∀ rec, F_X10_tickGoes_2 94 rec (nI q.m) σ = some (nI v, σ') := by
  have D := MH_burn L M
  have B := burns_le L.1.2.2.1
  have hn := L.1.1.1
  have hm := L.1.2.1.1
  have hL := L.2
  have o4 := L.1.2.2.2.2.2.1
  have o5 := L.1.2.2.2.2.2.2.1 hL
  have ol := L.1.1.2 _ hL
  have m8 := M.1.2.1
  obtain ⟨n0, n1, n2, n3, n4, n5⟩ := id M.2.1
  have w0 := (M.2.2.2.1 q.lit hL).1
  have K := md_burns (by omega) ho at' M.2.1 M.2.2.1
  by_cases e : q.wax q.lit ≤ q.burnt + burns q
  · refine ⟨_, 1, Nat.le_refl 1, fun _ => rfl, fun n => absurd e n, D, Fr_pI _ (Fr_pI _ (Fr_rfl _ _) ⟨rfl, by omega⟩) ⟨rfl, by omega⟩, fun rec => ?_⟩
    simp (disch := omega) only [F_X10_tickGoes_2, f_X10_its, f_X10_becomes, nI_lit, nI_addE, nI_mulE, nI_ltE, nI_leE, nI_eqE, nI_eqN, nI_Neq, nI_ltN, nI_Nlt, nI_leN, nI_Nle, nI_NeN, nI_subE, bd1_s, bd2_s, onrN, onrS, grd_t, grd_T, gI_eq, gI_ne, gL_pI, gI_pL, ltT, ltF, leT, leF, eqT, eqF, if_true, if_false, true_or, or_true, ite_true, ite_false, and_true, true_and, and_false, false_and, not_false_eq_true, not_true_eq_false, ↓reduceIte, in_eq, Nat.reduceAdd, Nat.reduceMul, Nat.zero_add, cE_f, cE_t, mE_f, mE_t, within_ok, ne_eq, m8, ixo_95, ixo_96, ixo_97, ixo_98, ixo_99, ixo_100, ixo_101, ixo_102, ixo_103, ixo_104, ixo_105, ixo_106, ixo_107, ixo_108, ixo_109, ixo_110, ixo_111, ixo_112, ixo_113, ixo_114, ixo_115, ixo_116, ixo_117, ixo_118, ixo_119, ixo_120, ixo_121, ixo_122, ixo_123, ixo_124, ixo_125, ixo_126, at', n0, n1, n2, K, Nat.add_zero, w0]
  · refine ⟨_, 0, Nat.zero_le 1, fun c => absurd c e, fun _ => rfl, D, Fr_pI _ (Fr_pI _ (Fr_rfl _ _) ⟨rfl, by omega⟩) ⟨rfl, by omega⟩, fun rec => ?_⟩
    simp (disch := omega) only [F_X10_tickGoes_2, f_X10_its, f_X10_becomes, nI_lit, nI_addE, nI_mulE, nI_ltE, nI_leE, nI_eqE, nI_eqN, nI_Neq, nI_ltN, nI_Nlt, nI_leN, nI_Nle, nI_NeN, nI_subE, bd1_s, bd2_s, onrN, onrS, grd_t, grd_T, gI_eq, gI_ne, gL_pI, gI_pL, ltT, ltF, leT, leF, eqT, eqF, if_true, if_false, true_or, or_true, ite_true, ite_false, and_true, true_and, and_false, false_and, not_false_eq_true, not_true_eq_false, ↓reduceIte, in_eq, Nat.reduceAdd, Nat.reduceMul, Nat.zero_add, cE_f, cE_t, mE_f, mE_t, within_ok, ne_eq, m8, ixo_95, ixo_96, ixo_97, ixo_98, ixo_99, ixo_100, ixo_101, ixo_102, ixo_103, ixo_104, ixo_105, ixo_106, ixo_107, ixo_108, ixo_109, ixo_110, ixo_111, ixo_112, ixo_113, ixo_114, ixo_115, ixo_116, ixo_117, ixo_118, ixo_119, ixo_120, ixo_121, ixo_122, ixo_123, ixo_124, ixo_125, ixo_126, at', n0, n1, n2, K, Nat.add_zero, w0]
theorem md_tick {s : Nat} (hs : s ≤ 9) (ho : o ≤ 11) {x : HQ × Lg} (L : Liv x.1) (at' : gI σ 94 13 = nI o) (as' : gI σ 94 33 = mE s) (M : MH o x.1 σ) (G : LM x.2 σ) : ∃ σ' v, f_X10_tickGoes 94 σ = some (nI v, σ') ∧ v ≤ 1 ∧ (outq (tickq s x).1 → v = 1) ∧ (¬ outq (tickq s x).1 → v = 0) ∧ MH o (tickq s x).1 σ' ∧ LM (tickq s x).2 σ' ∧ Fr (FM o) σ σ' := by
  have hm := L.1.2.1.1
  have hL := L.2
  have o4 := L.1.2.2.2.2.2.1
  have o5 := L.1.2.2.2.2.2.2.1 hL
  have ol := L.1.1.2 _ hL
  obtain ⟨σ1, rec, r1, r2, r3, r4⟩ := md_bids hs ho x.1.m 0 x σ FU (by omega) (FU_lt (by omega)) L (by omega) at' as' M G
  have V := bids_liv (s := s) x.1.m 0 x L (by omega)
  have at1 : gI σ1 94 13 = nI o := (r3.1 94 13 (by unfold FM; omega)).trans at'
  obtain ⟨σ2, v, t1, t2, t3, t4, t5, t6⟩ := md_tail ho V.1 at1 r1
  refine ⟨σ2, v, ?_, t1, t2, t3, t4, LM_fr r2 (fun k i c => t5.1 k i (by omega)), Fr_tr r3 (Fr_mono t5 fun k i c => .inl c)⟩
  have t6 := t6 rec
  rw [V.2.2.1] at t6
  exact r4.trans t6
end
