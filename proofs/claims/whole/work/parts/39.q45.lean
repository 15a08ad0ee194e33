/-! bids and ticks, told once -/
def lnote (g : Lg) (t b v : Nat) : Lg := if g.1 < 20 then (g.1 + 1, fun j => if j = 3 * g.1 then t else if j = 3 * g.1 + 1 then b else if j = 3 * g.1 + 2 then v else g.2 j) else g
def bid1 (s : Nat) (x : HQ × Lg) (b : Nat) : HQ × Lg := if b = s then x else if callv x.1 b = 0 then x else (takes x.1 b (callv x.1 b), lnote x.2 x.1.tick b (callv x.1 b))
def bidsR (s : Nat) : Nat → Nat → HQ × Lg → HQ × Lg
  | 0, _, x => x
  | d + 1, i, x => bidsR s d (i + 1) (bid1 s x i)
def burnq (q : HQ) : HQ := qs (qs q 15 0 (q.burnt + burns q)) 14 0 (q.tick + 1)
def tickq (s : Nat) (x : HQ × Lg) : HQ × Lg := (burnq (bidsR s x.1.m 0 x).1, (bidsR s x.1.m 0 x).2)
def Liv (q : HQ) : Prop := q.Ok ∧ q.lit < q.n
def Same (q q' : HQ) : Prop := q'.n = q.n ∧ q'.m = q.m ∧ q'.lit = q.lit ∧ q'.tick = q.tick ∧ q'.burnt = q.burnt ∧ q'.step = q.step ∧ q'.2 = q.2 ∧ (∀ f i, f ≠ 16 → f ≠ 17 → q'.1 f i = q.1 f i)
def LC (k : Nat) (g : Lg) (σ : Mem) : Prop := g.1 ≤ 20 ∧ gI σ k 1 = nI g.1 ∧ ∀ j, j < 3 * g.1 → gI σ (k + 1) j = nI (g.2 j)
section
variable {q : HQ} {σ : Mem} {h o b v : Nat}
theorem same_rfl (q : HQ) : Same q q := ⟨rfl, rfl, rfl, rfl, rfl, rfl, rfl, fun _ _ _ _ => rfl⟩
theorem same_tr {a b c : HQ} (h : Same a b) (g : Same b c) : Same a c := by
  obtain ⟨h1, h2, h3, h4, h5, h6, h7, h8⟩ := h
  obtain ⟨g1, g2, g3, g4, g5, g6, g7, g8⟩ := g
  exact ⟨g1.trans h1, g2.trans h2, g3.trans h3, g4.trans h4, g5.trans h5, g6.trans h6, g7.trans h7, fun f i a b => (g8 f i a b).trans (h8 f i a b)⟩
theorem takes_same (q : HQ) (b v : Nat) : Same q (takes q b v) := ⟨rfl, rfl, rfl, rfl, rfl, rfl, rfl, fun f i h1 h2 => by
  unfold takes qs
  show (if f = 16 ∧ i = 0 then v else if f = 17 ∧ i = 0 then b else q.1 f i) = _
  rw [if_neg (by omega), if_neg (by omega)]⟩
theorem takes_liv (L : Liv q) (hb : b < q.m) (hv : v ≤ 9999) : Liv (takes q b v) := by
  obtain ⟨⟨ol, ob, o1, o2, o3, o4, o5, o6, o7, o8⟩, hl⟩ := L
  have hn := ol.1
  refine ⟨⟨ol, ob, o1, o2, o3, o4, o5, hv, .inl hb, fun e => ?_⟩, hl⟩
  have e : q.lit = 9 := e
  omega
theorem callv_le' (L : Liv q) (hb : b < q.m) : callv q b ≤ 9999 := callv_le L.1.2.1 hb (L.1.1.2 _ L.2).2.1.2
theorem bid1_liv {s : Nat} {g : Lg} (L : Liv q) (hb : b < q.m) : Liv (bid1 s (q, g) b).1 ∧ Same q (bid1 s (q, g) b).1 := by
  unfold bid1
  split
  · exact ⟨L, same_rfl _⟩
  · split
    · exact ⟨L, same_rfl _⟩
    · exact ⟨takes_liv L hb (callv_le' L hb), takes_same _ _ _⟩
theorem lnote_le {g : Lg} {t b v : Nat} (h : g.1 ≤ 20) : (lnote g t b v).1 ≤ 20 := by
  unfold lnote
  split
  · show g.1 + 1 ≤ 20; omega
  · exact h
theorem bids_liv {s : Nat} : ∀ (d i : Nat) (x : HQ × Lg), Liv x.1 → i + d ≤ x.1.m → Liv (bidsR s d i x).1 ∧ Same x.1 (bidsR s d i x).1 := by
  intro d
  induction d with
  | zero => intro i x L _; exact ⟨L, same_rfl _⟩
  | succ d ih =>
    intro i x L hi
    obtain ⟨q, g⟩ := x
    have A := bid1_liv (s := s) (g := g) L (by show i < q.m; have : i + (d + 1) ≤ q.m := hi; omega)
    have B := ih (i + 1) (bid1 s (q, g) i) A.1 (by rw [A.2.2.1]; have : i + (d + 1) ≤ q.m := hi; omega)
    exact ⟨B.1, same_tr A.2 B.2⟩
theorem CH_take (L : Liv q) (hb : b < q.m) (C : CH h q σ) : CH h (takes q b v) (pI (pI σ h 10 (nI v)) h 11 (nI b)) := by
  have hn := L.1.1.1
  have hm := L.1.2.1.1
  have hl := L.2
  obtain ⟨⟨c1, c3, c5, c6, c7, c8⟩, cd, cl, cb⟩ := C
  obtain ⟨c8, c9, c10, c11⟩ := c8 (by omega)
  unfold takes
  refine ⟨⟨?_, ?_, ?_, ?_, ?_, fun _ => ⟨?_, ?_, ?_, ?_⟩⟩, CHd_c cd (fun _ => rfl) (by intros; simp (disch := omega) only [gI_ne, gI_eq]), CHl_c cl hn rfl (fun _ => ⟨rfl, rfl, rfl, rfl, rfl⟩) (by intros; simp (disch := omega) only [gI_ne, gI_eq]), CHb_c cb hm rfl (fun _ => ⟨rfl, rfl, rfl, rfl⟩) (by intros; simp (disch := omega) only [gI_ne, gI_eq])⟩
  · simp (disch := omega) only [n_qs, n_qt, wax_qs, wax_qt, worth_qs, worth_qt, sold_qs, sold_qt, price_qs, price_qt, buyer_qs, buyer_qt, m_qs, m_qt, kind_qs, kind_qt, a_qs, a_qt, val_qs, val_qt, purse_qs, purse_qt, dr_qs, dr_qt, step_qs, step_qt, lit_qs, lit_qt, tick_qs, tick_qt, burnt_qs, burnt_qt, high_qs, high_qt, holder_qs, holder_qt, z_qs, gI_eq, gI_ne, gL_pI, gI_pL]; exact c1
  · simp (disch := omega) only [n_qs, n_qt, wax_qs, wax_qt, worth_qs, worth_qt, sold_qs, sold_qt, price_qs, price_qt, buyer_qs, buyer_qt, m_qs, m_qt, kind_qs, kind_qt, a_qs, a_qt, val_qs, val_qt, purse_qs, purse_qt, dr_qs, dr_qt, step_qs, step_qt, lit_qs, lit_qt, tick_qs, tick_qt, burnt_qs, burnt_qt, high_qs, high_qt, holder_qs, holder_qt, z_qs, gI_eq, gI_ne, gL_pI, gI_pL]; exact c3
  · simp (disch := omega) only [n_qs, n_qt, wax_qs, wax_qt, worth_qs, worth_qt, sold_qs, sold_qt, price_qs, price_qt, buyer_qs, buyer_qt, m_qs, m_qt, kind_qs, kind_qt, a_qs, a_qt, val_qs, val_qt, purse_qs, purse_qt, dr_qs, dr_qt, step_qs, step_qt, lit_qs, lit_qt, tick_qs, tick_qt, burnt_qs, burnt_qt, high_qs, high_qt, holder_qs, holder_qt, z_qs, gI_eq, gI_ne, gL_pI, gI_pL]; exact c5
  · simp (disch := omega) only [n_qs, n_qt, wax_qs, wax_qt, worth_qs, worth_qt, sold_qs, sold_qt, price_qs, price_qt, buyer_qs, buyer_qt, m_qs, m_qt, kind_qs, kind_qt, a_qs, a_qt, val_qs, val_qt, purse_qs, purse_qt, dr_qs, dr_qt, step_qs, step_qt, lit_qs, lit_qt, tick_qs, tick_qt, burnt_qs, burnt_qt, high_qs, high_qt, holder_qs, holder_qt, z_qs, gI_eq, gI_ne, gL_pI, gI_pL]; exact c6
  · simp (disch := omega) only [n_qs, n_qt, wax_qs, wax_qt, worth_qs, worth_qt, sold_qs, sold_qt, price_qs, price_qt, buyer_qs, buyer_qt, m_qs, m_qt, kind_qs, kind_qt, a_qs, a_qt, val_qs, val_qt, purse_qs, purse_qt, dr_qs, dr_qt, step_qs, step_qt, lit_qs, lit_qt, tick_qs, tick_qt, burnt_qs, burnt_qt, high_qs, high_qt, holder_qs, holder_qt, z_qs, gI_eq, gI_ne, gL_pI, gI_pL]; exact c7
  · simp (disch := omega) only [n_qs, n_qt, wax_qs, wax_qt, worth_qs, worth_qt, sold_qs, sold_qt, price_qs, price_qt, buyer_qs, buyer_qt, m_qs, m_qt, kind_qs, kind_qt, a_qs, a_qt, val_qs, val_qt, purse_qs, purse_qt, dr_qs, dr_qt, step_qs, step_qt, lit_qs, lit_qt, tick_qs, tick_qt, burnt_qs, burnt_qt, high_qs, high_qt, holder_qs, holder_qt, z_qs, gI_eq, gI_ne, gL_pI, gI_pL]; exact c8
  · simp (disch := omega) only [n_qs, n_qt, wax_qs, wax_qt, worth_qs, worth_qt, sold_qs, sold_qt, price_qs, price_qt, buyer_qs, buyer_qt, m_qs, m_qt, kind_qs, kind_qt, a_qs, a_qt, val_qs, val_qt, purse_qs, purse_qt, dr_qs, dr_qt, step_qs, step_qt, lit_qs, lit_qt, tick_qs, tick_qt, burnt_qs, burnt_qt, high_qs, high_qt, holder_qs, holder_qt, z_qs, gI_eq, gI_ne, gL_pI, gI_pL]; exact c9
  · simp (disch := omega) only [n_qs, n_qt, wax_qs, wax_qt, worth_qs, worth_qt, sold_qs, sold_qt, price_qs, price_qt, buyer_qs, buyer_qt, m_qs, m_qt, kind_qs, kind_qt, a_qs, a_qt, val_qs, val_qt, purse_qs, purse_qt, dr_qs, dr_qt, step_qs, step_qt, lit_qs, lit_qt, tick_qs, tick_qt, burnt_qs, burnt_qt, high_qs, high_qt, holder_qs, holder_qt, z_qs, gI_eq, gI_ne, gL_pI, gI_pL]
  · simp (disch := omega) only [n_qs, n_qt, wax_qs, wax_qt, worth_qs, worth_qt, sold_qs, sold_qt, price_qs, price_qt, buyer_qs, buyer_qt, m_qs, m_qt, kind_qs, kind_qt, a_qs, a_qt, val_qs, val_qt, purse_qs, purse_qt, dr_qs, dr_qt, step_qs, step_qt, lit_qs, lit_qt, tick_qs, tick_qt, burnt_qs, burnt_qt, high_qs, high_qt, holder_qs, holder_qt, z_qs, gI_eq, gI_ne, gL_pI, gI_pL]; exact (cE_f (by omega)).symm
theorem MH_take (L : Liv q) (hb : b < q.m) (M : MH o q σ) : MH o (takes q b v) (pI (pI σ 104 (o + 4) (nI b)) 104 (o + 3) (nI v)) := by
  have hm := L.1.2.1.1
  obtain ⟨ms, ⟨n0, n1, n2, n3, n4, n5⟩, md, ml, mb⟩ := M
  unfold takes
  refine ⟨MHs_c ms ⟨rfl, rfl, rfl, rfl⟩ ⟨(by intros; simp (disch := omega) only [gI_ne, gI_eq]), (by intros; simp (disch := omega) only [gI_ne, gI_eq]), (by intros; simp (disch := omega) only [gI_ne, gI_eq]), (by intros; simp (disch := omega) only [gI_ne, gI_eq])⟩, ⟨?_, ?_, ?_, ?_, ?_, fun b hb => ?_⟩, MHd_c md (fun _ => rfl) (by intros; simp (disch := omega) only [gI_ne, gI_eq]), MHl_c ml rfl (fun _ => ⟨rfl, rfl, rfl, rfl, rfl⟩) (by intros; simp (disch := omega) only [gI_ne, gI_eq]), MHb_c mb rfl (fun _ => ⟨rfl, rfl, rfl⟩) (by intros; simp (disch := omega) only [gI_ne, gI_eq])⟩
  · simp (disch := omega) only [n_qs, n_qt, wax_qs, wax_qt, worth_qs, worth_qt, sold_qs, sold_qt, price_qs, price_qt, buyer_qs, buyer_qt, m_qs, m_qt, kind_qs, kind_qt, a_qs, a_qt, val_qs, val_qt, purse_qs, purse_qt, dr_qs, dr_qt, step_qs, step_qt, lit_qs, lit_qt, tick_qs, tick_qt, burnt_qs, burnt_qt, high_qs, high_qt, holder_qs, holder_qt, z_qs, gI_eq, gI_ne, gL_pI, gI_pL]; exact n0
  · simp (disch := omega) only [n_qs, n_qt, wax_qs, wax_qt, worth_qs, worth_qt, sold_qs, sold_qt, price_qs, price_qt, buyer_qs, buyer_qt, m_qs, m_qt, kind_qs, kind_qt, a_qs, a_qt, val_qs, val_qt, purse_qs, purse_qt, dr_qs, dr_qt, step_qs, step_qt, lit_qs, lit_qt, tick_qs, tick_qt, burnt_qs, burnt_qt, high_qs, high_qt, holder_qs, holder_qt, z_qs, gI_eq, gI_ne, gL_pI, gI_pL]; exact n1
  · simp (disch := omega) only [n_qs, n_qt, wax_qs, wax_qt, worth_qs, worth_qt, sold_qs, sold_qt, price_qs, price_qt, buyer_qs, buyer_qt, m_qs, m_qt, kind_qs, kind_qt, a_qs, a_qt, val_qs, val_qt, purse_qs, purse_qt, dr_qs, dr_qt, step_qs, step_qt, lit_qs, lit_qt, tick_qs, tick_qt, burnt_qs, burnt_qt, high_qs, high_qt, holder_qs, holder_qt, z_qs, gI_eq, gI_ne, gL_pI, gI_pL]; exact n2
  · simp (disch := omega) only [n_qs, n_qt, wax_qs, wax_qt, worth_qs, worth_qt, sold_qs, sold_qt, price_qs, price_qt, buyer_qs, buyer_qt, m_qs, m_qt, kind_qs, kind_qt, a_qs, a_qt, val_qs, val_qt, purse_qs, purse_qt, dr_qs, dr_qt, step_qs, step_qt, lit_qs, lit_qt, tick_qs, tick_qt, burnt_qs, burnt_qt, high_qs, high_qt, holder_qs, holder_qt, z_qs, gI_eq, gI_ne, gL_pI, gI_pL]
  · simp (disch := omega) only [n_qs, n_qt, wax_qs, wax_qt, worth_qs, worth_qt, sold_qs, sold_qt, price_qs, price_qt, buyer_qs, buyer_qt, m_qs, m_qt, kind_qs, kind_qt, a_qs, a_qt, val_qs, val_qt, purse_qs, purse_qt, dr_qs, dr_qt, step_qs, step_qt, lit_qs, lit_qt, tick_qs, tick_qt, burnt_qs, burnt_qt, high_qs, high_qt, holder_qs, holder_qt, z_qs, gI_eq, gI_ne, gL_pI, gI_pL]; exact (mE_f (by omega)).symm
  · simp (disch := omega) only [n_qs, n_qt, wax_qs, wax_qt, worth_qs, worth_qt, sold_qs, sold_qt, price_qs, price_qt, buyer_qs, buyer_qt, m_qs, m_qt, kind_qs, kind_qt, a_qs, a_qt, val_qs, val_qt, purse_qs, purse_qt, dr_qs, dr_qt, step_qs, step_qt, lit_qs, lit_qt, tick_qs, tick_qt, burnt_qs, burnt_qt, high_qs, high_qt, holder_qs, holder_qt, z_qs, gI_eq, gI_ne, gL_pI, gI_pL]; exact n5 b hb
theorem cl_bidsN (hh : h = 1 ∨ h = 16 ∨ h = 31 ∨ h = 49) : ∀ (d i : Nat) (x : HQ × Lg) (σ : Mem) (fuel : Nat), i + d = x.1.m → d < fuel → Liv x.1 → CH h x.1 σ → ∃ σ1 rec, CH h (bidsR 9 d i x).1 σ1 ∧ Fr (FH h) σ σ1 ∧ iterF (F_X2_goOneTick_N_2 h) (fun _ _ => none) fuel (nI i) σ = F_X2_goOneTick_N_2 h rec (nI x.1.m) σ1 := by
  intro d
  induction d with
  | zero =>
    intro i x σ fuel hi hf L C
    obtain ⟨f, rfl⟩ : ∃ f, fuel = f + 1 := ⟨fuel - 1, by omega⟩
    have : i = x.1.m := by omega
    subst this
    exact ⟨σ, _, C, Fr_rfl _ _, rfl⟩
  | succ d ih =>
    intro i x σ fuel hi hf L C
    obtain ⟨q, g⟩ := x
    have hi : i + (d + 1) = q.m := hi
    have L : Liv q := L
    have C : CH h q σ := C
    have hb : i < q.m := by omega
    obtain ⟨f, rfl⟩ : ∃ f, fuel = f + 1 := ⟨fuel - 1, by omega⟩
    have hm := L.1.2.1.1
    have A := bid1_liv (s := 9) (g := g) L hb
    have K := cl_call hh L.1 L.2 hb C
    have kl := callv_le' L hb
    have c3 := C.1.2.1
    show ∃ σ1 rec, CH h (bidsR 9 d (i + 1) (bid1 9 (q, g) i)).1 σ1 ∧ Fr (FH h) σ σ1 ∧ F_X2_goOneTick_N_2 h (iterF (F_X2_goOneTick_N_2 h) (fun _ _ => none) f) (nI i) σ = F_X2_goOneTick_N_2 h rec (nI q.m) σ1
    by_cases e : callv q i = 0
    · have e1 : bid1 9 (q, g) i = (q, g) := by
        unfold bid1
        rw [if_neg (by omega), if_pos e]
      rw [e1]
      obtain ⟨σ1, rec, r1, r2, r3⟩ := ih (i + 1) (q, g) σ f (by show i + 1 + d = q.m; omega) (by omega) L C
      refine ⟨σ1, rec, r1, r2, Eq.trans ?_ r3⟩
      simp (disch := omega) only [F_X2_goOneTick_N_2, nI_lit, nI_addE, nI_mulE, nI_ltE, nI_leE, nI_eqE, nI_eqN, nI_Neq, nI_ltN, nI_Nlt, nI_leN, nI_Nle, nI_NeN, nI_subE, bd1_s, bd2_s, onrN, onrS, grd_t, grd_T, gI_eq, gI_ne, gL_pI, gI_pL, ltT, ltF, leT, leF, eqT, eqF, if_true, if_false, true_or, or_true, ite_true, ite_false, and_true, true_and, and_false, false_and, not_false_eq_true, not_true_eq_false, ↓reduceIte, in_eq, Nat.reduceAdd, Nat.reduceMul, Nat.zero_add, cE_f, cE_t, mE_f, mE_t, within_ok, ne_eq, c3, K, e]
    · have e1 : bid1 9 (q, g) i = (takes q i (callv q i), lnote g q.tick i (callv q i)) := by
        unfold bid1
        rw [if_neg (by omega), if_neg e]
      rw [e1] at A ⊢
      have C1 := CH_take (v := callv q i) L hb C
      obtain ⟨σ1, rec, r1, r2, r3⟩ := ih (i + 1) (takes q i (callv q i), lnote g q.tick i (callv q i)) _ f (by show i + 1 + d = q.m; omega) (by omega) A.1 C1
      refine ⟨σ1, rec, r1, Fr_tr (Fr_pI _ (Fr_pI _ (Fr_rfl _ _) ⟨by omega, by omega⟩) ⟨by omega, by omega⟩) r2, Eq.trans ?_ r3⟩
      simp (disch := omega) only [F_X2_goOneTick_N_2, f_X2_takeCall_IIN, nI_lit, nI_addE, nI_mulE, nI_ltE, nI_leE, nI_eqE, nI_eqN, nI_Neq, nI_ltN, nI_Nlt, nI_leN, nI_Nle, nI_NeN, nI_subE, bd1_s, bd2_s, onrN, onrS, grd_t, grd_T, gI_eq, gI_ne, gL_pI, gI_pL, ltT, ltF, leT, leF, eqT, eqF, if_true, if_false, true_or, or_true, ite_true, ite_false, and_true, true_and, and_false, false_and, not_false_eq_true, not_true_eq_false, ↓reduceIte, in_eq, Nat.reduceAdd, Nat.reduceMul, Nat.zero_add, cE_f, cE_t, mE_f, mE_t, within_ok, ne_eq, c3, K]
theorem LC_note {k : Nat} {g : Lg} {t b v : Nat} (l : LC k g σ) (hk : k = 74 ∨ k = 76) : ∃ σ', f_X4_add k (nI t) (nI b) (nI v) σ = some σ' ∧ LC k (lnote g t b v) σ' ∧ Fr (fun c _ => c = k ∨ c = k + 1) σ σ' := by
  obtain ⟨l0, l1, l2⟩ := l
  unfold f_X4_add lnote
  by_cases e : g.1 < 20
  · have h1 : ixo (k + 1) (nI (g.1 * 3)) = some (g.1 * 3) := by
      rcases hk with rfl | rfl
      · exact ixo_75 (by omega)
      · exact ixo_77 (by omega)
    have h2 : ixo (k + 1) (nI (g.1 * 3 + 1)) = some (g.1 * 3 + 1) := by
      rcases hk with rfl | rfl
      · exact ixo_75 (by omega)
      · exact ixo_77 (by omega)
    have h3 : ixo (k + 1) (nI (g.1 * 3 + 2)) = some (g.1 * 3 + 2) := by
      rcases hk with rfl | rfl
      · exact ixo_75 (by omega)
      · exact ixo_77 (by omega)
    rw [if_pos e]
    refine ⟨pI (pI (pI (pI σ (k + 1) (g.1 * 3) (nI t)) (k + 1) (g.1 * 3 + 1) (nI b)) (k + 1) (g.1 * 3 + 2) (nI v)) k 1 (nI (g.1 + 1)), ?_, ⟨by omega, ?_, fun j hj => ?_⟩, ?_⟩
    · simp (disch := omega) only [nI_lit, nI_addE, nI_mulE, nI_ltE, nI_leE, nI_eqE, nI_eqN, nI_Neq, nI_ltN, nI_Nlt, nI_leN, nI_Nle, nI_NeN, nI_subE, bd1_s, bd2_s, onrN, onrS, grd_t, grd_T, gI_eq, gI_ne, gL_pI, gI_pL, ltT, ltF, leT, leF, eqT, eqF, if_true, if_false, true_or, or_true, ite_true, ite_false, and_true, true_and, and_false, false_and, not_false_eq_true, not_true_eq_false, ↓reduceIte, in_eq, Nat.reduceAdd, Nat.reduceMul, Nat.zero_add, cE_f, cE_t, mE_f, mE_t, within_ok, ne_eq, l1, h1, h2, h3]
    · simp (disch := omega) only [gI_eq, gI_ne, gL_pI, gI_pL]
    · have hj : j < 3 * (g.1 + 1) := hj
      show _ = nI (if j = 3 * g.1 then t else if j = 3 * g.1 + 1 then b else if j = 3 * g.1 + 2 then v else g.2 j)
      by_cases j0 : j = 3 * g.1
      · rw [if_pos j0]; simp (disch := omega) only [gI_eq, gI_ne, gL_pI, gI_pL]
      · rw [if_neg j0]
        by_cases j1 : j = 3 * g.1 + 1
        · rw [if_pos j1]; simp (disch := omega) only [gI_eq, gI_ne, gL_pI, gI_pL]
        · rw [if_neg j1]
          by_cases j2 : j = 3 * g.1 + 2
          · rw [if_pos j2]; simp (disch := omega) only [gI_eq, gI_ne, gL_pI, gI_pL]
          · rw [if_neg j2]; simp (disch := omega) only [gI_eq, gI_ne, gL_pI, gI_pL]; exact l2 j (by omega)
    · repeat (refine Fr_pI _ ?_ (by omega))
      exact Fr_rfl _ _
  · rw [if_neg e]
    refine ⟨σ, ?_, ⟨l0, l1, l2⟩, Fr_rfl _ _⟩
    simp (disch := omega) only [nI_lit, nI_addE, nI_mulE, nI_ltE, nI_leE, nI_eqE, nI_eqN, nI_Neq, nI_ltN, nI_Nlt, nI_leN, nI_Nle, nI_NeN, nI_subE, bd1_s, bd2_s, onrN, onrS, grd_t, grd_T, gI_eq, gI_ne, gL_pI, gI_pL, ltT, ltF, leT, leF, eqT, eqF, if_true, if_false, true_or, or_true, ite_true, ite_false, and_true, true_and, and_false, false_and, not_false_eq_true, not_true_eq_false, ↓reduceIte, in_eq, Nat.reduceAdd, Nat.reduceMul, Nat.zero_add, cE_f, cE_t, mE_f, mE_t, within_ok, ne_eq, l1]
theorem LM_note {g : Lg} {b v : Nat} (l : LM g σ) (ho : o ≤ 11) (at' : gI σ 94 13 = nI o) (M : MH o q σ) : ∃ σ', f_X10_notes 94 (nI b) (nI v) σ = some σ' ∧ LM (lnote g q.tick b v) σ' ∧ Fr (fun c i => c = 113 ∨ (c = 94 ∧ i = 35)) σ σ' := by
  obtain ⟨l0, l1, l2⟩ := l
  have n1 := M.2.1.2.1
  unfold f_X10_notes lnote f_X10_its
  by_cases e : g.1 < 20
  · rw [if_pos e]
    refine ⟨pI (pI (pI (pI σ 113 (3 * g.1) (nI q.tick)) 113 (3 * g.1 + 1) (nI b)) 113 (3 * g.1 + 2) (nI v)) 94 35 (nI (g.1 + 1)), ?_, ⟨by omega, ?_, fun j hj => ?_⟩, ?_⟩
    · simp (disch := omega) only [nI_lit, nI_addE, nI_mulE, nI_ltE, nI_leE, nI_eqE, nI_eqN, nI_Neq, nI_ltN, nI_Nlt, nI_leN, nI_Nle, nI_NeN, nI_subE, bd1_s, bd2_s, onrN, onrS, grd_t, grd_T, gI_eq, gI_ne, gL_pI, gI_pL, ltT, ltF, leT, leF, eqT, eqF, if_true, if_false, true_or, or_true, ite_true, ite_false, and_true, true_and, and_false, false_and, not_false_eq_true, not_true_eq_false, ↓reduceIte, in_eq, Nat.reduceAdd, Nat.reduceMul, Nat.zero_add, cE_f, cE_t, mE_f, mE_t, within_ok, ne_eq, l1, ixo_95, ixo_96, ixo_97, ixo_98, ixo_99, ixo_100, ixo_101, ixo_102, ixo_103, ixo_104, ixo_105, ixo_106, ixo_107, ixo_108, ixo_109, ixo_110, ixo_111, ixo_112, ixo_113, ixo_114, ixo_115, ixo_116, ixo_117, ixo_118, ixo_119, ixo_120, ixo_121, ixo_122, ixo_123, ixo_124, ixo_125, ixo_126, at', n1]
    · simp (disch := omega) only [gI_eq, gI_ne, gL_pI, gI_pL]
    · have hj : j < 3 * (g.1 + 1) := hj
      show _ = nI (if j = 3 * g.1 then q.tick else if j = 3 * g.1 + 1 then b else if j = 3 * g.1 + 2 then v else g.2 j)
      by_cases j0 : j = 3 * g.1
      · rw [if_pos j0]; simp (disch := omega) only [gI_eq, gI_ne, gL_pI, gI_pL]
      · rw [if_neg j0]
        by_cases j1 : j = 3 * g.1 + 1
        · rw [if_pos j1]; simp (disch := omega) only [gI_eq, gI_ne, gL_pI, gI_pL]
        · rw [if_neg j1]
          by_cases j2 : j = 3 * g.1 + 2
          · rw [if_pos j2]; simp (disch := omega) only [gI_eq, gI_ne, gL_pI, gI_pL]
          · rw [if_neg j2]; simp (disch := omega) only [gI_eq, gI_ne, gL_pI, gI_pL]; exact l2 j (by omega)
    · repeat (refine Fr_pI _ ?_ (by omega))
      exact Fr_rfl _ _
  · rw [if_neg e]
    refine ⟨σ, ?_, ⟨l0, l1, l2⟩, Fr_rfl _ _⟩
    simp (disch := omega) only [nI_lit, nI_addE, nI_mulE, nI_ltE, nI_leE, nI_eqE, nI_eqN, nI_Neq, nI_ltN, nI_Nlt, nI_leN, nI_Nle, nI_NeN, nI_subE, bd1_s, bd2_s, onrN, onrS, grd_t, grd_T, gI_eq, gI_ne, gL_pI, gI_pL, ltT, ltF, leT, leF, eqT, eqF, if_true, if_false, true_or, or_true, ite_true, ite_false, and_true, true_and, and_false, false_and, not_false_eq_true, not_true_eq_false, ↓reduceIte, in_eq, Nat.reduceAdd, Nat.reduceMul, Nat.zero_add, cE_f, cE_t, mE_f, mE_t, within_ok, ne_eq, l1]
end
