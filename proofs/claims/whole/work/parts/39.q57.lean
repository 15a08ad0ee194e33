def cl3 (x : Int32) : Nat := if x < nI 0 then 0 else if nI 3 < x then 3 else x.toNatClampNeg
def drW (V : Nat → Int32) (p : Nat) : Nat → Nat → HQ → HQ
  | 0, _, q => q
  | d + 1, k, q => drW V p d (k + 1) (qs q 11 (p + k) (cl3 (V k)))
section
variable {q : HQ} {σ σ' : Mem} {h o b v l s : Nat}
theorem cl3_le (x : Int32) : cl3 x ≤ 3 := by
  unfold cl3
  split
  · omega
  · split
    · omega
    · rename_i h
      rw [Int32.lt_iff_toInt_lt, nI_toInt (by omega : 3 < 2 ^ 31)] at h
      show x.toInt.toNat ≤ 3
      omega
theorem cl3_c (x : Int32) : (if nI 0 < (if x < nI 3 then x else nI 3) then (if x < nI 3 then x else nI 3) else nI 0) = nI (cl3 x) := by
  have t0 := nI_toInt (by omega : 0 < 2 ^ 31)
  have t3 := nI_toInt (by omega : 3 < 2 ^ 31)
  unfold cl3
  by_cases h0 : x < nI 0
  · have h3 : x < nI 3 := by rw [Int32.lt_iff_toInt_lt] at h0 ⊢; omega
    have hn : ¬ nI 0 < x := by rw [Int32.lt_iff_toInt_lt] at h0 ⊢; omega
    rw [if_pos h0, if_pos h3, if_neg hn]
  · rw [if_neg h0]
    by_cases h3 : nI 3 < x
    · have g3 : ¬ x < nI 3 := by rw [Int32.lt_iff_toInt_lt] at h3 ⊢; omega
      have g0 : nI 0 < nI 3 := by rw [Int32.lt_iff_toInt_lt]; omega
      rw [if_pos h3, if_neg g3, if_pos g0]
    · rw [if_neg h3]
      rw [Int32.lt_iff_toInt_lt] at h0 h3
      have e : x = nI x.toNatClampNeg := by
        apply Int32.toInt_inj.mp
        have : x.toNatClampNeg = x.toInt.toNat := rfl
        rw [nI_toInt (by omega)]
        omega
      by_cases g3 : x < nI 3
      · rw [if_pos g3]
        by_cases g0 : nI 0 < x
        · rw [if_pos g0]; exact e
        · rw [if_neg g0]
          rw [Int32.lt_iff_toInt_lt] at g0
          apply Int32.toInt_inj.mp
          rw [← e]
          omega
      · rw [if_neg g3, if_pos (by rw [Int32.lt_iff_toInt_lt]; omega)]
        rw [Int32.lt_iff_toInt_lt] at g3
        apply Int32.toInt_inj.mp
        rw [← e]
        omega
theorem CH_setd1 {p : Nat} (ok : q.Ok) (C : CH 1 q σ) : CH 1 (qs q 11 p v) (pI σ 4 p (nI v)) := CH_setd ok.1 ok.2.1 C
theorem dr_ok {p : Nat} (ok : q.Ok) (hv : v ≤ 3) : (qs q 11 p v).Ok := by
  obtain ⟨ol, ob, o1, o2⟩ := ok
  refine ⟨ol, ob, fun i hi => ?_, o2⟩
  by_cases e : i = p
  · simp (disch := omega) only [n_qs, n_qt, wax_qs, wax_qt, worth_qs, worth_qt, sold_qs, sold_qt, price_qs, price_qt, buyer_qs, buyer_qt, m_qs, m_qt, kind_qs, kind_qt, a_qs, a_qt, val_qs, val_qt, purse_qs, purse_qt, dr_qs, dr_qt, step_qs, step_qt, lit_qs, lit_qt, tick_qs, tick_qt, burnt_qs, burnt_qt, high_qs, high_qt, holder_qs, holder_qt, z_qs]; exact hv
  · simp (disch := omega) only [n_qs, n_qt, wax_qs, wax_qt, worth_qs, worth_qt, sold_qs, sold_qt, price_qs, price_qt, buyer_qs, buyer_qt, m_qs, m_qt, kind_qs, kind_qt, a_qs, a_qt, val_qs, val_qt, purse_qs, purse_qt, dr_qs, dr_qt, step_qs, step_qt, lit_qs, lit_qt, tick_qs, tick_qt, burnt_qs, burnt_qt, high_qs, high_qt, holder_qs, holder_qt, z_qs]; exact o1 i hi
theorem cl_dr {i p n sz : Nat} {V : Nat → Int32} (hs : s < 4) (hp : p + n ≤ 12) (hi : i + n ≤ sz) (hz : sz ≤ 40) : ∀ (d k : Nat) (q : HQ) (σ : Mem) (fuel : Nat), k + d = n → d < fuel → q.Ok → CH 1 q σ → gI σ (82 + 2 * s) 2 = nI sz → (∀ j, j < n → gI σ (83 + 2 * s) (i + j) = V j) → ∃ σ', iterF (F_X9_draughts_81 0 (nI i) (nI p) (nI n) (82 + 2 * s)) (fun _ _ => none) fuel (nI k) σ = some (nI n, σ') ∧ CH 1 (drW V p d k q) σ' ∧ (drW V p d k q).Ok ∧ Fr (fun k _ => k = 4) σ σ' := by
  intro d
  induction d with
  | zero =>
    intro k q σ fuel hk hf ok C e2 eV
    obtain ⟨f, rfl⟩ : ∃ f, fuel = f + 1 := ⟨fuel - 1, by omega⟩
    refine ⟨σ, ?_, C, ok, Fr_rfl _ _⟩
    show F_X9_draughts_81 0 _ _ _ _ _ _ _ = _
    unfold F_X9_draughts_81
    rw [if_pos (by rw [nI_leE (by omega) (by omega)]; omega)]
  | succ d ih =>
    intro k q σ fuel hk hf ok C e2 eV
    obtain ⟨f, rfl⟩ : ∃ f, fuel = f + 1 := ⟨fuel - 1, by omega⟩
    have hc := cl3_le (V k)
    obtain ⟨σ2, r1, r2, r3, r4⟩ := ih (k + 1) (qs q 11 (p + k) (cl3 (V k))) (pI σ 4 (p + k) (nI (cl3 (V k)))) f (by omega) (by omega) (dr_ok ok hc) (CH_setd1 ok C) ((gI_ne _ _ (by omega)).trans e2) (fun j hj => (gI_ne _ _ (by omega)).trans (eV j hj))
    refine ⟨σ2, Eq.trans ?_ r1, r2, r3, Fr_tr (Fr_pI _ (Fr_rfl _ _) rfl) r4⟩
    show F_X9_draughts_81 0 _ _ _ _ _ _ _ = _
    generalize iterF (F_X9_draughts_81 0 (nI i) (nI p) (nI n) (82 + 2 * s)) (fun _ _ => none) f = R
    have i4 := ixo_sheet hs (by omega : i + k < 40)
    rw [s83] at i4
    have it : f_X5_itemAt (82 + 2 * s) (nI i + nI k) σ = some (V k, σ) := by
      rw [nI_addE]
      simp only [f_X5_itemAt, shas_ok hz e2 (by omega : i + k < sz), bd2_s, nI_lit, nI10, if_false, s83, i4, bd1_s, eV k (by omega)]
    have i5 : ixo 4 (nI (p + k)) = some (p + k) := ixo_4 (by omega)
    unfold F_X9_draughts_81
    rw [if_neg (by rw [nI_leE (by omega) (by omega)]; omega), it, bd2_s]
    simp only [Nat.reduceAdd, nI_lit, nI_addE, i5, bd1_s]
    exact congrArg (fun z => R (nI (k + 1)) (pI σ 4 (p + k) z)) (cl3_c (V k))
theorem md_dr {i p n sz : Nat} {V : Nat → Int32} (hs : s < 4) (hp : p + n ≤ 12) (hi : i + n ≤ sz) (hz : sz ≤ 40) : ∀ (d k : Nat) (q : HQ) (σ : Mem) (fuel : Nat), k + d = n → d < fuel → MH 0 q σ → (∀ j, j < n → gL σ 120 (40 * s + (i + j)) = (V j).toInt64) → ∃ σ', iterF (F_X10_draughts_75 94 (nI s) (nI i) (nI p) (nI n)) (fun _ _ => none) fuel (nI k) σ = some (nI n, σ') ∧ MH 0 (drW V p d k q) σ' ∧ Fr (fun k _ => k = 100) σ σ' := by
  intro d
  induction d with
  | zero =>
    intro k q σ fuel hk hf M eV
    obtain ⟨f, rfl⟩ : ∃ f, fuel = f + 1 := ⟨fuel - 1, by omega⟩
    refine ⟨σ, ?_, M, Fr_rfl _ _⟩
    show F_X10_draughts_75 94 _ _ _ _ _ _ _ = _
    unfold F_X10_draughts_75
    rw [if_pos (by rw [nI_leE (by omega) (by omega)]; omega)]
  | succ d ih =>
    intro k q σ fuel hk hf M eV
    obtain ⟨f, rfl⟩ : ∃ f, fuel = f + 1 := ⟨fuel - 1, by omega⟩
    obtain ⟨σ2, r1, r2, r4⟩ := ih (k + 1) (qs q 11 (p + k) (cl3 (V k))) (pI σ 100 (p + k) (nI (cl3 (V k)))) f (by omega) (by omega) (MH_setd M) (fun j hj => eV j hj)
    refine ⟨σ2, Eq.trans ?_ r1, r2, Fr_tr (Fr_pI _ (Fr_rfl _ _) rfl) r4⟩
    show F_X10_draughts_75 94 _ _ _ _ _ _ _ = _
    generalize iterF (F_X10_draughts_75 94 (nI s) (nI i) (nI p) (nI n)) (fun _ _ => none) f = R
    have i3 : ixo 120 (nI (40 * s + i + k)) = some (40 * s + (i + k)) := by
      have : 40 * s + i + k = 40 * s + (i + k) := by omega
      rw [this]; exact ixo_120 (by omega)
    have i5 : ixo 100 (nI (p + k)) = some (p + k) := ixo_100 (by omega)
    have y := eV k (by omega)
    have t0 := nI_toInt (by omega : 0 < 2 ^ 31)
    have t3 := nI_toInt (by omega : 3 < 2 ^ 31)
    have l0 : ((0 : Int32) ≤ lg_cmp (V k).toInt64 (0 : Int64)) = ¬ V k < nI 0 := by
      apply propext
      rw [lg_cmp_ge, Int64.le_iff_toInt_le, Int32.toInt_toInt64, Int32.lt_iff_toInt_lt, t0]
      have : (0 : Int64).toInt = 0 := by decide
      rw [this]
      omega
    have l3 : (lg_cmp (V k).toInt64 (3 : Int64) ≤ (0 : Int32)) = ¬ nI 3 < V k := by
      apply propext
      rw [lg_cmp_le, Int64.le_iff_toInt_le, Int32.toInt_toInt64, Int32.lt_iff_toInt_lt, t3]
      have : (3 : Int64).toInt = 3 := by decide
      rw [this]
      omega
    have main : F_X10_draughts_75 94 (nI s) (nI i) (nI p) (nI n) R (nI k) σ = if ¬ V k < nI 0 then (if ¬ nI 3 < V k then R (nI (k + 1)) (pI σ 100 (p + k) (V k)) else R (nI (k + 1)) (pI σ 100 (p + k) (nI 3))) else R (nI (k + 1)) (pI σ 100 (p + k) (nI 0)) := by
      unfold F_X10_draughts_75
      rw [if_neg (by rw [nI_leE (by omega) (by omega)]; omega)]
      have e40 : (40 : Int32) * nI s + nI i + nI k = nI (40 * s + i + k) := by rw [nI_lit 40, nI_mulE, nI_addE, nI_addE]
      rw [e40, i3, bd1_s]
      simp only [Nat.reduceAdd, y, l0, l3, nI_addE, i5, bd1_s, Int32.toInt32_toInt64]
      rw [nI_lit 1, nI_addE]
      rfl
    rw [main]
    unfold cl3
    by_cases h0 : V k < nI 0
    · rw [if_neg (by simp [h0]), if_pos h0]
    · rw [if_pos h0, if_neg h0]
      by_cases h3 : nI 3 < V k
      · rw [if_neg (by simp [h3]), if_pos h3]
      · rw [if_pos h3, if_neg h3]
        have e : nI (V k).toNatClampNeg = V k := by
          rw [Int32.lt_iff_toInt_lt] at h0 h3
          apply Int32.toInt_inj.mp
          have : (V k).toNatClampNeg = (V k).toInt.toNat := rfl
          rw [nI_toInt (by omega)]
          omega
        rw [e]
theorem op_draughts (I : Inv q σ) (a1 a2 a3 a4 : Int32) : OpOk (f_X9_draughts 0 a1 a2 a3 a4) (f_X10_draughts 94 a1 a2 a3 a4) σ := by
  rcases (arg a1 0 3 (by omega) (by omega)).symm with b | ⟨s, -, hs, rfl⟩
  · refine ⟨-1, σ, σ, q, ?_, ?_, I⟩
    · simp only [f_X9_draughts, sheetAt_no b, bd2_s, onrN]
    · simp only [f_X10_draughts, isShelf_no b, bd2_s, nI_lit, if_true]
  have hs4 : s < 4 := by omega
  have ks := kd_sheet hs4
  rcases (arg a3 0 11 (by omega) (by omega)).symm with b | ⟨p, -, hp, rfl⟩
  · refine ⟨-nI 1, σ, σ, q, ?_, ?_, I⟩
    · simp only [f_X9_draughts, sheetAt_ok hs4, bd2_s, onrS, grd_t ks, nI_lit, within_no _ b, if_true]
    · simp only [f_X10_draughts, isShelf_ok hs, bd2_s, nI_lit, nI10, if_false, isPlace_no b, if_true]
  have wp := within_ok (n := p) (lo := 0) (hi := 11) σ (Nat.zero_le p) hp (by decide)
  have e12 : (nI 12 - nI p) = nI (12 - p) := nI_subE (by omega)
  rcases (arg a4 0 12 (by omega) (by omega)).symm with b | ⟨n, -, hn, rfl⟩
  · have b' : a4 < nI 0 ∨ (¬ a4 < nI 0 ∧ nI (12 - p) < a4) := b.imp id fun c => ⟨c.1, by
      have := c.2
      rw [Int32.lt_iff_toInt_lt, nI_toInt (by omega : 12 < 2 ^ 31)] at this
      rw [Int32.lt_iff_toInt_lt, nI_toInt (by omega : 12 - p < 2 ^ 31)]
      omega⟩
    refine ⟨-nI 1, σ, σ, q, ?_, ?_, I⟩
    · simp only [f_X9_draughts, sheetAt_ok hs4, bd2_s, onrS, grd_t ks, nI_lit, wp, nI10, if_false, e12, within_no _ b', if_true]
    · simp only [f_X10_draughts, isShelf_ok hs, bd2_s, nI_lit, nI10, if_false, isPlace_ok hp, in_eq, within_no _ b, if_true]
  have wn := within_ok (n := n) (lo := 0) (hi := 12) σ (Nat.zero_le n) hn (by decide)
  by_cases hpn : p + n ≤ 12
  case neg =>
    have b' : nI n < nI 0 ∨ (¬ nI n < nI 0 ∧ nI (12 - p) < nI n) := .inr ⟨by rw [nI_ltE (by omega) (by omega)]; omega, by rw [nI_ltE (by omega) (by omega)]; omega⟩
    have g : (nI (p + n) ≤ nI 12) = False := by rw [nI_leE (by omega) (by omega)]; exact eq_false hpn
    refine ⟨-nI 1, σ, σ, q, ?_, ?_, I⟩
    · simp only [f_X9_draughts, sheetAt_ok hs4, bd2_s, onrS, grd_t ks, nI_lit, wp, nI10, if_false, e12, within_no _ b', if_true]
    · simp only [f_X10_draughts, isShelf_ok hs, bd2_s, nI_lit, nI10, if_false, isPlace_ok hp, in_eq, wn, nI_addE, g]
  have wn' := within_ok (n := n) (lo := 0) (hi := 12 - p) σ (Nat.zero_le n) (by omega) (by omega)
  have g : (nI (p + n) ≤ nI 12) = True := by rw [nI_leE (by omega) (by omega)]; exact eq_true hpn
  obtain ⟨r1, ⟨sz, hz, n1, n2⟩, r3⟩ := I.2.2.2.2.2.2.2.1 s hs4
  have i1 : ixo 118 (nI s) = some s := ixo_118 (by omega)
  have i2 : ixo 119 (nI s) = some s := ixo_119 (by omega)
  rcases r1 with ⟨t1, t2⟩ | ⟨t, ht, t1, t2⟩
  · have gg : ¬ nI 0 ≤ (-1 : Int32) := by decide
    refine ⟨-nI 11, σ, σ, q, ?_, ?_, I⟩
    · simp only [f_X9_draughts, sheetAt_ok hs4, bd2_s, onrS, grd_t ks, nI_lit, wp, nI10, if_false, e12, wn', miss_t t1]
    · have z : (-nI 11 = nI 0) = False := nI_Neq (by omega) (by omega) (by omega)
      have L : f_X10_lacksSort 94 (nI s) (nI 0) σ = some (-nI 11, σ) := by
        unfold f_X10_lacksSort
        simp only [Nat.reduceAdd, i1, bd1_s, t2]
        exact if_neg gg
      simp only [f_X10_draughts, isShelf_ok hs, bd2_s, nI_lit, nI10, if_false, isPlace_ok hp, in_eq, wn, nI_addE, g, if_true, L, z]
  by_cases e : t = 0
  case neg =>
    have ne : (nI t = nI 0) = False := by rw [nI_eqE (by omega) (by omega)]; exact eq_false e
    refine ⟨-nI 13, σ, σ, q, ?_, ?_, I⟩
    · simp only [f_X9_draughts, sheetAt_ok hs4, bd2_s, onrS, grd_t ks, nI_lit, wp, nI10, if_false, e12, wn', miss_f ht t1, if_true, t1, ne]
    · have z : (-nI 13 = nI 0) = False := nI_Neq (by omega) (by omega) (by omega)
      have L : f_X10_lacksSort 94 (nI s) (nI 0) σ = some (-nI 13, σ) := by
        simp (disch := omega) only [f_X10_lacksSort, nI_lit, nI_addE, nI_mulE, nI_ltE, nI_leE, nI_eqE, nI_eqN, nI_Neq, nI_ltN, nI_Nlt, nI_leN, nI_Nle, nI_NeN, nI_subE, bd1_s, bd2_s, onrN, onrS, grd_t, grd_T, gI_eq, gI_ne, gL_pI, gI_pL, ltT, ltF, leT, leF, eqT, eqF, if_true, if_false, true_or, or_true, ite_true, ite_false, and_true, true_and, and_false, false_and, not_false_eq_true, not_true_eq_false, ↓reduceIte, in_eq, Nat.reduceAdd, Nat.reduceMul, Nat.zero_add, cE_f, cE_t, mE_f, mE_t, within_ok, ne_eq, i1, t2]
      simp only [f_X10_draughts, isShelf_ok hs, bd2_s, nI_lit, nI10, if_false, isPlace_ok hp, in_eq, wn, nI_addE, g, if_true, L, z]
  subst e
  have L : ∀ τ, gI τ 118 s = nI 0 → f_X10_lacksSort 94 (nI s) (nI 0) τ = some (nI 0, τ) := fun τ e => by
    simp (disch := omega) only [f_X10_lacksSort, nI_lit, nI_addE, nI_mulE, nI_ltE, nI_leE, nI_eqE, nI_eqN, nI_Neq, nI_ltN, nI_Nlt, nI_leN, nI_Nle, nI_NeN, nI_subE, bd1_s, bd2_s, onrN, onrS, grd_t, grd_T, gI_eq, gI_ne, gL_pI, gI_pL, ltT, ltF, leT, leF, eqT, eqF, if_true, if_false, true_or, or_true, ite_true, ite_false, and_true, true_and, and_false, false_and, not_false_eq_true, not_true_eq_false, ↓reduceIte, in_eq, Nat.reduceAdd, Nat.reduceMul, Nat.zero_add, cE_f, cE_t, mE_f, mE_t, within_ok, ne_eq, i1, e]
  by_cases h0 : a2 < nI 0
  · refine ⟨-nI 12, σ, σ, q, ?_, ?_, I⟩
    · simp only [f_X9_draughts, sheetAt_ok hs4, bd2_s, onrS, grd_t ks, nI_lit, wp, nI10, if_false, e12, wn', miss_f ht t1, if_true, t1, eq_true h0]
    · simp only [f_X10_draughts, isShelf_ok hs, bd2_s, nI_lit, nI10, if_false, isPlace_ok hp, in_eq, wn, nI_addE, g, if_true, L σ t2, eq_true h0]
  by_cases h1 : a2 ≤ nI sz - nI n
  case neg =>
    refine ⟨-nI 12, σ, σ, q, ?_, ?_, I⟩
    · simp only [f_X9_draughts, sheetAt_ok hs4, bd2_s, onrS, grd_t ks, nI_lit, wp, nI10, if_false, e12, wn', miss_f ht t1, if_true, t1, eq_false h0, n1, eq_false h1]
    · simp only [f_X10_draughts, isShelf_ok hs, bd2_s, bd1_s, nI_lit, nI10, if_false, isPlace_ok hp, in_eq, wn, nI_addE, g, if_true, L σ t2, eq_false h0, Nat.reduceAdd, i2, n2, eq_false h1]
  obtain ⟨i, hi, rfl⟩ : ∃ i, i + n ≤ sz ∧ a2 = nI i := by
    have h0' := h0
    have h1' := h1
    rw [Int32.lt_iff_toInt_lt, nI_toInt (by omega : 0 < 2 ^ 31)] at h0'
    rw [Int32.le_iff_toInt_le, nI_subI (by omega) (by omega)] at h1'
    refine ⟨a2.toInt.toNat, by omega, ?_⟩
    apply Int32.toInt_inj.mp
    rw [nI_toInt (by omega)]
    omega
  obtain ⟨σ1, c1, c2, c3, c4⟩ := cl_dr (V := fun j => gI σ (83 + 2 * s) (i + j)) hs4 hpn hi hz n 0 q σ FU (by omega) (FU_lt (by omega)) I.1 I.2.1 n1 (fun j hj => rfl)
  have M1 : MH 0 q σ1 := MH_fr I.2.2.1 fun k i c => c4.1 k i (by omega)
  obtain ⟨σ2, d1, d2, d3⟩ := md_dr (V := fun j => gI σ (83 + 2 * s) (i + j)) hs4 hpn hi hz n 0 q σ1 FU (by omega) (FU_lt (by omega)) M1 (fun j hj => by
    have : gL σ1 120 (40 * s + (i + j)) = gL σ 120 (40 * s + (i + j)) := by unfold gL; rw [c4.2]
    rw [this]
    exact r3 (i + j) (by omega))
  have F : Fr WG σ σ2 := Fr_tr (Fr_mono c4 fun k i c => by unfold WG WH; omega) (Fr_mono d3 fun k i c => by unfold WG WH; omega)
  refine ⟨nI n, σ1, σ2, _, ?_, ?_, c3, CH_fr c3 c2 fun k i h1 h2 => d3.1 k i (by omega), d2, ⟨?_, ?_⟩, R1_frg I.2.2.2.2 F (RG_fr I.2.2.2.2.2.2.2.2.2.2.2 fun k i c => ?_)⟩
  · unfold f_X9_draughts
    simp only [sheetAt_ok hs4, bd2_s, onrS, grd_t ks, nI_lit, wp, nI10, if_false, e12, wn', miss_f ht t1, if_true, t1, eq_false h0, n1, eq_true h1]
    exact c1
  · have t2' : gI σ1 118 s = nI 0 := (c4.1 _ _ (by omega)).trans t2
    have n2' : gI σ1 119 s = nI sz := (c4.1 _ _ (by omega)).trans n2
    have wn2 := within_ok (n := n) (lo := 0) (hi := 12) σ1 (Nat.zero_le n) hn (by decide)
    unfold f_X10_draughts
    simp only [isShelf_ok hs, bd2_s, bd1_s, nI_lit, nI10, if_false, isPlace_ok hp, in_eq, wn2, nI_addE, g, if_true, L σ1 t2', eq_false h0, Nat.reduceAdd, i2, n2', eq_true h1]
    exact d1
  · rw [d3.1 _ _ (by omega), c4.1 _ _ (by omega)]; exact I.2.2.2.1.1
  · rw [d3.1 _ _ (by omega), c4.1 _ _ (by omega)]; exact I.2.2.2.1.2
  · rw [d3.1 _ _ (by omega), c4.1 _ _ (by omega)]
end
