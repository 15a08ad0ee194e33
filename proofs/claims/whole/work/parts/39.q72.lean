/-! the text of a hall: what an entry makes of a draft -/
def addL (d : HQ) (w v : Nat) : HQ := qs (qs (qs (qs d 1 d.n w) 2 d.n v) 3 d.n 0) 0 0 (d.n + 1)
def addB (d : HQ) (k a v p : Nat) : HQ := qs (qs (qs (qs (qs d 7 d.m k) 8 d.m a) 9 d.m v) 10 d.m p) 6 0 (d.m + 1)
def Dr (d : HQ) : Prop := d.Ok ∧ d.lit = 9 ∧ ∀ i, i < d.n → d.sold i = 0
def lA (T : Tp) (e : Nat) : Nat × Nat := sNum T 1 60 (e, 1)
def lB (T : Tp) (e : Nat) : Nat × Nat := sWord T 7 (lA T e)
def lC (T : Tp) (e : Nat) : Nat × Nat := sNum T 1 99 (lB T e)
def lD (T : Tp) (e : Nat) : Nat × Nat := sEnd T (lC T e)
def eLot (T : Tp) (b e : Nat) (d : HQ) : (Nat × Nat) × HQ := if d.n < 5 then (lD T e, if (lD T e).2 = 0 then d else addL d (nuT T (sk T e)) (nuT T (sk T (lB T e).1))) else ((b, 0), d)
def bA (T : Tp) (e : Nat) : Nat × Nat := sNum T 0 9 (e, 1)
def bB (T : Tp) (e : Nat) : Nat × Nat := sWord T 8 (bA T e)
def bC (T : Tp) (e : Nat) : Nat × Nat := sNum T 0 999 (bB T e)
def bD (T : Tp) (e : Nat) : Nat × Nat := sWord T 9 (bC T e)
def bG (T : Tp) (e : Nat) : Nat × Nat := sNum T 0 9999 (bD T e)
def bF (T : Tp) (e : Nat) : Nat × Nat := sEnd T (bG T e)
def eBid (T : Tp) (b e k : Nat) (d : HQ) : (Nat × Nat) × HQ := if d.m < 6 then (bF T e, if (bF T e).2 = 0 then d else addB d k (nuT T (sk T e)) (nuT T (sk T (bB T e).1)) (nuT T (sk T (bD T e).1))) else ((b, 0), d)
def gA (T : Tp) (e : Nat) : Nat × Nat := sNum T 0 11 (e, 1)
def gB (T : Tp) (e : Nat) : Nat × Nat := sNum T 0 3 (gA T e)
def gC (T : Tp) (e : Nat) : Nat × Nat := sEnd T (gB T e)
def eDr (T : Tp) (e : Nat) (d : HQ) : (Nat × Nat) × HQ := (gC T e, if (gC T e).2 = 0 then d else qs d 11 (nuT T (sk T e)) (nuT T (sk T (gA T e).1)))
def tA (T : Tp) (e : Nat) : Nat × Nat := sNum T 1 20 (e, 1)
def tB (T : Tp) (e : Nat) : Nat × Nat := sEnd T (tA T e)
def eSt (T : Tp) (e : Nat) (d : HQ) : (Nat × Nat) × HQ := (tB T e, if (tB T e).2 = 0 then d else qs d 12 0 (nuT T (sk T e)))
def nk (v : Nat) : Nat := if v = 0 then 5 else v - 1
def kNR (c : Nat) : Nat → Nat → Nat
  | 0, _ => 9
  | d + 1, v => if c = cod (nk v) then v else kNR c d (v + 1)
def sEnt (T : Tp) (b : Nat) (d : HQ) : (Nat × Nat) × HQ :=
  if cdn T b = cod 6 then eLot T b (rwE T 97 122 b) d
  else if kNR (cdn T b) 6 0 ≠ 9 then eBid T b (rwE T 97 122 b) (kNR (cdn T b) 6 0) d
  else if cdn T b = cod 10 then eDr T (rwE T 97 122 b) d
  else if cdn T b = cod 11 then eSt T (rwE T 97 122 b) d
  else ((b, 0), d)
def sSk (T : Tp) (s : (Nat × Nat) × HQ) : (Nat × Nat) × HQ := if s.1.2 = 0 then s else ((sk T s.1.1, 1), s.2)
def sAll (T : Tp) : Nat → (Nat × Nat) × HQ → (Nat × Nat) × HQ
  | 0, s => s
  | f + 1, s => if s.1.2 = 0 then s else if T.2 ≤ s.1.1 then s else sAll T f (sSk T (sEnt T s.1.1 s.2))
section
variable {q d : HQ} {σ σ' : Mem} {T : Tp} {lo hi p b e w v k a : Nat} {x : Nat × Nat}
theorem Dr_L (D : Dr d) (hn : d.n < 5) (h1 : 1 ≤ w ∧ w ≤ 60) (h2 : 1 ≤ v ∧ v ≤ 99) : Dr (addL d w v) := by
  obtain ⟨⟨⟨hn', hol⟩, hob, hoc⟩, h9, hs⟩ := D
  unfold addL
  refine ⟨⟨⟨?_, fun i hi => ?_⟩, hob, ?_⟩, h9, fun i hi => ?_⟩
  · show d.n + 1 ≤ 5; omega
  · have hi : i < d.n + 1 := hi
    by_cases c : i = d.n
    · simp (disch := omega) only [n_qs, n_qt, wax_qs, wax_qt, worth_qs, worth_qt, sold_qs, sold_qt, price_qs, price_qt, buyer_qs, buyer_qt, m_qs, m_qt, kind_qs, kind_qt, a_qs, a_qt, val_qs, val_qt, purse_qs, purse_qt, dr_qs, dr_qt, step_qs, step_qt, lit_qs, lit_qt, tick_qs, tick_qt, burnt_qs, burnt_qt, high_qs, high_qt, holder_qs, holder_qt, z_qs]; omega
    · simp (disch := omega) only [n_qs, n_qt, wax_qs, wax_qt, worth_qs, worth_qt, sold_qs, sold_qt, price_qs, price_qt, buyer_qs, buyer_qt, m_qs, m_qt, kind_qs, kind_qt, a_qs, a_qt, val_qs, val_qt, purse_qs, purse_qt, dr_qs, dr_qt, step_qs, step_qt, lit_qs, lit_qt, tick_qs, tick_qt, burnt_qs, burnt_qt, high_qs, high_qt, holder_qs, holder_qt, z_qs]; exact hol i (by omega)
  · obtain ⟨o1, o2, o3, o4, o5, o6, o7⟩ := hoc
    refine ⟨o1, o2, ?_, o4, fun hl => ?_, o6, o7⟩
    · show d.lit < d.n + 1 ∨ d.lit = 9; omega
    · have hl : d.lit < d.n + 1 := hl
      omega
  · have hi : i < d.n + 1 := hi
    by_cases c : i = d.n
    · simp (disch := omega) only [n_qs, n_qt, wax_qs, wax_qt, worth_qs, worth_qt, sold_qs, sold_qt, price_qs, price_qt, buyer_qs, buyer_qt, m_qs, m_qt, kind_qs, kind_qt, a_qs, a_qt, val_qs, val_qt, purse_qs, purse_qt, dr_qs, dr_qt, step_qs, step_qt, lit_qs, lit_qt, tick_qs, tick_qt, burnt_qs, burnt_qt, high_qs, high_qt, holder_qs, holder_qt, z_qs]
    · simp (disch := omega) only [n_qs, n_qt, wax_qs, wax_qt, worth_qs, worth_qt, sold_qs, sold_qt, price_qs, price_qt, buyer_qs, buyer_qt, m_qs, m_qt, kind_qs, kind_qt, a_qs, a_qt, val_qs, val_qt, purse_qs, purse_qt, dr_qs, dr_qt, step_qs, step_qt, lit_qs, lit_qt, tick_qs, tick_qt, burnt_qs, burnt_qt, high_qs, high_qt, holder_qs, holder_qt, z_qs]; exact hs i (by omega)
theorem Dr_B (D : Dr d) (hm : d.m < 6) (hk : k ≤ 5) (ha : a ≤ 9) (hv : v ≤ 999) (hp : p ≤ 9999) : Dr (addB d k a v p) := by
  obtain ⟨⟨⟨hn, hol⟩, hob, hoc⟩, h9, hs⟩ := D
  unfold addB
  refine ⟨⟨⟨hn, fun i hi => ?_⟩, ⟨?_, fun i hi => ?_⟩, ?_⟩, h9, fun i hi => ?_⟩
  · have hi : i < d.n := hi
    have := hol i hi
    simp (disch := omega) only [n_qs, n_qt, wax_qs, wax_qt, worth_qs, worth_qt, sold_qs, sold_qt, price_qs, price_qt, buyer_qs, buyer_qt, m_qs, m_qt, kind_qs, kind_qt, a_qs, a_qt, val_qs, val_qt, purse_qs, purse_qt, dr_qs, dr_qt, step_qs, step_qt, lit_qs, lit_qt, tick_qs, tick_qt, burnt_qs, burnt_qt, high_qs, high_qt, holder_qs, holder_qt, z_qs]
    exact ⟨this.1, this.2.1, this.2.2.1, fun s => ⟨(this.2.2.2 s).1, by have := (this.2.2.2 s).2; omega⟩⟩
  · show d.m + 1 ≤ 6; omega
  · have hi : i < d.m + 1 := hi
    by_cases c : i = d.m
    · simp (disch := omega) only [n_qs, n_qt, wax_qs, wax_qt, worth_qs, worth_qt, sold_qs, sold_qt, price_qs, price_qt, buyer_qs, buyer_qt, m_qs, m_qt, kind_qs, kind_qt, a_qs, a_qt, val_qs, val_qt, purse_qs, purse_qt, dr_qs, dr_qt, step_qs, step_qt, lit_qs, lit_qt, tick_qs, tick_qt, burnt_qs, burnt_qt, high_qs, high_qt, holder_qs, holder_qt, z_qs]; exact ⟨hk, ha, hv, hp⟩
    · simp (disch := omega) only [n_qs, n_qt, wax_qs, wax_qt, worth_qs, worth_qt, sold_qs, sold_qt, price_qs, price_qt, buyer_qs, buyer_qt, m_qs, m_qt, kind_qs, kind_qt, a_qs, a_qt, val_qs, val_qt, purse_qs, purse_qt, dr_qs, dr_qt, step_qs, step_qt, lit_qs, lit_qt, tick_qs, tick_qt, burnt_qs, burnt_qt, high_qs, high_qt, holder_qs, holder_qt, z_qs]; exact hob.2 i (by omega)
  · obtain ⟨o1, o2, o3, o4, o5, o6, o7, o8⟩ := hoc
    refine ⟨o1, o2, o3, o4, o5, o6, ?_, o8⟩
    show d.holder < d.m + 1 ∨ (d.holder = 9 ∧ d.high = 0)
    omega
  · have hi : i < d.n := hi
    simp (disch := omega) only [n_qs, n_qt, wax_qs, wax_qt, worth_qs, worth_qt, sold_qs, sold_qt, price_qs, price_qt, buyer_qs, buyer_qt, m_qs, m_qt, kind_qs, kind_qt, a_qs, a_qt, val_qs, val_qt, purse_qs, purse_qt, dr_qs, dr_qt, step_qs, step_qt, lit_qs, lit_qt, tick_qs, tick_qt, burnt_qs, burnt_qt, high_qs, high_qt, holder_qs, holder_qt, z_qs]
    exact hs i hi
theorem Dr_D (D : Dr d) (hp : p ≤ 11) (hv : v ≤ 3) : Dr (qs d 11 p v) := by
  obtain ⟨⟨⟨hn, hol⟩, hob, hoc⟩, h9, hs⟩ := D
  refine ⟨⟨⟨hn, hol⟩, hob, ?_⟩, h9, hs⟩
  obtain ⟨o1, o2⟩ := hoc
  refine ⟨fun j hj => ?_, o2⟩
  by_cases c : j = p
  · simp (disch := omega) only [n_qs, n_qt, wax_qs, wax_qt, worth_qs, worth_qt, sold_qs, sold_qt, price_qs, price_qt, buyer_qs, buyer_qt, m_qs, m_qt, kind_qs, kind_qt, a_qs, a_qt, val_qs, val_qt, purse_qs, purse_qt, dr_qs, dr_qt, step_qs, step_qt, lit_qs, lit_qt, tick_qs, tick_qt, burnt_qs, burnt_qt, high_qs, high_qt, holder_qs, holder_qt, z_qs]; exact hv
  · simp (disch := omega) only [n_qs, n_qt, wax_qs, wax_qt, worth_qs, worth_qt, sold_qs, sold_qt, price_qs, price_qt, buyer_qs, buyer_qt, m_qs, m_qt, kind_qs, kind_qt, a_qs, a_qt, val_qs, val_qt, purse_qs, purse_qt, dr_qs, dr_qt, step_qs, step_qt, lit_qs, lit_qt, tick_qs, tick_qt, burnt_qs, burnt_qt, high_qs, high_qt, holder_qs, holder_qt, z_qs]; exact o1 j hj
theorem Dr_S (D : Dr d) (hv : 1 ≤ v ∧ v ≤ 20) : Dr (qs d 12 0 v) := by
  obtain ⟨⟨⟨hn, hol⟩, hob, hoc⟩, h9, hs⟩ := D
  refine ⟨⟨⟨hn, hol⟩, hob, ?_⟩, h9, hs⟩
  obtain ⟨o1, o2, o3⟩ := hoc
  exact ⟨o1, by simp (disch := omega) only [n_qs, n_qt, wax_qs, wax_qt, worth_qs, worth_qt, sold_qs, sold_qt, price_qs, price_qt, buyer_qs, buyer_qt, m_qs, m_qt, kind_qs, kind_qt, a_qs, a_qt, val_qs, val_qt, purse_qs, purse_qt, dr_qs, dr_qt, step_qs, step_qt, lit_qs, lit_qt, tick_qs, tick_qt, burnt_qs, burnt_qt, high_qs, high_qt, holder_qs, holder_qt, z_qs]; exact hv, o3⟩
theorem cl_addL (D : Dr d) (h4 : d.n < 5) (C : CH 31 d σ) : ∃ r σ', f_X2_addLot 31 (nI w) (nI v) σ = some (r, σ') ∧ CH 31 (addL d w v) σ' ∧ Fr (FH 31) σ σ' := by
  obtain ⟨⟨⟨hn, hol⟩, hob, hoc⟩, h9, hs⟩ := D
  obtain ⟨cs, cd, cl, cb⟩ := C
  obtain ⟨c1, c3, c5, c6, c7, c8⟩ := id cs
  unfold addL
  refine ⟨nI d.n, ?s1, ?e1, ?_⟩
  case e1 =>
    simp (disch := omega) only [f_X2_addLot, f_X3_renew, f_X3_unsell, nI_lit, nI_addE, nI_mulE, nI_ltE, nI_leE, nI_eqE, nI_eqN, nI_Neq, nI_ltN, nI_Nlt, nI_leN, nI_Nle, nI_NeN, nI_subE, bd1_s, bd2_s, onrN, onrS, grd_t, grd_T, gI_eq, gI_ne, gL_pI, gI_pL, ltT, ltF, leT, leF, eqT, eqF, if_true, if_false, true_or, or_true, ite_true, ite_false, and_true, true_and, and_false, false_and, not_false_eq_true, not_true_eq_false, ↓reduceIte, in_eq, Nat.reduceAdd, Nat.reduceMul, Nat.zero_add, cE_f, cE_t, mE_f, mE_t, within_ok, ne_eq, c1, ixo_2, ixo_3, ixo_4, ixo_17, ixo_18, ixo_19, ixo_32, ixo_33, ixo_34, ixo_47, ixo_50, ixo_51, ixo_52, ixo_64, ixo_65, ixo_66, ixo_67, ixo_68, ixo_69, ixo_70, ixo_71, ixo_72, ixo_73, ixo_75, ixo_77, ixo_78, ixo_79, ixo_81, ixo_83, ixo_85, ixo_87, ixo_89, Nat.add_sub_cancel]
    rfl
  refine ⟨⟨?_, (CHd_c cd (fun _ => rfl) (by intros; simp (disch := omega) only [gI_ne, gI_eq])), ⟨fun i hi => ?_, fun i hi => ?_⟩, (CHb_c cb hob.1 rfl (fun _ => ⟨rfl, rfl, rfl, rfl⟩) (by intros; simp (disch := omega) only [gI_ne, gI_eq]))⟩, ?_⟩
  · refine ⟨?_, ?_, ?_, ?_, ?_, ?_⟩ <;> simp (disch := omega) only [n_qs, n_qt, wax_qs, wax_qt, worth_qs, worth_qt, sold_qs, sold_qt, price_qs, price_qt, buyer_qs, buyer_qt, m_qs, m_qt, kind_qs, kind_qt, a_qs, a_qt, val_qs, val_qt, purse_qs, purse_qt, dr_qs, dr_qt, step_qs, step_qt, lit_qs, lit_qt, tick_qs, tick_qt, burnt_qs, burnt_qt, high_qs, high_qt, holder_qs, holder_qt, z_qs, gI_eq, gI_ne, gL_pI, gI_pL] <;> assumption
  · have hi : i < d.n + 1 := hi
    by_cases e : i = d.n
    · simp (disch := omega) only [n_qs, n_qt, wax_qs, wax_qt, worth_qs, worth_qt, sold_qs, sold_qt, price_qs, price_qt, buyer_qs, buyer_qt, m_qs, m_qt, kind_qs, kind_qt, a_qs, a_qt, val_qs, val_qt, purse_qs, purse_qt, dr_qs, dr_qt, step_qs, step_qt, lit_qs, lit_qt, tick_qs, tick_qt, burnt_qs, burnt_qt, high_qs, high_qt, holder_qs, holder_qt, z_qs, gI_eq, gI_ne, gL_pI, gI_pL, nI_lit, nI_addE, nI_mulE, nI_ltE, nI_leE, nI_eqE, nI_eqN, nI_Neq, nI_ltN, nI_Nlt, nI_leN, nI_Nle, nI_NeN, nI_subE, bd1_s, bd2_s, onrN, onrS, grd_t, grd_T, gI_eq, gI_ne, gL_pI, gI_pL, ltT, ltF, leT, leF, eqT, eqF, if_true, if_false, true_or, or_true, ite_true, ite_false, and_true, true_and, and_false, false_and, not_false_eq_true, not_true_eq_false, ↓reduceIte, in_eq, Nat.reduceAdd, Nat.reduceMul, Nat.zero_add, cE_f, cE_t, mE_f, mE_t, within_ok, ne_eq, and_self]
    · simp (disch := omega) only [n_qs, n_qt, wax_qs, wax_qt, worth_qs, worth_qt, sold_qs, sold_qt, price_qs, price_qt, buyer_qs, buyer_qt, m_qs, m_qt, kind_qs, kind_qt, a_qs, a_qt, val_qs, val_qt, purse_qs, purse_qt, dr_qs, dr_qt, step_qs, step_qt, lit_qs, lit_qt, tick_qs, tick_qt, burnt_qs, burnt_qt, high_qs, high_qt, holder_qs, holder_qt, z_qs, gI_eq, gI_ne, gL_pI, gI_pL]; exact cl.1 i (by omega)
  · by_cases e : i = d.n
    · simp (disch := omega) only [nI_lit, nI_addE, nI_mulE, nI_ltE, nI_leE, nI_eqE, nI_eqN, nI_Neq, nI_ltN, nI_Nlt, nI_leN, nI_Nle, nI_NeN, nI_subE, bd1_s, bd2_s, onrN, onrS, grd_t, grd_T, gI_eq, gI_ne, gL_pI, gI_pL, ltT, ltF, leT, leF, eqT, eqF, if_true, if_false, true_or, or_true, ite_true, ite_false, and_true, true_and, and_false, false_and, not_false_eq_true, not_true_eq_false, ↓reduceIte, in_eq, Nat.reduceAdd, Nat.reduceMul, Nat.zero_add, cE_f, cE_t, mE_f, mE_t, within_ok, ne_eq]
    · simp (disch := omega) only [gI_eq, gI_ne, gL_pI, gI_pL]; exact cl.2 i hi
  · (repeat (refine Fr_pI _ ?_ (by unfold FH; omega))); exact Fr_rfl _ _
theorem cl_addB (D : Dr d) (h4 : d.m < 6) (C : CH 31 d σ) : ∃ r σ', f_X2_addBidder 31 (nI k) (nI a) (nI v) (nI p) σ = some (r, σ') ∧ CH 31 (addB d k a v p) σ' ∧ Fr (FH 31) σ σ' := by
  obtain ⟨⟨⟨hn, hol⟩, hob, hoc⟩, h9, hs⟩ := D
  obtain ⟨cs, cd, cl, cb⟩ := C
  obtain ⟨c1, c3, c5, c6, c7, c8⟩ := id cs
  unfold addB
  refine ⟨nI d.m, ?s1, ?e1, ?_⟩
  case e1 =>
    simp (disch := omega) only [f_X2_addBidder, f_X0_renew, nI_lit, nI_addE, nI_mulE, nI_ltE, nI_leE, nI_eqE, nI_eqN, nI_Neq, nI_ltN, nI_Nlt, nI_leN, nI_Nle, nI_NeN, nI_subE, bd1_s, bd2_s, onrN, onrS, grd_t, grd_T, gI_eq, gI_ne, gL_pI, gI_pL, ltT, ltF, leT, leF, eqT, eqF, if_true, if_false, true_or, or_true, ite_true, ite_false, and_true, true_and, and_false, false_and, not_false_eq_true, not_true_eq_false, ↓reduceIte, in_eq, Nat.reduceAdd, Nat.reduceMul, Nat.zero_add, cE_f, cE_t, mE_f, mE_t, within_ok, ne_eq, c3, ixo_2, ixo_3, ixo_4, ixo_17, ixo_18, ixo_19, ixo_32, ixo_33, ixo_34, ixo_47, ixo_50, ixo_51, ixo_52, ixo_64, ixo_65, ixo_66, ixo_67, ixo_68, ixo_69, ixo_70, ixo_71, ixo_72, ixo_73, ixo_75, ixo_77, ixo_78, ixo_79, ixo_81, ixo_83, ixo_85, ixo_87, ixo_89, Nat.add_sub_cancel]
    rfl
  refine ⟨⟨?_, (CHd_c cd (fun _ => rfl) (by intros; simp (disch := omega) only [gI_ne, gI_eq])), (CHl_c cl hn rfl (fun _ => ⟨rfl, rfl, rfl, rfl, rfl⟩) (by intros; simp (disch := omega) only [gI_ne, gI_eq])), fun i hi => ?_⟩, ?_⟩
  · refine ⟨?_, ?_, ?_, ?_, ?_, ?_⟩ <;> simp (disch := omega) only [n_qs, n_qt, wax_qs, wax_qt, worth_qs, worth_qt, sold_qs, sold_qt, price_qs, price_qt, buyer_qs, buyer_qt, m_qs, m_qt, kind_qs, kind_qt, a_qs, a_qt, val_qs, val_qt, purse_qs, purse_qt, dr_qs, dr_qt, step_qs, step_qt, lit_qs, lit_qt, tick_qs, tick_qt, burnt_qs, burnt_qt, high_qs, high_qt, holder_qs, holder_qt, z_qs, gI_eq, gI_ne, gL_pI, gI_pL] <;> assumption
  · have hi : i < d.m + 1 := hi
    by_cases e : i = d.m
    · simp (disch := omega) only [n_qs, n_qt, wax_qs, wax_qt, worth_qs, worth_qt, sold_qs, sold_qt, price_qs, price_qt, buyer_qs, buyer_qt, m_qs, m_qt, kind_qs, kind_qt, a_qs, a_qt, val_qs, val_qt, purse_qs, purse_qt, dr_qs, dr_qt, step_qs, step_qt, lit_qs, lit_qt, tick_qs, tick_qt, burnt_qs, burnt_qt, high_qs, high_qt, holder_qs, holder_qt, z_qs, gI_eq, gI_ne, gL_pI, gI_pL, Nat.reduceAdd, and_self]
    · simp (disch := omega) only [n_qs, n_qt, wax_qs, wax_qt, worth_qs, worth_qt, sold_qs, sold_qt, price_qs, price_qt, buyer_qs, buyer_qt, m_qs, m_qt, kind_qs, kind_qt, a_qs, a_qt, val_qs, val_qt, purse_qs, purse_qt, dr_qs, dr_qt, step_qs, step_qt, lit_qs, lit_qt, tick_qs, tick_qt, burnt_qs, burnt_qt, high_qs, high_qt, holder_qs, holder_qt, z_qs, gI_eq, gI_ne, gL_pI, gI_pL]; exact cb i (by omega)
  · (repeat (refine Fr_pI _ ?_ (by unfold FH; omega))); exact Fr_rfl _ _
theorem cl_setD (D : Dr d) (hp : p ≤ 11) (C : CH 31 d σ) : CH 31 (qs d 11 p v) (pI σ 34 p (nI v)) := by
  obtain ⟨⟨⟨hn, hol⟩, hob, hoc⟩, h9, hs⟩ := D
  obtain ⟨cs, cd, cl, cb⟩ := C
  refine ⟨(CHs_c cs ⟨rfl, rfl, rfl, rfl, rfl, rfl, rfl, rfl, rfl⟩ (by intros; simp (disch := omega) only [gI_ne, gI_eq])), fun j hj => ?_, (CHl_c cl hn rfl (fun _ => ⟨rfl, rfl, rfl, rfl, rfl⟩) (by intros; simp (disch := omega) only [gI_ne, gI_eq])), (CHb_c cb hob.1 rfl (fun _ => ⟨rfl, rfl, rfl, rfl⟩) (by intros; simp (disch := omega) only [gI_ne, gI_eq]))⟩
  by_cases c : j = p
  · simp (disch := omega) only [n_qs, n_qt, wax_qs, wax_qt, worth_qs, worth_qt, sold_qs, sold_qt, price_qs, price_qt, buyer_qs, buyer_qt, m_qs, m_qt, kind_qs, kind_qt, a_qs, a_qt, val_qs, val_qt, purse_qs, purse_qt, dr_qs, dr_qt, step_qs, step_qt, lit_qs, lit_qt, tick_qs, tick_qt, burnt_qs, burnt_qt, high_qs, high_qt, holder_qs, holder_qt, z_qs, gI_eq, gI_ne, gL_pI, gI_pL]
  · simp (disch := omega) only [n_qs, n_qt, wax_qs, wax_qt, worth_qs, worth_qt, sold_qs, sold_qt, price_qs, price_qt, buyer_qs, buyer_qt, m_qs, m_qt, kind_qs, kind_qt, a_qs, a_qt, val_qs, val_qt, purse_qs, purse_qt, dr_qs, dr_qt, step_qs, step_qt, lit_qs, lit_qt, tick_qs, tick_qt, burnt_qs, burnt_qt, high_qs, high_qt, holder_qs, holder_qt, z_qs, gI_eq, gI_ne, gL_pI, gI_pL]; exact cd j hj
theorem cl_setS (D : Dr d) (C : CH 31 d σ) : CH 31 (qs d 12 0 v) (pI σ 31 5 (nI v)) := by
  obtain ⟨⟨⟨hn, hol⟩, hob, hoc⟩, h9, hs⟩ := D
  obtain ⟨cs, cd, cl, cb⟩ := C
  obtain ⟨c1, c3, c5, c6, c7, c8⟩ := id cs
  refine ⟨?_, (CHd_c cd (fun _ => rfl) (by intros; simp (disch := omega) only [gI_ne, gI_eq])), (CHl_c cl hn rfl (fun _ => ⟨rfl, rfl, rfl, rfl, rfl⟩) (by intros; simp (disch := omega) only [gI_ne, gI_eq])), (CHb_c cb hob.1 rfl (fun _ => ⟨rfl, rfl, rfl, rfl⟩) (by intros; simp (disch := omega) only [gI_ne, gI_eq]))⟩
  refine ⟨?_, ?_, ?_, ?_, ?_, ?_⟩ <;> simp (disch := omega) only [n_qs, n_qt, wax_qs, wax_qt, worth_qs, worth_qt, sold_qs, sold_qt, price_qs, price_qt, buyer_qs, buyer_qt, m_qs, m_qt, kind_qs, kind_qt, a_qs, a_qt, val_qs, val_qt, purse_qs, purse_qt, dr_qs, dr_qt, step_qs, step_qt, lit_qs, lit_qt, tick_qs, tick_qt, burnt_qs, burnt_qt, high_qs, high_qt, holder_qs, holder_qt, z_qs, gI_eq, gI_ne, gL_pI, gI_pL] <;> assumption
theorem CS_if (S : CS T x σ) : (x.2 = 0 ∧ ¬ gI σ 46 3 = (-3 : Int32)) ∨ (x.2 = 1 ∧ gI σ 46 3 = (-3 : Int32)) := by
  obtain ⟨K, hp, S⟩ := S
  rcases S with ⟨x2, e2, e3⟩ | ⟨x2, e3, -⟩
  · exact .inr ⟨x2, e3⟩
  · exact .inl ⟨x2, ft_no K hp e3⟩
theorem CS_fr (S : CS T x σ) (e : ∀ k i, k = 46 ∨ k = 47 → gI σ' k i = gI σ k i) : CS T x σ' := by
  obtain ⟨K, hp, S⟩ := S
  refine ⟨KT_fr K fun k i c => e k i (by omega), hp, ?_⟩
  rw [e 46 2 (by omega), e 46 3 (by omega)]
  exact S
def FD (k _i : Nat) : Prop := 31 ≤ k ∧ k ≤ 46
theorem FD_46 {σ σ' : Mem} (F : Fr (fun k _ => k = 46) σ σ') : Fr FD σ σ' := Fr_mono F fun k i c => by unfold FD; omega
theorem FD_31 {σ σ' : Mem} (F : Fr (FH 31) σ σ') : Fr FD σ σ' := Fr_mono F fun k i c => by unfold FH at c; unfold FD; omega
theorem CH_46 (D : Dr d) (C : CH 31 d σ) (F : Fr (fun k _ => k = 46) σ σ') : CH 31 d σ' := CH_fr D.1 C fun k i h1 h2 => F.1 k i (by omega)
theorem CS_31 (S : CS T x σ) (F : Fr (FH 31) σ σ') : CS T x σ' := CS_fr S fun k i c => F.1 k i (by unfold FH; omega)
theorem cl_lot (S : CS T (e, 1) σ) (hb : b ≤ T.2) (D : Dr d) (C : CH 31 d σ) : ∃ σ', f_X7_readLot 46 31 (nI b) σ = some σ' ∧ CS T (eLot T b e d).1 σ' ∧ CH 31 (eLot T b e d).2 σ' ∧ Dr (eLot T b e d).2 ∧ Fr FD σ σ' := by
  have hn := D.1.1.1
  unfold f_X7_readLot eLot
  by_cases h5 : d.n < 5
  · rw [if_pos (by rw [C.1.1, nI_lit 5, nI_ltE (by omega) (by omega)]; exact h5), if_pos h5]
    obtain ⟨r1, σ1, a1, S1, v1, F1⟩ := cl_num (lo := 1) (hi := 60) S (by omega) (by omega)
    obtain ⟨σ2, a2, S2, F2⟩ := cl_word (w := 7) S1 (by omega)
    obtain ⟨r3, σ3, a3, S3, v3, F3⟩ := cl_num (lo := 1) (hi := 99) S2 (by omega) (by omega)
    obtain ⟨σ4, a4, S4, F4⟩ := cl_end S3
    have F := Fr_tr F1 (Fr_tr F2 (Fr_tr F3 F4))
    have C4 := CH_46 D C F
    rw [nI_lit 1, nI_lit 60, a1, bd2_s, a2, bd1_s, nI_lit 99, a3, bd2_s, a4, bd1_s]
    have S4 : CS T (lD T e) σ4 := S4
    rcases CS_if S4 with ⟨z, y⟩ | ⟨z, y⟩
    · rw [if_neg y]
      simp only [if_pos z]
      exact ⟨σ4, rfl, S4, C4, D, FD_46 F⟩
    · have z' : ¬ (lD T e).2 = 0 := by omega
      have g3 := v3 (sEnd_nz z')
      have g1 := v1 (sWord_nz (sNum_nz (sEnd_nz z')))
      obtain ⟨r, σ5, a5, C5, F5⟩ := cl_addL (w := nuT T (sk T e)) (v := nuT T (sk T (lB T e).1)) D h5 C4
      have e1 : r1 = nI (nuT T (sk T e)) := g1.1
      have e3 : r3 = nI (nuT T (sk T (lB T e).1)) := g3.1
      rw [if_pos y, e1, e3, a5, bd2_s]
      simp only [if_neg z']
      exact ⟨σ5, rfl, CS_31 S4 F5, C5, Dr_L D h5 g1.2 g3.2, Fr_tr (FD_46 F) (FD_31 F5)⟩
  · rw [if_neg (by rw [C.1.1, nI_lit 5, nI_ltE (by omega) (by omega)]; exact h5), if_neg h5, bd1_s]
    obtain ⟨K, he, (⟨-, e2, -⟩ | ⟨c, -⟩)⟩ := S
    · have F : Fr (fun k _ => k = 46) σ (pI σ 46 3 (nI b)) := Fr_pI _ (Fr_rfl _ _) rfl
      exact ⟨_, rfl, CS_ft K hb he e2, CH_46 D C F, D, FD_46 F⟩
    · exact absurd (show (1 : Nat) = 0 from c) (by decide)
theorem cl_bid (S : CS T (e, 1) σ) (hb : b ≤ T.2) (hk : k ≤ 5) (D : Dr d) (C : CH 31 d σ) : ∃ σ', f_X7_readBidder 46 31 (nI b) (nI k) σ = some σ' ∧ CS T (eBid T b e k d).1 σ' ∧ CH 31 (eBid T b e k d).2 σ' ∧ Dr (eBid T b e k d).2 ∧ Fr FD σ σ' := by
  have hn := D.1.2.1.1
  unfold f_X7_readBidder eBid
  by_cases h5 : d.m < 6
  · rw [if_pos (by rw [C.1.2.1, nI_lit 6, nI_ltE (by omega) (by omega)]; exact h5), if_pos h5]
    obtain ⟨r1, σ1, a1, S1, v1, F1⟩ := cl_num (lo := 0) (hi := 9) S (by omega) (by omega)
    obtain ⟨σ2, a2, S2, F2⟩ := cl_word (w := 8) S1 (by omega)
    obtain ⟨r3, σ3, a3, S3, v3, F3⟩ := cl_num (lo := 0) (hi := 999) S2 (by omega) (by omega)
    obtain ⟨σ4, a4, S4, F4⟩ := cl_word (w := 9) S3 (by omega)
    obtain ⟨r5, σ5, a5, S5, v5, F5⟩ := cl_num (lo := 0) (hi := 9999) S4 (by omega) (by omega)
    obtain ⟨σ6, a6, S6, F6⟩ := cl_end S5
    have F := Fr_tr F1 (Fr_tr F2 (Fr_tr F3 (Fr_tr F4 (Fr_tr F5 F6))))
    have C6 := CH_46 D C F
    rw [nI_lit 0, nI_lit 9, a1, bd2_s, a2, bd1_s, nI_lit 999, a3, bd2_s, a4, bd1_s, nI_lit 9999, a5, bd2_s, a6, bd1_s]
    have S6 : CS T (bF T e) σ6 := S6
    rcases CS_if S6 with ⟨z, y⟩ | ⟨z, y⟩
    · rw [if_neg y]
      simp only [if_pos z]
      exact ⟨σ6, rfl, S6, C6, D, FD_46 F⟩
    · have z' : ¬ (bF T e).2 = 0 := by omega
      have g5 := v5 (sEnd_nz z')
      have g3 := v3 (sWord_nz (sNum_nz (sEnd_nz z')))
      have g1 := v1 (sWord_nz (sNum_nz (sWord_nz (sNum_nz (sEnd_nz z')))))
      obtain ⟨r, σ7, a7, C7, F7⟩ := cl_addB (k := k) (a := nuT T (sk T e)) (v := nuT T (sk T (bB T e).1)) (p := nuT T (sk T (bD T e).1)) D h5 C6
      have e1 : r1 = nI (nuT T (sk T e)) := g1.1
      have e3 : r3 = nI (nuT T (sk T (bB T e).1)) := g3.1
      have e5 : r5 = nI (nuT T (sk T (bD T e).1)) := g5.1
      rw [if_pos y, e1, e3, e5, a7, bd2_s]
      simp only [if_neg z']
      exact ⟨σ7, rfl, CS_31 S6 F7, C7, Dr_B D h5 hk g1.2.2 g3.2.2 g5.2.2, Fr_tr (FD_46 F) (FD_31 F7)⟩
  · rw [if_neg (by rw [C.1.2.1, nI_lit 6, nI_ltE (by omega) (by omega)]; exact h5), if_neg h5, bd1_s]
    obtain ⟨K, he, (⟨-, e2, -⟩ | ⟨c, -⟩)⟩ := S
    · have F : Fr (fun k _ => k = 46) σ (pI σ 46 3 (nI b)) := Fr_pI _ (Fr_rfl _ _) rfl
      exact ⟨_, rfl, CS_ft K hb he e2, CH_46 D C F, D, FD_46 F⟩
    · exact absurd (show (1 : Nat) = 0 from c) (by decide)
theorem cl_drt (S : CS T (e, 1) σ) (D : Dr d) (C : CH 31 d σ) : ∃ σ', f_X7_readDraught 46 31 σ = some σ' ∧ CS T (eDr T e d).1 σ' ∧ CH 31 (eDr T e d).2 σ' ∧ Dr (eDr T e d).2 ∧ Fr FD σ σ' := by
  unfold f_X7_readDraught eDr
  obtain ⟨r1, σ1, a1, S1, v1, F1⟩ := cl_num (lo := 0) (hi := 11) S (by omega) (by omega)
  obtain ⟨r3, σ3, a3, S3, v3, F3⟩ := cl_num (lo := 0) (hi := 3) S1 (by omega) (by omega)
  obtain ⟨σ4, a4, S4, F4⟩ := cl_end S3
  have F := Fr_tr F1 (Fr_tr F3 F4)
  have C4 := CH_46 D C F
  rw [nI_lit 0, nI_lit 11, a1, bd2_s, nI_lit 3, a3, bd2_s, a4, bd1_s]
  have S4 : CS T (gC T e) σ4 := S4
  rcases CS_if S4 with ⟨z, y⟩ | ⟨z, y⟩
  · have y : ¬ gI σ4 46 3 = -nI 3 := y
    rw [if_neg y]
    simp only [if_pos z]
    exact ⟨σ4, rfl, S4, C4, D, FD_46 F⟩
  · have z' : ¬ (gC T e).2 = 0 := by omega
    have y : gI σ4 46 3 = -nI 3 := y
    have g3 := v3 (sEnd_nz z')
    have g1 := v1 (sNum_nz (sEnd_nz z'))
    have e1 : r1 = nI (nuT T (sk T e)) := g1.1
    have e3 : r3 = nI (nuT T (sk T (gA T e).1)) := g3.1
    have i1 : ixo 34 (nI (nuT T (sk T e))) = some (nuT T (sk T e)) := ixo_34 (by have := g1.2.2; show nuT T (sk T (e, 1).1) < 12; omega)
    have F5 : Fr (FH 31) σ4 (pI σ4 34 (nuT T (sk T e)) (nI (nuT T (sk T (gA T e).1)))) := Fr_pI _ (Fr_rfl _ _) (by unfold FH; omega)
    rw [if_pos y, e1, e3]
    simp only [Nat.reduceAdd, i1, bd1_s, if_neg z']
    exact ⟨_, rfl, CS_31 S4 F5, cl_setD D g1.2.2 C4, Dr_D D g1.2.2 g3.2.2, Fr_tr (FD_46 F) (FD_31 F5)⟩
theorem cl_st (S : CS T (e, 1) σ) (D : Dr d) (C : CH 31 d σ) : ∃ σ', f_X7_readStep 46 31 σ = some σ' ∧ CS T (eSt T e d).1 σ' ∧ CH 31 (eSt T e d).2 σ' ∧ Dr (eSt T e d).2 ∧ Fr FD σ σ' := by
  unfold f_X7_readStep eSt
  obtain ⟨r1, σ1, a1, S1, v1, F1⟩ := cl_num (lo := 1) (hi := 20) S (by omega) (by omega)
  obtain ⟨σ4, a4, S4, F4⟩ := cl_end S1
  have F := Fr_tr F1 F4
  have C4 := CH_46 D C F
  rw [nI_lit 1, nI_lit 20, a1, bd2_s, a4, bd1_s]
  have S4 : CS T (tB T e) σ4 := S4
  rcases CS_if S4 with ⟨z, y⟩ | ⟨z, y⟩
  · rw [if_neg y]
    simp only [if_pos z]
    exact ⟨σ4, rfl, S4, C4, D, FD_46 F⟩
  · have z' : ¬ (tB T e).2 = 0 := by omega
    have g1 := v1 (sEnd_nz z')
    have e1 : r1 = nI (nuT T (sk T e)) := g1.1
    have F5 : Fr (FH 31) σ4 (pI σ4 31 5 (nI (nuT T (sk T e)))) := Fr_pI _ (Fr_rfl _ _) (by unfold FH; omega)
    rw [if_pos y, e1, bd1_s]
    simp only [if_neg z']
    exact ⟨_, rfl, CS_31 S4 F5, cl_setS D C4, Dr_S D g1.2, Fr_tr (FD_46 F) (FD_31 F5)⟩
end
