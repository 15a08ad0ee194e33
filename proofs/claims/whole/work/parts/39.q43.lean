def tSold (q : HQ) (i : Nat) : Int32 := if q.sold i = 1 then nI 1 else nI 0
def tTo (q : HQ) (w : Nat) (i : Nat) : Int32 := if q.sold i = 1 then (if q.buyer i = w then nI 1 else nI 0) else nI 0
def tPrice (q : HQ) (i : Nat) : Int32 := if q.sold i = 1 then nI (q.price i) else nI 0
def tPurse (q : HQ) (i : Nat) : Int32 := nI (q.purse i)
def sumI (t : Nat → Int32) (n : Nat) : Int32 := (List.range' 0 n).foldl (fun v i => v + t i) (nI 0)
def mostR (q : HQ) (w : Nat) : Nat → Nat → Nat → Nat
  | 0, _, k => k
  | d + 1, i, k => mostR q w d (i + 1) (if limw q k w < limw q i w then i else k)
section
variable {q : HQ} {σ : Mem}
theorem cE_eq {x y : Nat} (hx : x ≤ 9) (hy : y ≤ 9) : (cE x = cE y) = (x = y) := by
  by_cases h1 : x = 9 <;> by_cases h2 : y = 9 <;> simp (disch := omega) only [nI_lit, nI_addE, nI_mulE, nI_ltE, nI_leE, nI_eqE, nI_eqN, nI_Neq, nI_ltN, nI_Nlt, nI_leN, nI_Nle, nI_NeN, nI_subE, bd1_s, bd2_s, onrN, onrS, grd_t, grd_T, gI_eq, gI_ne, gL_pI, gI_pL, ltT, ltF, leT, leF, eqT, eqF, if_true, if_false, true_or, or_true, ite_true, ite_false, and_true, true_and, and_false, false_and, not_false_eq_true, not_true_eq_false, ↓reduceIte, in_eq, Nat.reduceAdd, Nat.reduceMul, Nat.zero_add, cE_f, cE_t, mE_f, mE_t, within_ok, ne_eq]
theorem cl_soldLots (hn : q.n ≤ 5) (hol : q.Okl) (c1 : gI σ 1 1 = nI q.n) (cl : CHl 1 q σ) : f_X2_soldLots 1 σ = some (sumI (tSold q) q.n, σ) := by
  refine acc_loop (tSold q) q.n σ (fun rec v i hi => ?_) (fun rec v => ?_) q.n 0 (nI 0) FU (by omega) (FU_lt (by omega))
  · have w := (cl.1 i hi).2.2.1
    have o := (hol.2 i hi).2.2.1
    simp only [Nat.reduceAdd] at w
    by_cases s : q.sold i = 1 <;> simp (disch := omega) only [F_X2_soldLots_4, tSold, nI_lit, nI_addE, nI_mulE, nI_ltE, nI_leE, nI_eqE, nI_eqN, nI_Neq, nI_ltN, nI_Nlt, nI_leN, nI_Nle, nI_NeN, nI_subE, bd1_s, bd2_s, onrN, onrS, grd_t, grd_T, gI_eq, gI_ne, gL_pI, gI_pL, ltT, ltF, leT, leF, eqT, eqF, if_true, if_false, true_or, or_true, ite_true, ite_false, and_true, true_and, and_false, false_and, not_false_eq_true, not_true_eq_false, ↓reduceIte, in_eq, Nat.reduceAdd, Nat.reduceMul, Nat.zero_add, cE_f, cE_t, mE_f, mE_t, within_ok, ne_eq, ixo_2, ixo_3, ixo_4, ixo_17, ixo_18, ixo_19, ixo_32, ixo_33, ixo_34, ixo_47, ixo_50, ixo_51, ixo_52, ixo_64, ixo_65, ixo_66, ixo_67, ixo_68, ixo_69, ixo_70, ixo_71, ixo_72, ixo_73, ixo_75, ixo_77, ixo_78, ixo_79, ixo_81, ixo_83, ixo_85, ixo_87, ixo_89, h13, c1, w]
  · simp (disch := omega) only [F_X2_soldLots_4, nI_lit, nI_addE, nI_mulE, nI_ltE, nI_leE, nI_eqE, nI_eqN, nI_Neq, nI_ltN, nI_Nlt, nI_leN, nI_Nle, nI_NeN, nI_subE, bd1_s, bd2_s, onrN, onrS, grd_t, grd_T, gI_eq, gI_ne, gL_pI, gI_pL, ltT, ltF, leT, leF, eqT, eqF, if_true, if_false, true_or, or_true, ite_true, ite_false, and_true, true_and, and_false, false_and, not_false_eq_true, not_true_eq_false, ↓reduceIte, in_eq, Nat.reduceAdd, Nat.reduceMul, Nat.zero_add, cE_f, cE_t, mE_f, mE_t, within_ok, ne_eq, c1]
theorem cl_soldTo {w : Nat} (hw : w ≤ 9) (hol : q.Okl) (hm : q.m ≤ 6) (c1 : gI σ 1 1 = nI q.n) (cl : CHl 1 q σ) : f_X2_lotsSoldTo 1 (cE w) σ = some (sumI (tTo q w) q.n, σ) := by
  have hn := hol.1
  refine acc_loop (tTo q w) q.n σ (fun rec v i hi => ?_) (fun rec v => ?_) q.n 0 (nI 0) FU (by omega) (FU_lt (by omega))
  · have k := (cl.1 i hi)
    have o := (hol.2 i hi).2.2
    simp only [Nat.reduceAdd] at k
    obtain ⟨-, -, k3, -, k5⟩ := k
    by_cases s : q.sold i = 1
    · have o2 := (o.2 s).2
      rw [if_pos s] at k5
      have ee := cE_eq (x := q.buyer i) (y := w) (by omega) hw
      by_cases g : q.buyer i = w
      · rw [eq_true g] at ee
        simp (disch := omega) only [F_X2_lotsSoldTo_4, tTo, nI_lit, nI_eqE, nI_addE, bd1_s, bd2_s, onrN, onrS, grd_t, grd_T, ltT, ltF, leT, leF, eqT, eqF, if_true, if_false, true_or, or_true, ite_true, ite_false, and_true, true_and, and_false, false_and, not_false_eq_true, not_true_eq_false, ↓reduceIte, Nat.reduceAdd, ixo_2, ixo_3, ixo_4, ixo_17, ixo_18, ixo_19, ixo_32, ixo_33, ixo_34, ixo_47, ixo_50, ixo_51, ixo_52, ixo_64, ixo_65, ixo_66, ixo_67, ixo_68, ixo_69, ixo_70, ixo_71, ixo_72, ixo_73, ixo_75, ixo_77, ixo_78, ixo_79, ixo_81, ixo_83, ixo_85, ixo_87, ixo_89, h13, c1, k3, k5, nI_leE, ee]
      · rw [eq_false g] at ee
        simp (disch := omega) only [F_X2_lotsSoldTo_4, tTo, nI_lit, nI_eqE, nI_addE, bd1_s, bd2_s, onrN, onrS, grd_t, grd_T, ltT, ltF, leT, leF, eqT, eqF, if_true, if_false, true_or, or_true, ite_true, ite_false, and_true, true_and, and_false, false_and, not_false_eq_true, not_true_eq_false, ↓reduceIte, Nat.reduceAdd, ixo_2, ixo_3, ixo_4, ixo_17, ixo_18, ixo_19, ixo_32, ixo_33, ixo_34, ixo_47, ixo_50, ixo_51, ixo_52, ixo_64, ixo_65, ixo_66, ixo_67, ixo_68, ixo_69, ixo_70, ixo_71, ixo_72, ixo_73, ixo_75, ixo_77, ixo_78, ixo_79, ixo_81, ixo_83, ixo_85, ixo_87, ixo_89, h13, c1, k3, k5, nI_leE, ee]
    · simp (disch := omega) only [F_X2_lotsSoldTo_4, tTo, nI_lit, nI_addE, nI_mulE, nI_ltE, nI_leE, nI_eqE, nI_eqN, nI_Neq, nI_ltN, nI_Nlt, nI_leN, nI_Nle, nI_NeN, nI_subE, bd1_s, bd2_s, onrN, onrS, grd_t, grd_T, gI_eq, gI_ne, gL_pI, gI_pL, ltT, ltF, leT, leF, eqT, eqF, if_true, if_false, true_or, or_true, ite_true, ite_false, and_true, true_and, and_false, false_and, not_false_eq_true, not_true_eq_false, ↓reduceIte, in_eq, Nat.reduceAdd, Nat.reduceMul, Nat.zero_add, cE_f, cE_t, mE_f, mE_t, within_ok, ne_eq, ixo_2, ixo_3, ixo_4, ixo_17, ixo_18, ixo_19, ixo_32, ixo_33, ixo_34, ixo_47, ixo_50, ixo_51, ixo_52, ixo_64, ixo_65, ixo_66, ixo_67, ixo_68, ixo_69, ixo_70, ixo_71, ixo_72, ixo_73, ixo_75, ixo_77, ixo_78, ixo_79, ixo_81, ixo_83, ixo_85, ixo_87, ixo_89, h13, c1, k3]
  · simp (disch := omega) only [F_X2_lotsSoldTo_4, nI_lit, nI_addE, nI_mulE, nI_ltE, nI_leE, nI_eqE, nI_eqN, nI_Neq, nI_ltN, nI_Nlt, nI_leN, nI_Nle, nI_NeN, nI_subE, bd1_s, bd2_s, onrN, onrS, grd_t, grd_T, gI_eq, gI_ne, gL_pI, gI_pL, ltT, ltF, leT, leF, eqT, eqF, if_true, if_false, true_or, or_true, ite_true, ite_false, and_true, true_and, and_false, false_and, not_false_eq_true, not_true_eq_false, ↓reduceIte, in_eq, Nat.reduceAdd, Nat.reduceMul, Nat.zero_add, cE_f, cE_t, mE_f, mE_t, within_ok, ne_eq, c1]
theorem cl_prices (hol : q.Okl) (c1 : gI σ 1 1 = nI q.n) (cl : CHl 1 q σ) : f_X2_allPrices 1 σ = some (sumI (tPrice q) q.n, σ) := by
  have hn := hol.1
  refine acc_loop (tPrice q) q.n σ (fun rec v i hi => ?_) (fun rec v => ?_) q.n 0 (nI 0) FU (by omega) (FU_lt (by omega))
  · have k := (cl.1 i hi)
    have o := (hol.2 i hi).2.2
    simp only [Nat.reduceAdd] at k
    obtain ⟨-, -, k3, k4, -⟩ := k
    by_cases s : q.sold i = 1
    · rw [if_pos s] at k4
      simp (disch := omega) only [F_X2_allPrices_4, tPrice, nI_lit, nI_addE, nI_mulE, nI_ltE, nI_leE, nI_eqE, nI_eqN, nI_Neq, nI_ltN, nI_Nlt, nI_leN, nI_Nle, nI_NeN, nI_subE, bd1_s, bd2_s, onrN, onrS, grd_t, grd_T, gI_eq, gI_ne, gL_pI, gI_pL, ltT, ltF, leT, leF, eqT, eqF, if_true, if_false, true_or, or_true, ite_true, ite_false, and_true, true_and, and_false, false_and, not_false_eq_true, not_true_eq_false, ↓reduceIte, in_eq, Nat.reduceAdd, Nat.reduceMul, Nat.zero_add, cE_f, cE_t, mE_f, mE_t, within_ok, ne_eq, ixo_2, ixo_3, ixo_4, ixo_17, ixo_18, ixo_19, ixo_32, ixo_33, ixo_34, ixo_47, ixo_50, ixo_51, ixo_52, ixo_64, ixo_65, ixo_66, ixo_67, ixo_68, ixo_69, ixo_70, ixo_71, ixo_72, ixo_73, ixo_75, ixo_77, ixo_78, ixo_79, ixo_81, ixo_83, ixo_85, ixo_87, ixo_89, h13, c1, k3, k4]
    · simp (disch := omega) only [F_X2_allPrices_4, tPrice, nI_lit, nI_addE, nI_mulE, nI_ltE, nI_leE, nI_eqE, nI_eqN, nI_Neq, nI_ltN, nI_Nlt, nI_leN, nI_Nle, nI_NeN, nI_subE, bd1_s, bd2_s, onrN, onrS, grd_t, grd_T, gI_eq, gI_ne, gL_pI, gI_pL, ltT, ltF, leT, leF, eqT, eqF, if_true, if_false, true_or, or_true, ite_true, ite_false, and_true, true_and, and_false, false_and, not_false_eq_true, not_true_eq_false, ↓reduceIte, in_eq, Nat.reduceAdd, Nat.reduceMul, Nat.zero_add, cE_f, cE_t, mE_f, mE_t, within_ok, ne_eq, ixo_2, ixo_3, ixo_4, ixo_17, ixo_18, ixo_19, ixo_32, ixo_33, ixo_34, ixo_47, ixo_50, ixo_51, ixo_52, ixo_64, ixo_65, ixo_66, ixo_67, ixo_68, ixo_69, ixo_70, ixo_71, ixo_72, ixo_73, ixo_75, ixo_77, ixo_78, ixo_79, ixo_81, ixo_83, ixo_85, ixo_87, ixo_89, h13, c1, k3]
  · simp (disch := omega) only [F_X2_allPrices_4, nI_lit, nI_addE, nI_mulE, nI_ltE, nI_leE, nI_eqE, nI_eqN, nI_Neq, nI_ltN, nI_Nlt, nI_leN, nI_Nle, nI_NeN, nI_subE, bd1_s, bd2_s, onrN, onrS, grd_t, grd_T, gI_eq, gI_ne, gL_pI, gI_pL, ltT, ltF, leT, leF, eqT, eqF, if_true, if_false, true_or, or_true, ite_true, ite_false, and_true, true_and, and_false, false_and, not_false_eq_true, not_true_eq_false, ↓reduceIte, in_eq, Nat.reduceAdd, Nat.reduceMul, Nat.zero_add, cE_f, cE_t, mE_f, mE_t, within_ok, ne_eq, c1]
theorem cl_purses (hob : q.Okb) (c3 : gI σ 1 3 = nI q.m) (cb : CHb 1 q σ) : f_X2_allPurses 1 σ = some (sumI (tPurse q) q.m, σ) := by
  have hm := hob.1
  refine acc_loop (tPurse q) q.m σ (fun rec v i hi => ?_) (fun rec v => ?_) q.m 0 (nI 0) FU (by omega) (FU_lt (by omega))
  · have k := (cb i hi).2.2.2
    simp only [Nat.reduceAdd] at k
    simp (disch := omega) only [F_X2_allPurses_4, tPurse, nI_lit, nI_addE, nI_mulE, nI_ltE, nI_leE, nI_eqE, nI_eqN, nI_Neq, nI_ltN, nI_Nlt, nI_leN, nI_Nle, nI_NeN, nI_subE, bd1_s, bd2_s, onrN, onrS, grd_t, grd_T, gI_eq, gI_ne, gL_pI, gI_pL, ltT, ltF, leT, leF, eqT, eqF, if_true, if_false, true_or, or_true, ite_true, ite_false, and_true, true_and, and_false, false_and, not_false_eq_true, not_true_eq_false, ↓reduceIte, in_eq, Nat.reduceAdd, Nat.reduceMul, Nat.zero_add, cE_f, cE_t, mE_f, mE_t, within_ok, ne_eq, ixo_2, ixo_3, ixo_4, ixo_17, ixo_18, ixo_19, ixo_32, ixo_33, ixo_34, ixo_47, ixo_50, ixo_51, ixo_52, ixo_64, ixo_65, ixo_66, ixo_67, ixo_68, ixo_69, ixo_70, ixo_71, ixo_72, ixo_73, ixo_75, ixo_77, ixo_78, ixo_79, ixo_81, ixo_83, ixo_85, ixo_87, ixo_89, h27, c3, k]
  · simp (disch := omega) only [F_X2_allPurses_4, nI_lit, nI_addE, nI_mulE, nI_ltE, nI_leE, nI_eqE, nI_eqN, nI_Neq, nI_ltN, nI_Nlt, nI_leN, nI_Nle, nI_NeN, nI_subE, bd1_s, bd2_s, onrN, onrS, grd_t, grd_T, gI_eq, gI_ne, gL_pI, gI_pL, ltT, ltF, leT, leF, eqT, eqF, if_true, if_false, true_or, or_true, ite_true, ite_false, and_true, true_and, and_false, false_and, not_false_eq_true, not_true_eq_false, ↓reduceIte, in_eq, Nat.reduceAdd, Nat.reduceMul, Nat.zero_add, cE_f, cE_t, mE_f, mE_t, within_ok, ne_eq, c3]
theorem md_many2 (hol : q.Okl) (m0 : gI σ 94 0 = nI q.n) (ml : MHl q σ) : iterF (F_X10_many_52 94) (fun _ _ _ => none) FU (nI 0) (nI 0) σ = some (sumI (tSold q) q.n, σ) := by
  have hn := hol.1
  refine acc_loop (tSold q) q.n σ (fun rec v i hi => ?_) (fun rec v => ?_) q.n 0 (nI 0) FU (by omega) (FU_lt (by omega))
  · have k := (ml i hi).2.2.1
    have o := (hol.2 i hi).2.2.1
    have : q.sold i = 0 ∨ q.sold i = 1 := by omega
    rcases this with s | s <;> simp (disch := omega) only [F_X10_many_52, tSold, nI_lit, nI_addE, nI_mulE, nI_ltE, nI_leE, nI_eqE, nI_eqN, nI_Neq, nI_ltN, nI_Nlt, nI_leN, nI_Nle, nI_NeN, nI_subE, bd1_s, bd2_s, onrN, onrS, grd_t, grd_T, gI_eq, gI_ne, gL_pI, gI_pL, ltT, ltF, leT, leF, eqT, eqF, if_true, if_false, true_or, or_true, ite_true, ite_false, and_true, true_and, and_false, false_and, not_false_eq_true, not_true_eq_false, ↓reduceIte, in_eq, Nat.reduceAdd, Nat.reduceMul, Nat.zero_add, cE_f, cE_t, mE_f, mE_t, within_ok, ne_eq, ixo_95, ixo_96, ixo_97, ixo_98, ixo_99, ixo_100, ixo_101, ixo_102, ixo_103, ixo_104, ixo_105, ixo_106, ixo_107, ixo_108, ixo_109, ixo_110, ixo_111, ixo_112, ixo_113, ixo_114, ixo_115, ixo_116, ixo_117, ixo_118, ixo_119, ixo_120, ixo_121, ixo_122, ixo_123, ixo_124, ixo_125, ixo_126, m0, k, s]
  · simp (disch := omega) only [F_X10_many_52, nI_lit, nI_addE, nI_mulE, nI_ltE, nI_leE, nI_eqE, nI_eqN, nI_Neq, nI_ltN, nI_Nlt, nI_leN, nI_Nle, nI_NeN, nI_subE, bd1_s, bd2_s, onrN, onrS, grd_t, grd_T, gI_eq, gI_ne, gL_pI, gI_pL, ltT, ltF, leT, leF, eqT, eqF, if_true, if_false, true_or, or_true, ite_true, ite_false, and_true, true_and, and_false, false_and, not_false_eq_true, not_true_eq_false, ↓reduceIte, in_eq, Nat.reduceAdd, Nat.reduceMul, Nat.zero_add, cE_f, cE_t, mE_f, mE_t, within_ok, ne_eq, m0]
theorem md_lotsOf {b : Nat} (hb : b < 6) (hol : q.Okl) (hm : q.m ≤ 6) (m0 : gI σ 94 0 = nI q.n) (ml : MHl q σ) : f_X10_lotsOf 94 (nI b) σ = some (sumI (tTo q b) q.n, σ) := by
  have hn := hol.1
  refine acc_loop (tTo q b) q.n σ (fun rec v i hi => ?_) (fun rec v => ?_) q.n 0 (nI 0) FU (by omega) (FU_lt (by omega))
  · obtain ⟨-, -, k3, k4⟩ := ml i hi
    have o := (hol.2 i hi).2.2
    by_cases s : q.sold i = 1
    · obtain ⟨-, k5⟩ := k4 s
      have o2 := (o.2 s).2
      by_cases g : q.buyer i = b
      · simp (disch := omega) only [F_X10_lotsOf_4, tTo, nI_lit, nI_addE, nI_mulE, nI_ltE, nI_leE, nI_eqE, nI_eqN, nI_Neq, nI_ltN, nI_Nlt, nI_leN, nI_Nle, nI_NeN, nI_subE, bd1_s, bd2_s, onrN, onrS, grd_t, grd_T, gI_eq, gI_ne, gL_pI, gI_pL, ltT, ltF, leT, leF, eqT, eqF, if_true, if_false, true_or, or_true, ite_true, ite_false, and_true, true_and, and_false, false_and, not_false_eq_true, not_true_eq_false, ↓reduceIte, in_eq, Nat.reduceAdd, Nat.reduceMul, Nat.zero_add, cE_f, cE_t, mE_f, mE_t, within_ok, ne_eq, ixo_95, ixo_96, ixo_97, ixo_98, ixo_99, ixo_100, ixo_101, ixo_102, ixo_103, ixo_104, ixo_105, ixo_106, ixo_107, ixo_108, ixo_109, ixo_110, ixo_111, ixo_112, ixo_113, ixo_114, ixo_115, ixo_116, ixo_117, ixo_118, ixo_119, ixo_120, ixo_121, ixo_122, ixo_123, ixo_124, ixo_125, ixo_126, m0, k3, k5]
      · by_cases e : q.buyer i = 9 <;> simp (disch := omega) only [F_X10_lotsOf_4, tTo, nI_lit, nI_addE, nI_mulE, nI_ltE, nI_leE, nI_eqE, nI_eqN, nI_Neq, nI_ltN, nI_Nlt, nI_leN, nI_Nle, nI_NeN, nI_subE, bd1_s, bd2_s, onrN, onrS, grd_t, grd_T, gI_eq, gI_ne, gL_pI, gI_pL, ltT, ltF, leT, leF, eqT, eqF, if_true, if_false, true_or, or_true, ite_true, ite_false, and_true, true_and, and_false, false_and, not_false_eq_true, not_true_eq_false, ↓reduceIte, in_eq, Nat.reduceAdd, Nat.reduceMul, Nat.zero_add, cE_f, cE_t, mE_f, mE_t, within_ok, ne_eq, ixo_95, ixo_96, ixo_97, ixo_98, ixo_99, ixo_100, ixo_101, ixo_102, ixo_103, ixo_104, ixo_105, ixo_106, ixo_107, ixo_108, ixo_109, ixo_110, ixo_111, ixo_112, ixo_113, ixo_114, ixo_115, ixo_116, ixo_117, ixo_118, ixo_119, ixo_120, ixo_121, ixo_122, ixo_123, ixo_124, ixo_125, ixo_126, m0, k3, k5]
    · simp (disch := omega) only [F_X10_lotsOf_4, tTo, nI_lit, nI_addE, nI_mulE, nI_ltE, nI_leE, nI_eqE, nI_eqN, nI_Neq, nI_ltN, nI_Nlt, nI_leN, nI_Nle, nI_NeN, nI_subE, bd1_s, bd2_s, onrN, onrS, grd_t, grd_T, gI_eq, gI_ne, gL_pI, gI_pL, ltT, ltF, leT, leF, eqT, eqF, if_true, if_false, true_or, or_true, ite_true, ite_false, and_true, true_and, and_false, false_and, not_false_eq_true, not_true_eq_false, ↓reduceIte, in_eq, Nat.reduceAdd, Nat.reduceMul, Nat.zero_add, cE_f, cE_t, mE_f, mE_t, within_ok, ne_eq, ixo_95, ixo_96, ixo_97, ixo_98, ixo_99, ixo_100, ixo_101, ixo_102, ixo_103, ixo_104, ixo_105, ixo_106, ixo_107, ixo_108, ixo_109, ixo_110, ixo_111, ixo_112, ixo_113, ixo_114, ixo_115, ixo_116, ixo_117, ixo_118, ixo_119, ixo_120, ixo_121, ixo_122, ixo_123, ixo_124, ixo_125, ixo_126, m0, k3]
  · simp (disch := omega) only [F_X10_lotsOf_4, nI_lit, nI_addE, nI_mulE, nI_ltE, nI_leE, nI_eqE, nI_eqN, nI_Neq, nI_ltN, nI_Nlt, nI_leN, nI_Nle, nI_NeN, nI_subE, bd1_s, bd2_s, onrN, onrS, grd_t, grd_T, gI_eq, gI_ne, gL_pI, gI_pL, ltT, ltF, leT, leF, eqT, eqF, if_true, if_false, true_or, or_true, ite_true, ite_false, and_true, true_and, and_false, false_and, not_false_eq_true, not_true_eq_false, ↓reduceIte, in_eq, Nat.reduceAdd, Nat.reduceMul, Nat.zero_add, cE_f, cE_t, mE_f, mE_t, within_ok, ne_eq, m0]
theorem md_owed0 (hol : q.Okl) (m0 : gI σ 94 0 = nI q.n) (ml : MHl q σ) : iterF (F_X10_owed_30 94) (fun _ _ _ => none) FU (nI 0) (nI 0) σ = some (sumI (tPrice q) q.n, σ) := by
  have hn := hol.1
  refine acc_loop (tPrice q) q.n σ (fun rec v i hi => ?_) (fun rec v => ?_) q.n 0 (nI 0) FU (by omega) (FU_lt (by omega))
  · obtain ⟨-, -, k3, k4⟩ := ml i hi
    have o := (hol.2 i hi).2.2
    by_cases s : q.sold i = 1
    · obtain ⟨k5, -⟩ := k4 s
      simp (disch := omega) only [F_X10_owed_30, tPrice, nI_lit, nI_addE, nI_mulE, nI_ltE, nI_leE, nI_eqE, nI_eqN, nI_Neq, nI_ltN, nI_Nlt, nI_leN, nI_Nle, nI_NeN, nI_subE, bd1_s, bd2_s, onrN, onrS, grd_t, grd_T, gI_eq, gI_ne, gL_pI, gI_pL, ltT, ltF, leT, leF, eqT, eqF, if_true, if_false, true_or, or_true, ite_true, ite_false, and_true, true_and, and_false, false_and, not_false_eq_true, not_true_eq_false, ↓reduceIte, in_eq, Nat.reduceAdd, Nat.reduceMul, Nat.zero_add, cE_f, cE_t, mE_f, mE_t, within_ok, ne_eq, ixo_95, ixo_96, ixo_97, ixo_98, ixo_99, ixo_100, ixo_101, ixo_102, ixo_103, ixo_104, ixo_105, ixo_106, ixo_107, ixo_108, ixo_109, ixo_110, ixo_111, ixo_112, ixo_113, ixo_114, ixo_115, ixo_116, ixo_117, ixo_118, ixo_119, ixo_120, ixo_121, ixo_122, ixo_123, ixo_124, ixo_125, ixo_126, m0, k3, k5]
    · simp (disch := omega) only [F_X10_owed_30, tPrice, nI_lit, nI_addE, nI_mulE, nI_ltE, nI_leE, nI_eqE, nI_eqN, nI_Neq, nI_ltN, nI_Nlt, nI_leN, nI_Nle, nI_NeN, nI_subE, bd1_s, bd2_s, onrN, onrS, grd_t, grd_T, gI_eq, gI_ne, gL_pI, gI_pL, ltT, ltF, leT, leF, eqT, eqF, if_true, if_false, true_or, or_true, ite_true, ite_false, and_true, true_and, and_false, false_and, not_false_eq_true, not_true_eq_false, ↓reduceIte, in_eq, Nat.reduceAdd, Nat.reduceMul, Nat.zero_add, cE_f, cE_t, mE_f, mE_t, within_ok, ne_eq, ixo_95, ixo_96, ixo_97, ixo_98, ixo_99, ixo_100, ixo_101, ixo_102, ixo_103, ixo_104, ixo_105, ixo_106, ixo_107, ixo_108, ixo_109, ixo_110, ixo_111, ixo_112, ixo_113, ixo_114, ixo_115, ixo_116, ixo_117, ixo_118, ixo_119, ixo_120, ixo_121, ixo_122, ixo_123, ixo_124, ixo_125, ixo_126, m0, k3]
  · simp (disch := omega) only [F_X10_owed_30, nI_lit, nI_addE, nI_mulE, nI_ltE, nI_leE, nI_eqE, nI_eqN, nI_Neq, nI_ltN, nI_Nlt, nI_leN, nI_Nle, nI_NeN, nI_subE, bd1_s, bd2_s, onrN, onrS, grd_t, grd_T, gI_eq, gI_ne, gL_pI, gI_pL, ltT, ltF, leT, leF, eqT, eqF, if_true, if_false, true_or, or_true, ite_true, ite_false, and_true, true_and, and_false, false_and, not_false_eq_true, not_true_eq_false, ↓reduceIte, in_eq, Nat.reduceAdd, Nat.reduceMul, Nat.zero_add, cE_f, cE_t, mE_f, mE_t, within_ok, ne_eq, m0]
theorem md_owed1 (hob : q.Okb) (m8 : gI σ 94 8 = nI q.m) (mr : MHr 0 q σ) : iterF (F_X10_owed_71 94) (fun _ _ _ => none) FU (nI 0) (nI 0) σ = some (sumI (tPurse q) q.m, σ) := by
  have hm := hob.1
  refine acc_loop (tPurse q) q.m σ (fun rec v i hi => ?_) (fun rec v => ?_) q.m 0 (nI 0) FU (by omega) (FU_lt (by omega))
  · have k := mr.2.2.2.2.2 i hi
    simp only [Nat.reduceAdd] at k
    simp (disch := omega) only [F_X10_owed_71, tPurse, nI_lit, nI_addE, nI_mulE, nI_ltE, nI_leE, nI_eqE, nI_eqN, nI_Neq, nI_ltN, nI_Nlt, nI_leN, nI_Nle, nI_NeN, nI_subE, bd1_s, bd2_s, onrN, onrS, grd_t, grd_T, gI_eq, gI_ne, gL_pI, gI_pL, ltT, ltF, leT, leF, eqT, eqF, if_true, if_false, true_or, or_true, ite_true, ite_false, and_true, true_and, and_false, false_and, not_false_eq_true, not_true_eq_false, ↓reduceIte, in_eq, Nat.reduceAdd, Nat.reduceMul, Nat.zero_add, cE_f, cE_t, mE_f, mE_t, within_ok, ne_eq, ixo_95, ixo_96, ixo_97, ixo_98, ixo_99, ixo_100, ixo_101, ixo_102, ixo_103, ixo_104, ixo_105, ixo_106, ixo_107, ixo_108, ixo_109, ixo_110, ixo_111, ixo_112, ixo_113, ixo_114, ixo_115, ixo_116, ixo_117, ixo_118, ixo_119, ixo_120, ixo_121, ixo_122, ixo_123, ixo_124, ixo_125, ixo_126, m8, k]
  · simp (disch := omega) only [F_X10_owed_71, nI_lit, nI_addE, nI_mulE, nI_ltE, nI_leE, nI_eqE, nI_eqN, nI_Neq, nI_ltN, nI_Nlt, nI_leN, nI_Nle, nI_NeN, nI_subE, bd1_s, bd2_s, onrN, onrS, grd_t, grd_T, gI_eq, gI_ne, gL_pI, gI_pL, ltT, ltF, leT, leF, eqT, eqF, if_true, if_false, true_or, or_true, ite_true, ite_false, and_true, true_and, and_false, false_and, not_false_eq_true, not_true_eq_false, ↓reduceIte, in_eq, Nat.reduceAdd, Nat.reduceMul, Nat.zero_add, cE_f, cE_t, mE_f, mE_t, within_ok, ne_eq, m8]
theorem md_owed2 (hol : q.Okl) (hm : q.m ≤ 6) (m0 : gI σ 94 0 = nI q.n) (ml : MHl q σ) : iterF (F_X10_owed_100 94) (fun _ _ _ => none) FU (nI 0) (nI 0) σ = some (sumI (tTo q 9) q.n, σ) := by
  have hn := hol.1
  refine acc_loop (tTo q 9) q.n σ (fun rec v i hi => ?_) (fun rec v => ?_) q.n 0 (nI 0) FU (by omega) (FU_lt (by omega))
  · obtain ⟨-, -, k3, k4⟩ := ml i hi
    have o := (hol.2 i hi).2.2
    by_cases s : q.sold i = 1
    · obtain ⟨-, k5⟩ := k4 s
      have o2 := (o.2 s).2
      by_cases e : q.buyer i = 9 <;> simp (disch := omega) only [F_X10_owed_100, tTo, nI_lit, nI_addE, nI_mulE, nI_ltE, nI_leE, nI_eqE, nI_eqN, nI_Neq, nI_ltN, nI_Nlt, nI_leN, nI_Nle, nI_NeN, nI_subE, bd1_s, bd2_s, onrN, onrS, grd_t, grd_T, gI_eq, gI_ne, gL_pI, gI_pL, ltT, ltF, leT, leF, eqT, eqF, if_true, if_false, true_or, or_true, ite_true, ite_false, and_true, true_and, and_false, false_and, not_false_eq_true, not_true_eq_false, ↓reduceIte, in_eq, Nat.reduceAdd, Nat.reduceMul, Nat.zero_add, cE_f, cE_t, mE_f, mE_t, within_ok, ne_eq, ixo_95, ixo_96, ixo_97, ixo_98, ixo_99, ixo_100, ixo_101, ixo_102, ixo_103, ixo_104, ixo_105, ixo_106, ixo_107, ixo_108, ixo_109, ixo_110, ixo_111, ixo_112, ixo_113, ixo_114, ixo_115, ixo_116, ixo_117, ixo_118, ixo_119, ixo_120, ixo_121, ixo_122, ixo_123, ixo_124, ixo_125, ixo_126, m0, k3, k5]
    · simp (disch := omega) only [F_X10_owed_100, tTo, nI_lit, nI_addE, nI_mulE, nI_ltE, nI_leE, nI_eqE, nI_eqN, nI_Neq, nI_ltN, nI_Nlt, nI_leN, nI_Nle, nI_NeN, nI_subE, bd1_s, bd2_s, onrN, onrS, grd_t, grd_T, gI_eq, gI_ne, gL_pI, gI_pL, ltT, ltF, leT, leF, eqT, eqF, if_true, if_false, true_or, or_true, ite_true, ite_false, and_true, true_and, and_false, false_and, not_false_eq_true, not_true_eq_false, ↓reduceIte, in_eq, Nat.reduceAdd, Nat.reduceMul, Nat.zero_add, cE_f, cE_t, mE_f, mE_t, within_ok, ne_eq, ixo_95, ixo_96, ixo_97, ixo_98, ixo_99, ixo_100, ixo_101, ixo_102, ixo_103, ixo_104, ixo_105, ixo_106, ixo_107, ixo_108, ixo_109, ixo_110, ixo_111, ixo_112, ixo_113, ixo_114, ixo_115, ixo_116, ixo_117, ixo_118, ixo_119, ixo_120, ixo_121, ixo_122, ixo_123, ixo_124, ixo_125, ixo_126, m0, k3]
  · simp (disch := omega) only [F_X10_owed_100, nI_lit, nI_addE, nI_mulE, nI_ltE, nI_leE, nI_eqE, nI_eqN, nI_Neq, nI_ltN, nI_Nlt, nI_leN, nI_Nle, nI_NeN, nI_subE, bd1_s, bd2_s, onrN, onrS, grd_t, grd_T, gI_eq, gI_ne, gL_pI, gI_pL, ltT, ltF, leT, leF, eqT, eqF, if_true, if_false, true_or, or_true, ite_true, ite_false, and_true, true_and, and_false, false_and, not_false_eq_true, not_true_eq_false, ↓reduceIte, in_eq, Nat.reduceAdd, Nat.reduceMul, Nat.zero_add, cE_f, cE_t, mE_f, mE_t, within_ok, ne_eq, m0]
theorem op_bidderOf (I : Inv q σ) (a1 a2 : Int32) : OpOk (f_X9_bidderOf 0 a1 a2) (f_X10_bidderOf 94 a1 a2) σ := by
  obtain ⟨⟨⟨hn, hol⟩, hob, hoc⟩, ⟨cs, cd, cl, cb⟩, ⟨ms, mr, md, ml, mb⟩, r0, r1⟩ := id I
  obtain ⟨c1, c3, c5, c6, c7, c8⟩ := id cs
  obtain ⟨m0, m8, m7, m14⟩ := id ms
  have hm := hob.1
  rcases (arg3 a1 q.m (by omega)).symm with b | ⟨b, hb, rfl⟩
  · refine ⟨-1, σ, σ, q, ?_, ?_, I⟩
    · simp (disch := omega) only [f_X9_bidderOf, nI_lit, nI_addE, nI_mulE, nI_ltE, nI_leE, nI_eqE, nI_eqN, nI_Neq, nI_ltN, nI_Nlt, nI_leN, nI_Nle, nI_NeN, nI_subE, bd1_s, bd2_s, onrN, onrS, grd_t, grd_T, gI_eq, gI_ne, gL_pI, gI_pL, ltT, ltF, leT, leF, eqT, eqF, if_true, if_false, true_or, or_true, ite_true, ite_false, and_true, true_and, and_false, false_and, not_false_eq_true, not_true_eq_false, ↓reduceIte, in_eq, Nat.reduceAdd, Nat.reduceMul, Nat.zero_add, cE_f, cE_t, mE_f, mE_t, within_ok, ne_eq, bidAt_no c3 b]
    · simp (disch := omega) only [f_X10_bidderOf, nI_lit, nI_addE, nI_mulE, nI_ltE, nI_leE, nI_eqE, nI_eqN, nI_Neq, nI_ltN, nI_Nlt, nI_leN, nI_Nle, nI_NeN, nI_subE, bd1_s, bd2_s, onrN, onrS, grd_t, grd_T, gI_eq, gI_ne, gL_pI, gI_pL, ltT, ltF, leT, leF, eqT, eqF, if_true, if_false, true_or, or_true, ite_true, ite_false, and_true, true_and, and_false, false_and, not_false_eq_true, not_true_eq_false, ↓reduceIte, in_eq, Nat.reduceAdd, Nat.reduceMul, Nat.zero_add, cE_f, cE_t, mE_f, mE_t, within_ok, ne_eq, isBid_no m8 b]
  rcases (arg a2 0 4 (by omega) (by omega)).symm with b' | ⟨k, -, hk, rfl⟩
  · refine ⟨-1, σ, σ, q, ?_, ?_, I⟩
    · simp (disch := omega) only [f_X9_bidderOf, nI_lit, nI_addE, nI_mulE, nI_ltE, nI_leE, nI_eqE, nI_eqN, nI_Neq, nI_ltN, nI_Nlt, nI_leN, nI_Nle, nI_NeN, nI_subE, bd1_s, bd2_s, onrN, onrS, grd_t, grd_T, gI_eq, gI_ne, gL_pI, gI_pL, ltT, ltF, leT, leF, eqT, eqF, if_true, if_false, true_or, or_true, ite_true, ite_false, and_true, true_and, and_false, false_and, not_false_eq_true, not_true_eq_false, ↓reduceIte, in_eq, Nat.reduceAdd, Nat.reduceMul, Nat.zero_add, cE_f, cE_t, mE_f, mE_t, within_ok, ne_eq, bidAt_ok (.inl rfl) c3 hm hb, grd_lot (.inl rfl), grd_bid (.inl rfl), bad_ne b']
    · simp (disch := omega) only [f_X10_bidderOf, nI_lit, nI_addE, nI_mulE, nI_ltE, nI_leE, nI_eqE, nI_eqN, nI_Neq, nI_ltN, nI_Nlt, nI_leN, nI_Nle, nI_NeN, nI_subE, bd1_s, bd2_s, onrN, onrS, grd_t, grd_T, gI_eq, gI_ne, gL_pI, gI_pL, ltT, ltF, leT, leF, eqT, eqF, if_true, if_false, true_or, or_true, ite_true, ite_false, and_true, true_and, and_false, false_and, not_false_eq_true, not_true_eq_false, ↓reduceIte, in_eq, Nat.reduceAdd, Nat.reduceMul, Nat.zero_add, cE_f, cE_t, mE_f, mE_t, within_ok, ne_eq, isBid_ok m8 hm hb, within_no _ b']
  obtain ⟨w1, w2, w3, w4⟩ := cb b hb
  obtain ⟨v1, v2, v3⟩ := mb b hb
  have n5b := mr.2.2.2.2.2 b hb
  simp only [Nat.reduceAdd] at n5b w1 w2 w3 w4
  have hk : k = 0 ∨ k = 1 ∨ k = 2 ∨ k = 3 ∨ k = 4 := by omega
  rcases hk with rfl | rfl | rfl | rfl | rfl
  · refine ⟨nI (q.kind b), σ, σ, q, ?_, ?_, I⟩
    · simp (disch := omega) only [f_X9_bidderOf, nI_lit, nI_addE, nI_mulE, nI_ltE, nI_leE, nI_eqE, nI_eqN, nI_Neq, nI_ltN, nI_Nlt, nI_leN, nI_Nle, nI_NeN, nI_subE, bd1_s, bd2_s, onrN, onrS, grd_t, grd_T, gI_eq, gI_ne, gL_pI, gI_pL, ltT, ltF, leT, leF, eqT, eqF, if_true, if_false, true_or, or_true, ite_true, ite_false, and_true, true_and, and_false, false_and, not_false_eq_true, not_true_eq_false, ↓reduceIte, in_eq, Nat.reduceAdd, Nat.reduceMul, Nat.zero_add, cE_f, cE_t, mE_f, mE_t, within_ok, ne_eq, bidAt_ok (.inl rfl) c3 hm hb, grd_lot (.inl rfl), grd_bid (.inl rfl), w1]
    · simp (disch := omega) only [f_X10_bidderOf, nI_lit, nI_addE, nI_mulE, nI_ltE, nI_leE, nI_eqE, nI_eqN, nI_Neq, nI_ltN, nI_Nlt, nI_leN, nI_Nle, nI_NeN, nI_subE, bd1_s, bd2_s, onrN, onrS, grd_t, grd_T, gI_eq, gI_ne, gL_pI, gI_pL, ltT, ltF, leT, leF, eqT, eqF, if_true, if_false, true_or, or_true, ite_true, ite_false, and_true, true_and, and_false, false_and, not_false_eq_true, not_true_eq_false, ↓reduceIte, in_eq, Nat.reduceAdd, Nat.reduceMul, Nat.zero_add, cE_f, cE_t, mE_f, mE_t, within_ok, ne_eq, isBid_ok m8 hm hb, ixo_95, ixo_96, ixo_97, ixo_98, ixo_99, ixo_100, ixo_101, ixo_102, ixo_103, ixo_104, ixo_105, ixo_106, ixo_107, ixo_108, ixo_109, ixo_110, ixo_111, ixo_112, ixo_113, ixo_114, ixo_115, ixo_116, ixo_117, ixo_118, ixo_119, ixo_120, ixo_121, ixo_122, ixo_123, ixo_124, ixo_125, ixo_126, v1]
  · refine ⟨nI (q.a b), σ, σ, q, ?_, ?_, I⟩
    · simp (disch := omega) only [f_X9_bidderOf, nI_lit, nI_addE, nI_mulE, nI_ltE, nI_leE, nI_eqE, nI_eqN, nI_Neq, nI_ltN, nI_Nlt, nI_leN, nI_Nle, nI_NeN, nI_subE, bd1_s, bd2_s, onrN, onrS, grd_t, grd_T, gI_eq, gI_ne, gL_pI, gI_pL, ltT, ltF, leT, leF, eqT, eqF, if_true, if_false, true_or, or_true, ite_true, ite_false, and_true, true_and, and_false, false_and, not_false_eq_true, not_true_eq_false, ↓reduceIte, in_eq, Nat.reduceAdd, Nat.reduceMul, Nat.zero_add, cE_f, cE_t, mE_f, mE_t, within_ok, ne_eq, bidAt_ok (.inl rfl) c3 hm hb, grd_lot (.inl rfl), grd_bid (.inl rfl), w2]
    · simp (disch := omega) only [f_X10_bidderOf, nI_lit, nI_addE, nI_mulE, nI_ltE, nI_leE, nI_eqE, nI_eqN, nI_Neq, nI_ltN, nI_Nlt, nI_leN, nI_Nle, nI_NeN, nI_subE, bd1_s, bd2_s, onrN, onrS, grd_t, grd_T, gI_eq, gI_ne, gL_pI, gI_pL, ltT, ltF, leT, leF, eqT, eqF, if_true, if_false, true_or, or_true, ite_true, ite_false, and_true, true_and, and_false, false_and, not_false_eq_true, not_true_eq_false, ↓reduceIte, in_eq, Nat.reduceAdd, Nat.reduceMul, Nat.zero_add, cE_f, cE_t, mE_f, mE_t, within_ok, ne_eq, isBid_ok m8 hm hb, ixo_95, ixo_96, ixo_97, ixo_98, ixo_99, ixo_100, ixo_101, ixo_102, ixo_103, ixo_104, ixo_105, ixo_106, ixo_107, ixo_108, ixo_109, ixo_110, ixo_111, ixo_112, ixo_113, ixo_114, ixo_115, ixo_116, ixo_117, ixo_118, ixo_119, ixo_120, ixo_121, ixo_122, ixo_123, ixo_124, ixo_125, ixo_126, v2]
  · refine ⟨nI (q.val b), σ, σ, q, ?_, ?_, I⟩
    · simp (disch := omega) only [f_X9_bidderOf, nI_lit, nI_addE, nI_mulE, nI_ltE, nI_leE, nI_eqE, nI_eqN, nI_Neq, nI_ltN, nI_Nlt, nI_leN, nI_Nle, nI_NeN, nI_subE, bd1_s, bd2_s, onrN, onrS, grd_t, grd_T, gI_eq, gI_ne, gL_pI, gI_pL, ltT, ltF, leT, leF, eqT, eqF, if_true, if_false, true_or, or_true, ite_true, ite_false, and_true, true_and, and_false, false_and, not_false_eq_true, not_true_eq_false, ↓reduceIte, in_eq, Nat.reduceAdd, Nat.reduceMul, Nat.zero_add, cE_f, cE_t, mE_f, mE_t, within_ok, ne_eq, bidAt_ok (.inl rfl) c3 hm hb, grd_lot (.inl rfl), grd_bid (.inl rfl), w3]
    · simp (disch := omega) only [f_X10_bidderOf, nI_lit, nI_addE, nI_mulE, nI_ltE, nI_leE, nI_eqE, nI_eqN, nI_Neq, nI_ltN, nI_Nlt, nI_leN, nI_Nle, nI_NeN, nI_subE, bd1_s, bd2_s, onrN, onrS, grd_t, grd_T, gI_eq, gI_ne, gL_pI, gI_pL, ltT, ltF, leT, leF, eqT, eqF, if_true, if_false, true_or, or_true, ite_true, ite_false, and_true, true_and, and_false, false_and, not_false_eq_true, not_true_eq_false, ↓reduceIte, in_eq, Nat.reduceAdd, Nat.reduceMul, Nat.zero_add, cE_f, cE_t, mE_f, mE_t, within_ok, ne_eq, isBid_ok m8 hm hb, ixo_95, ixo_96, ixo_97, ixo_98, ixo_99, ixo_100, ixo_101, ixo_102, ixo_103, ixo_104, ixo_105, ixo_106, ixo_107, ixo_108, ixo_109, ixo_110, ixo_111, ixo_112, ixo_113, ixo_114, ixo_115, ixo_116, ixo_117, ixo_118, ixo_119, ixo_120, ixo_121, ixo_122, ixo_123, ixo_124, ixo_125, ixo_126, v3]
  · refine ⟨nI (q.purse b), σ, σ, q, ?_, ?_, I⟩
    · simp (disch := omega) only [f_X9_bidderOf, nI_lit, nI_addE, nI_mulE, nI_ltE, nI_leE, nI_eqE, nI_eqN, nI_Neq, nI_ltN, nI_Nlt, nI_leN, nI_Nle, nI_NeN, nI_subE, bd1_s, bd2_s, onrN, onrS, grd_t, grd_T, gI_eq, gI_ne, gL_pI, gI_pL, ltT, ltF, leT, leF, eqT, eqF, if_true, if_false, true_or, or_true, ite_true, ite_false, and_true, true_and, and_false, false_and, not_false_eq_true, not_true_eq_false, ↓reduceIte, in_eq, Nat.reduceAdd, Nat.reduceMul, Nat.zero_add, cE_f, cE_t, mE_f, mE_t, within_ok, ne_eq, bidAt_ok (.inl rfl) c3 hm hb, grd_lot (.inl rfl), grd_bid (.inl rfl), w4]
    · simp (disch := omega) only [f_X10_bidderOf, nI_lit, nI_addE, nI_mulE, nI_ltE, nI_leE, nI_eqE, nI_eqN, nI_Neq, nI_ltN, nI_Nlt, nI_leN, nI_Nle, nI_NeN, nI_subE, bd1_s, bd2_s, onrN, onrS, grd_t, grd_T, gI_eq, gI_ne, gL_pI, gI_pL, ltT, ltF, leT, leF, eqT, eqF, if_true, if_false, true_or, or_true, ite_true, ite_false, and_true, true_and, and_false, false_and, not_false_eq_true, not_true_eq_false, ↓reduceIte, in_eq, Nat.reduceAdd, Nat.reduceMul, Nat.zero_add, cE_f, cE_t, mE_f, mE_t, within_ok, ne_eq, isBid_ok m8 hm hb, ixo_95, ixo_96, ixo_97, ixo_98, ixo_99, ixo_100, ixo_101, ixo_102, ixo_103, ixo_104, ixo_105, ixo_106, ixo_107, ixo_108, ixo_109, ixo_110, ixo_111, ixo_112, ixo_113, ixo_114, ixo_115, ixo_116, ixo_117, ixo_118, ixo_119, ixo_120, ixo_121, ixo_122, ixo_123, ixo_124, ixo_125, ixo_126, n5b]
  · have A := cl_soldTo (w := b) (by omega) ⟨hn, hol⟩ hm c1 cl
    rw [cE_f (by omega)] at A
    refine ⟨sumI (tTo q b) q.n, σ, σ, q, ?_, ?_, I⟩
    · simp (disch := omega) only [f_X9_bidderOf, nI_lit, nI_addE, nI_mulE, nI_ltE, nI_leE, nI_eqE, nI_eqN, nI_Neq, nI_ltN, nI_Nlt, nI_leN, nI_Nle, nI_NeN, nI_subE, bd1_s, bd2_s, onrN, onrS, grd_t, grd_T, gI_eq, gI_ne, gL_pI, gI_pL, ltT, ltF, leT, leF, eqT, eqF, if_true, if_false, true_or, or_true, ite_true, ite_false, and_true, true_and, and_false, false_and, not_false_eq_true, not_true_eq_false, ↓reduceIte, in_eq, Nat.reduceAdd, Nat.reduceMul, Nat.zero_add, cE_f, cE_t, mE_f, mE_t, within_ok, ne_eq, bidAt_ok (.inl rfl) c3 hm hb, grd_lot (.inl rfl), grd_bid (.inl rfl), A]
    · simp (disch := omega) only [f_X10_bidderOf, nI_lit, nI_addE, nI_mulE, nI_ltE, nI_leE, nI_eqE, nI_eqN, nI_Neq, nI_ltN, nI_Nlt, nI_leN, nI_Nle, nI_NeN, nI_subE, bd1_s, bd2_s, onrN, onrS, grd_t, grd_T, gI_eq, gI_ne, gL_pI, gI_pL, ltT, ltF, leT, leF, eqT, eqF, if_true, if_false, true_or, or_true, ite_true, ite_false, and_true, true_and, and_false, false_and, not_false_eq_true, not_true_eq_false, ↓reduceIte, in_eq, Nat.reduceAdd, Nat.reduceMul, Nat.zero_add, cE_f, cE_t, mE_f, mE_t, within_ok, ne_eq, isBid_ok m8 hm hb, md_lotsOf (b := b) (by omega) ⟨hn, hol⟩ hm m0 ml]
theorem op_owed (I : Inv q σ) (a1 : Int32) : OpOk (f_X9_owed 0 a1) (f_X10_owed 94 a1) σ := by
  obtain ⟨⟨⟨hn, hol⟩, hob, hoc⟩, ⟨cs, cd, cl, cb⟩, ⟨ms, mr, md, ml, mb⟩, r0, r1⟩ := id I
  obtain ⟨c1, c3, c5, c6, c7, c8⟩ := id cs
  obtain ⟨m0, m8, m7, m14⟩ := id ms
  have hm := hob.1
  have A0 := cl_prices ⟨hn, hol⟩ c1 cl
  have A1 := cl_purses hob c3 cb
  have A2 := cl_soldTo (w := 9) (by omega) ⟨hn, hol⟩ hm c1 cl
  have B0 := md_owed0 ⟨hn, hol⟩ m0 ml
  have B1 := md_owed1 hob m8 mr
  have B2 := md_owed2 ⟨hn, hol⟩ hm m0 ml
  rw [cE_t (x := 9) rfl] at A2
  by_cases e0 : a1 = (0 : Int32)
  · refine ⟨sumI (tPrice q) q.n, σ, σ, q, ?_, ?_, I⟩
    · unfold f_X9_owed
      rw [if_pos e0]
      simp only [Nat.reduceAdd, A0, bd2_s]
    · unfold f_X10_owed
      rw [if_pos e0]
      exact B0
  by_cases e1 : a1 = (1 : Int32)
  · refine ⟨sumI (tPurse q) q.m, σ, σ, q, ?_, ?_, I⟩
    · unfold f_X9_owed
      rw [if_neg e0, if_pos e1]
      simp only [Nat.reduceAdd, A1, bd2_s]
    · unfold f_X10_owed
      rw [if_neg e0, if_pos e1]
      exact B1
  by_cases e2 : a1 = (2 : Int32)
  · refine ⟨sumI (tTo q 9) q.n, σ, σ, q, ?_, ?_, I⟩
    · unfold f_X9_owed
      rw [if_neg e0, if_neg e1, if_pos e2]
      simp only [Nat.reduceAdd, nI_lit, A2, bd2_s]
    · unfold f_X10_owed
      rw [if_neg e0, if_neg e1, if_pos e2]
      exact B2
  refine ⟨-1, σ, σ, q, ?_, ?_, I⟩
  · unfold f_X9_owed
    rw [if_neg e0, if_neg e1, if_neg e2]
  · unfold f_X10_owed
    rw [if_neg e0, if_neg e1, if_neg e2]
theorem op_many (I : Inv q σ) (a1 : Int32) : OpOk (f_X9_many 0 a1) (f_X10_many 94 a1) σ := by
  obtain ⟨⟨⟨hn, hol⟩, hob, hoc⟩, ⟨cs, cd, cl, cb⟩, ⟨ms, mr, md, ml, mb⟩, r0, r1⟩ := id I
  obtain ⟨c1, c3, c5, c6, c7, c8⟩ := id cs
  obtain ⟨m0, m8, m7, m14⟩ := id ms
  have hm := hob.1
  have A := cl_soldLots hn ⟨hn, hol⟩ c1 cl
  have B := md_many2 ⟨hn, hol⟩ m0 ml
  obtain ⟨⟨t, -, t1, t2, -⟩, ⟨c, -, d1, d2, -⟩, ⟨e, -, f1, f2, -⟩, -⟩ := id r1
  by_cases e0 : a1 = (0 : Int32)
  · refine ⟨nI q.n, σ, σ, q, ?_, ?_, I⟩
    · unfold f_X9_many
      rw [if_pos e0]
      exact congrArg (fun x => some (x, σ)) c1
    · unfold f_X10_many
      rw [if_pos e0]
      exact congrArg (fun x => some (x, σ)) m0
  by_cases e1 : a1 = (1 : Int32)
  · refine ⟨nI q.m, σ, σ, q, ?_, ?_, I⟩
    · unfold f_X9_many
      rw [if_neg e0, if_pos e1]
      exact congrArg (fun x => some (x, σ)) c3
    · unfold f_X10_many
      rw [if_neg e0, if_pos e1]
      exact congrArg (fun x => some (x, σ)) m8
  by_cases e2 : a1 = (2 : Int32)
  · refine ⟨sumI (tSold q) q.n, σ, σ, q, ?_, ?_, I⟩
    · unfold f_X9_many
      rw [if_neg e0, if_neg e1, if_pos e2]
      simp only [Nat.reduceAdd, A, bd2_s]
    · unfold f_X10_many
      rw [if_neg e0, if_neg e1, if_pos e2]
      exact B
  by_cases e3 : a1 = (3 : Int32)
  · refine ⟨nI c, σ, σ, q, ?_, ?_, I⟩
    · unfold f_X9_many
      rw [if_neg e0, if_neg e1, if_neg e2, if_pos e3]
      exact congrArg (fun x => some (x, σ)) d1
    · unfold f_X10_many
      rw [if_neg e0, if_neg e1, if_neg e2, if_pos e3]
      exact congrArg (fun x => some (x, σ)) d2
  by_cases e4 : a1 = (4 : Int32)
  · refine ⟨nI t, σ, σ, q, ?_, ?_, I⟩
    · unfold f_X9_many
      rw [if_neg e0, if_neg e1, if_neg e2, if_neg e3, if_pos e4]
      exact congrArg (fun x => some (x, σ)) t1
    · unfold f_X10_many
      rw [if_neg e0, if_neg e1, if_neg e2, if_neg e3, if_pos e4]
      exact congrArg (fun x => some (x, σ)) t2
  by_cases e5 : a1 = (5 : Int32)
  · refine ⟨nI e, σ, σ, q, ?_, ?_, I⟩
    · unfold f_X9_many
      rw [if_neg e0, if_neg e1, if_neg e2, if_neg e3, if_neg e4, if_pos e5]
      exact congrArg (fun x => some (x, σ)) f1
    · unfold f_X10_many
      rw [if_neg e0, if_neg e1, if_neg e2, if_neg e3, if_neg e4, if_pos e5]
      exact congrArg (fun x => some (x, σ)) f2
  refine ⟨-1, σ, σ, q, ?_, ?_, I⟩
  · unfold f_X9_many
    rw [if_neg e0, if_neg e1, if_neg e2, if_neg e3, if_neg e4, if_neg e5]
  · unfold f_X10_many
    rw [if_neg e0, if_neg e1, if_neg e2, if_neg e3, if_neg e4, if_neg e5]
theorem cl_most {w : Nat} (hw : w ≤ 99) (hob : q.Okb) (c3 : gI σ 1 3 = nI q.m) (cb : CHb 1 q σ) : ∀ d i k fuel, i + d = q.m → d < fuel → k < q.m → iterF (F_X2_bidderOfMost_8 1 (nI w)) (fun _ _ _ _ => none) fuel (nI k) (nI (limw q k w)) (nI i) σ = some (nI (mostR q w d i k), σ) := by
  have hm := hob.1
  intro d
  induction d with
  | zero =>
    intro i k fuel hi hf hk
    obtain ⟨f, rfl⟩ : ∃ f, fuel = f + 1 := ⟨fuel - 1, by omega⟩
    show F_X2_bidderOfMost_8 1 (nI w) _ _ _ _ _ = _
    simp (disch := omega) only [F_X2_bidderOfMost_8, nI_lit, nI_addE, nI_mulE, nI_ltE, nI_leE, nI_eqE, nI_eqN, nI_Neq, nI_ltN, nI_Nlt, nI_leN, nI_Nle, nI_NeN, nI_subE, bd1_s, bd2_s, onrN, onrS, grd_t, grd_T, gI_eq, gI_ne, gL_pI, gI_pL, ltT, ltF, leT, leF, eqT, eqF, if_true, if_false, true_or, or_true, ite_true, ite_false, and_true, true_and, and_false, false_and, not_false_eq_true, not_true_eq_false, ↓reduceIte, in_eq, Nat.reduceAdd, Nat.reduceMul, Nat.zero_add, cE_f, cE_t, mE_f, mE_t, within_ok, ne_eq, c3, mostR]
  | succ d ih =>
    intro i k fuel hi hf hk
    obtain ⟨f, rfl⟩ : ∃ f, fuel = f + 1 := ⟨fuel - 1, by omega⟩
    show F_X2_bidderOfMost_8 1 (nI w) _ _ _ _ _ = _
    have hL := cl_limit hob (b := i) (by omega) hw cb
    have h1 := limw_le hob (b := i) (w := w) (by omega) hw
    have h2 := limw_le hob (b := k) (w := w) (by omega) hw
    simp only [Nat.reduceAdd] at hL
    unfold mostR
    by_cases g : limw q k w < limw q i w
    · simp (disch := omega) only [F_X2_bidderOfMost_8, nI_lit, nI_addE, nI_mulE, nI_ltE, nI_leE, nI_eqE, nI_eqN, nI_Neq, nI_ltN, nI_Nlt, nI_leN, nI_Nle, nI_NeN, nI_subE, bd1_s, bd2_s, onrN, onrS, grd_t, grd_T, gI_eq, gI_ne, gL_pI, gI_pL, ltT, ltF, leT, leF, eqT, eqF, if_true, if_false, true_or, or_true, ite_true, ite_false, and_true, true_and, and_false, false_and, not_false_eq_true, not_true_eq_false, ↓reduceIte, in_eq, Nat.reduceAdd, Nat.reduceMul, Nat.zero_add, cE_f, cE_t, mE_f, mE_t, within_ok, ne_eq, c3, ixo_2, ixo_3, ixo_4, ixo_17, ixo_18, ixo_19, ixo_32, ixo_33, ixo_34, ixo_47, ixo_50, ixo_51, ixo_52, ixo_64, ixo_65, ixo_66, ixo_67, ixo_68, ixo_69, ixo_70, ixo_71, ixo_72, ixo_73, ixo_75, ixo_77, ixo_78, ixo_79, ixo_81, ixo_83, ixo_85, ixo_87, ixo_89, h27, hL]
      exact ih (i + 1) i f (by omega) (by omega) (by omega)
    · simp (disch := omega) only [F_X2_bidderOfMost_8, nI_lit, nI_addE, nI_mulE, nI_ltE, nI_leE, nI_eqE, nI_eqN, nI_Neq, nI_ltN, nI_Nlt, nI_leN, nI_Nle, nI_NeN, nI_subE, bd1_s, bd2_s, onrN, onrS, grd_t, grd_T, gI_eq, gI_ne, gL_pI, gI_pL, ltT, ltF, leT, leF, eqT, eqF, if_true, if_false, true_or, or_true, ite_true, ite_false, and_true, true_and, and_false, false_and, not_false_eq_true, not_true_eq_false, ↓reduceIte, in_eq, Nat.reduceAdd, Nat.reduceMul, Nat.zero_add, cE_f, cE_t, mE_f, mE_t, within_ok, ne_eq, c3, ixo_2, ixo_3, ixo_4, ixo_17, ixo_18, ixo_19, ixo_32, ixo_33, ixo_34, ixo_47, ixo_50, ixo_51, ixo_52, ixo_64, ixo_65, ixo_66, ixo_67, ixo_68, ixo_69, ixo_70, ixo_71, ixo_72, ixo_73, ixo_75, ixo_77, ixo_78, ixo_79, ixo_81, ixo_83, ixo_85, ixo_87, ixo_89, h27, hL]
      exact ih (i + 1) k f (by omega) (by omega) (by omega)
theorem md_most {l : Nat} (hol : q.Okl) (hl : l < q.n) (hob : q.Okb) (m8 : gI σ 94 8 = nI q.m) (at' : gI σ 94 13 = nI 0) (ml : MHl q σ) (mb : MHb q σ) (mr : MHr 0 q σ) : ∀ d i k fuel, i + d = q.m → d < fuel → k < q.m → iterF (F_X10_most_15 94 (nI l)) (fun _ _ _ => none) fuel (nI k) (nI i) σ = some (nI (mostR q (q.worth l) d i k), σ) := by
  have hm := hob.1
  have hw := (hol.2 l hl).2.1.2
  intro d
  induction d with
  | zero =>
    intro i k fuel hi hf hk
    obtain ⟨f, rfl⟩ : ∃ f, fuel = f + 1 := ⟨fuel - 1, by omega⟩
    show F_X10_most_15 94 (nI l) _ _ _ _ = _
    simp (disch := omega) only [F_X10_most_15, nI_lit, nI_addE, nI_mulE, nI_ltE, nI_leE, nI_eqE, nI_eqN, nI_Neq, nI_ltN, nI_Nlt, nI_leN, nI_Nle, nI_NeN, nI_subE, bd1_s, bd2_s, onrN, onrS, grd_t, grd_T, gI_eq, gI_ne, gL_pI, gI_pL, ltT, ltF, leT, leF, eqT, eqF, if_true, if_false, true_or, or_true, ite_true, ite_false, and_true, true_and, and_false, false_and, not_false_eq_true, not_true_eq_false, ↓reduceIte, in_eq, Nat.reduceAdd, Nat.reduceMul, Nat.zero_add, cE_f, cE_t, mE_f, mE_t, within_ok, ne_eq, m8, mostR]
  | succ d ih =>
    intro i k fuel hi hf hk
    obtain ⟨f, rfl⟩ : ∃ f, fuel = f + 1 := ⟨fuel - 1, by omega⟩
    show F_X10_most_15 94 (nI l) _ _ _ _ = _
    have hL := md_limit hol hob (Nat.zero_le 11) (b := i) (by omega) hl ml mb mr at'
    have hK := md_limit hol hob (Nat.zero_le 11) (b := k) (by omega) hl ml mb mr at'
    have h1 := limw_le hob (b := i) (w := q.worth l) (by omega) hw
    have h2 := limw_le hob (b := k) (w := q.worth l) (by omega) hw
    unfold mostR
    by_cases g : limw q k (q.worth l) < limw q i (q.worth l)
    · simp (disch := omega) only [F_X10_most_15, nI_lit, nI_addE, nI_mulE, nI_ltE, nI_leE, nI_eqE, nI_eqN, nI_Neq, nI_ltN, nI_Nlt, nI_leN, nI_Nle, nI_NeN, nI_subE, bd1_s, bd2_s, onrN, onrS, grd_t, grd_T, gI_eq, gI_ne, gL_pI, gI_pL, ltT, ltF, leT, leF, eqT, eqF, if_true, if_false, true_or, or_true, ite_true, ite_false, and_true, true_and, and_false, false_and, not_false_eq_true, not_true_eq_false, ↓reduceIte, in_eq, Nat.reduceAdd, Nat.reduceMul, Nat.zero_add, cE_f, cE_t, mE_f, mE_t, within_ok, ne_eq, m8, hL, hK]
      exact ih (i + 1) i f (by omega) (by omega) (by omega)
    · simp (disch := omega) only [F_X10_most_15, nI_lit, nI_addE, nI_mulE, nI_ltE, nI_leE, nI_eqE, nI_eqN, nI_Neq, nI_ltN, nI_Nlt, nI_leN, nI_Nle, nI_NeN, nI_subE, bd1_s, bd2_s, onrN, onrS, grd_t, grd_T, gI_eq, gI_ne, gL_pI, gI_pL, ltT, ltF, leT, leF, eqT, eqF, if_true, if_false, true_or, or_true, ite_true, ite_false, and_true, true_and, and_false, false_and, not_false_eq_true, not_true_eq_false, ↓reduceIte, in_eq, Nat.reduceAdd, Nat.reduceMul, Nat.zero_add, cE_f, cE_t, mE_f, mE_t, within_ok, ne_eq, m8, hL, hK]
      exact ih (i + 1) k f (by omega) (by omega) (by omega)
theorem op_most (I : Inv q σ) (a1 : Int32) : OpOk (f_X9_most 0 a1) (f_X10_most 94 a1) σ := by
  obtain ⟨⟨⟨hn, hol⟩, hob, hoc⟩, ⟨cs, cd, cl, cb⟩, ⟨ms, mr, md, ml, mb⟩, r0, r1⟩ := id I
  obtain ⟨c1, c3, c5, c6, c7, c8⟩ := id cs
  obtain ⟨m0, m8, m7, m14⟩ := id ms
  have hm := hob.1
  rcases (arg3 a1 q.n (by omega)).symm with b | ⟨l, hl, rfl⟩
  · refine ⟨-1, σ, σ, q, ?_, ?_, I⟩
    · simp (disch := omega) only [f_X9_most, nI_lit, nI_addE, nI_mulE, nI_ltE, nI_leE, nI_eqE, nI_eqN, nI_Neq, nI_ltN, nI_Nlt, nI_leN, nI_Nle, nI_NeN, nI_subE, bd1_s, bd2_s, onrN, onrS, grd_t, grd_T, gI_eq, gI_ne, gL_pI, gI_pL, ltT, ltF, leT, leF, eqT, eqF, if_true, if_false, true_or, or_true, ite_true, ite_false, and_true, true_and, and_false, false_and, not_false_eq_true, not_true_eq_false, ↓reduceIte, in_eq, Nat.reduceAdd, Nat.reduceMul, Nat.zero_add, cE_f, cE_t, mE_f, mE_t, within_ok, ne_eq, lotAt_no c1 b]
    · simp (disch := omega) only [f_X10_most, nI_lit, nI_addE, nI_mulE, nI_ltE, nI_leE, nI_eqE, nI_eqN, nI_Neq, nI_ltN, nI_Nlt, nI_leN, nI_Nle, nI_NeN, nI_subE, bd1_s, bd2_s, onrN, onrS, grd_t, grd_T, gI_eq, gI_ne, gL_pI, gI_pL, ltT, ltF, leT, leF, eqT, eqF, if_true, if_false, true_or, or_true, ite_true, ite_false, and_true, true_and, and_false, false_and, not_false_eq_true, not_true_eq_false, ↓reduceIte, in_eq, Nat.reduceAdd, Nat.reduceMul, Nat.zero_add, cE_f, cE_t, mE_f, mE_t, within_ok, ne_eq, isLot_no m0 b]
  obtain ⟨w1, w2, -⟩ := cl.1 l hl
  simp only [Nat.reduceAdd] at w1 w2
  have ol := hol l hl
  by_cases e : q.m = 0
  · have A : f_X2_bidderOfMost 1 (nI (q.worth l)) σ = some (-nI 3, σ) := by
      show F_X2_bidderOfMost_8 1 _ _ _ _ _ _ = _
      simp (disch := omega) only [F_X2_bidderOfMost_8, nI_lit, nI_addE, nI_mulE, nI_ltE, nI_leE, nI_eqE, nI_eqN, nI_Neq, nI_ltN, nI_Nlt, nI_leN, nI_Nle, nI_NeN, nI_subE, bd1_s, bd2_s, onrN, onrS, grd_t, grd_T, gI_eq, gI_ne, gL_pI, gI_pL, ltT, ltF, leT, leF, eqT, eqF, if_true, if_false, true_or, or_true, ite_true, ite_false, and_true, true_and, and_false, false_and, not_false_eq_true, not_true_eq_false, ↓reduceIte, in_eq, Nat.reduceAdd, Nat.reduceMul, Nat.zero_add, cE_f, cE_t, mE_f, mE_t, within_ok, ne_eq, c3]
    have B : iterF (F_X10_most_15 94 (nI l)) (fun _ _ _ => none) FU (-nI 3) (nI 0) σ = some (-nI 3, σ) := by
      show F_X10_most_15 94 _ _ _ _ _ = _
      simp (disch := omega) only [F_X10_most_15, nI_lit, nI_addE, nI_mulE, nI_ltE, nI_leE, nI_eqE, nI_eqN, nI_Neq, nI_ltN, nI_Nlt, nI_leN, nI_Nle, nI_NeN, nI_subE, bd1_s, bd2_s, onrN, onrS, grd_t, grd_T, gI_eq, gI_ne, gL_pI, gI_pL, ltT, ltF, leT, leF, eqT, eqF, if_true, if_false, true_or, or_true, ite_true, ite_false, and_true, true_and, and_false, false_and, not_false_eq_true, not_true_eq_false, ↓reduceIte, in_eq, Nat.reduceAdd, Nat.reduceMul, Nat.zero_add, cE_f, cE_t, mE_f, mE_t, within_ok, ne_eq, m8]
    refine ⟨-3, σ, σ, q, ?_, ?_, I⟩
    · simp (disch := omega) only [f_X9_most, nI_lit, nI_addE, nI_mulE, nI_ltE, nI_leE, nI_eqE, nI_eqN, nI_Neq, nI_ltN, nI_Nlt, nI_leN, nI_Nle, nI_NeN, nI_subE, bd1_s, bd2_s, onrN, onrS, grd_t, grd_T, gI_eq, gI_ne, gL_pI, gI_pL, ltT, ltF, leT, leF, eqT, eqF, if_true, if_false, true_or, or_true, ite_true, ite_false, and_true, true_and, and_false, false_and, not_false_eq_true, not_true_eq_false, ↓reduceIte, in_eq, Nat.reduceAdd, Nat.reduceMul, Nat.zero_add, cE_f, cE_t, mE_f, mE_t, within_ok, ne_eq, lotAt_ok (.inl rfl) c1 hn hl, grd_lot (.inl rfl), grd_bid (.inl rfl), w2, A]
    · simp (disch := omega) only [f_X10_most, nI_lit, nI_addE, nI_mulE, nI_ltE, nI_leE, nI_eqE, nI_eqN, nI_Neq, nI_ltN, nI_Nlt, nI_leN, nI_Nle, nI_NeN, nI_subE, bd1_s, bd2_s, onrN, onrS, grd_t, grd_T, gI_eq, gI_ne, gL_pI, gI_pL, ltT, ltF, leT, leF, eqT, eqF, if_true, if_false, true_or, or_true, ite_true, ite_false, and_true, true_and, and_false, false_and, not_false_eq_true, not_true_eq_false, ↓reduceIte, in_eq, Nat.reduceAdd, Nat.reduceMul, Nat.zero_add, cE_f, cE_t, mE_f, mE_t, within_ok, ne_eq, isLot_ok m0 hn hl, B]
  · have hL := cl_limit hob (b := 0) (by omega) ol.2.1.2 cb
    have hB := limw_le hob (b := 0) (w := q.worth l) (by omega) ol.2.1.2
    simp only [Nat.reduceAdd] at hL
    have A : f_X2_bidderOfMost 1 (nI (q.worth l)) σ = some (nI (mostR q (q.worth l) (q.m - 1) 1 0), σ) := by
      refine Eq.trans ?_ (cl_most ol.2.1.2 hob c3 cb (q.m - 1) 1 0 999 (by omega) (by omega) (by omega))
      show F_X2_bidderOfMost_8 1 _ _ _ _ _ _ = _
      simp (disch := omega) only [F_X2_bidderOfMost_8, nI_lit, nI_addE, nI_mulE, nI_ltE, nI_leE, nI_eqE, nI_eqN, nI_Neq, nI_ltN, nI_Nlt, nI_leN, nI_Nle, nI_NeN, nI_subE, bd1_s, bd2_s, onrN, onrS, grd_t, grd_T, gI_eq, gI_ne, gL_pI, gI_pL, ltT, ltF, leT, leF, eqT, eqF, if_true, if_false, true_or, or_true, ite_true, ite_false, and_true, true_and, and_false, false_and, not_false_eq_true, not_true_eq_false, ↓reduceIte, in_eq, Nat.reduceAdd, Nat.reduceMul, Nat.zero_add, cE_f, cE_t, mE_f, mE_t, within_ok, ne_eq, c3, ixo_2, ixo_3, ixo_4, ixo_17, ixo_18, ixo_19, ixo_32, ixo_33, ixo_34, ixo_47, ixo_50, ixo_51, ixo_52, ixo_64, ixo_65, ixo_66, ixo_67, ixo_68, ixo_69, ixo_70, ixo_71, ixo_72, ixo_73, ixo_75, ixo_77, ixo_78, ixo_79, ixo_81, ixo_83, ixo_85, ixo_87, ixo_89, h27, hL]
    have B : iterF (F_X10_most_15 94 (nI l)) (fun _ _ _ => none) FU (-nI 3) (nI 0) σ = some (nI (mostR q (q.worth l) (q.m - 1) 1 0), σ) := by
      refine Eq.trans ?_ (md_most ⟨hn, hol⟩ hl hob m8 r0.1 ml mb mr (q.m - 1) 1 0 999 (by omega) (by omega) (by omega))
      show F_X10_most_15 94 _ _ _ _ _ = _
      simp (disch := omega) only [F_X10_most_15, nI_lit, nI_addE, nI_mulE, nI_ltE, nI_leE, nI_eqE, nI_eqN, nI_Neq, nI_ltN, nI_Nlt, nI_leN, nI_Nle, nI_NeN, nI_subE, bd1_s, bd2_s, onrN, onrS, grd_t, grd_T, gI_eq, gI_ne, gL_pI, gI_pL, ltT, ltF, leT, leF, eqT, eqF, if_true, if_false, true_or, or_true, ite_true, ite_false, and_true, true_and, and_false, false_and, not_false_eq_true, not_true_eq_false, ↓reduceIte, in_eq, Nat.reduceAdd, Nat.reduceMul, Nat.zero_add, cE_f, cE_t, mE_f, mE_t, within_ok, ne_eq, m8]
    refine ⟨nI (mostR q (q.worth l) (q.m - 1) 1 0), σ, σ, q, ?_, ?_, I⟩
    · simp (disch := omega) only [f_X9_most, nI_lit, nI_addE, nI_mulE, nI_ltE, nI_leE, nI_eqE, nI_eqN, nI_Neq, nI_ltN, nI_Nlt, nI_leN, nI_Nle, nI_NeN, nI_subE, bd1_s, bd2_s, onrN, onrS, grd_t, grd_T, gI_eq, gI_ne, gL_pI, gI_pL, ltT, ltF, leT, leF, eqT, eqF, if_true, if_false, true_or, or_true, ite_true, ite_false, and_true, true_and, and_false, false_and, not_false_eq_true, not_true_eq_false, ↓reduceIte, in_eq, Nat.reduceAdd, Nat.reduceMul, Nat.zero_add, cE_f, cE_t, mE_f, mE_t, within_ok, ne_eq, lotAt_ok (.inl rfl) c1 hn hl, grd_lot (.inl rfl), grd_bid (.inl rfl), w2, A]
    · simp (disch := omega) only [f_X10_most, nI_lit, nI_addE, nI_mulE, nI_ltE, nI_leE, nI_eqE, nI_eqN, nI_Neq, nI_ltN, nI_Nlt, nI_leN, nI_Nle, nI_NeN, nI_subE, bd1_s, bd2_s, onrN, onrS, grd_t, grd_T, gI_eq, gI_ne, gL_pI, gI_pL, ltT, ltF, leT, leF, eqT, eqF, if_true, if_false, true_or, or_true, ite_true, ite_false, and_true, true_and, and_false, false_and, not_false_eq_true, not_true_eq_false, ↓reduceIte, in_eq, Nat.reduceAdd, Nat.reduceMul, Nat.zero_add, cE_f, cE_t, mE_f, mE_t, within_ok, ne_eq, isLot_ok m0 hn hl, B]
end
