/-! the law's loop -/
section
variable {q : HQ} {σ : Mem} {L i : Nat} {xs : Nat → Int32}
theorem lxo_ok (hL : L ≤ 320) {j : Nat} (h : i + j < L) : lxo L (nI i + nI j) = some (i + j) := by
  rw [nI_addE]
  unfold lxo
  rw [nI_tn (by omega), if_neg]
  intro c
  rcases c with c | c
  · have : nI (i + j) < nI 0 := c
    rw [nI_ltE (by omega) (by omega)] at this
    omega
  · omega
def Brn (L : Nat) (xs : Nat → Int32) (i : Nat) (σ : Mem) (F : Nat → (Nat → Int32) → Nat → Nat → (Int32 → Mem → Option (Int32 × Mem)) → Int32 → Mem → Option (Int32 × Mem)) : Prop := ∃ (q' : HQ) (σ' : Mem), Inv q' σ' ∧ ∀ rec, F L xs 0 94 rec (nI i) σ = rec (nI (i + 5)) σ'
theorem br_feed (hL : L ≤ 320) (hi : i + 5 ≤ L) (I : Inv q σ) : Brn L xs i σ F_L_law_228 := by
  obtain ⟨r, σ1, σ2, q', h1, h2, J⟩ := op_feed I (((xs (i + 1)).toInt64 <<< ((32 : Int32).toInt64 &&& 63)) ||| ((xs (i + 2)).toInt64 &&& (4294967295 : Int64))) (xs (i + 3))
  have l1 : lxo L (nI i + (1 : Int32)) = some (i + 1) := lxo_ok hL (j := 1) (by omega)
  have l2 : lxo L (nI i + (2 : Int32)) = some (i + 2) := lxo_ok hL (j := 2) (by omega)
  have l3 : lxo L (nI i + (3 : Int32)) = some (i + 3) := lxo_ok hL (j := 3) (by omega)
  refine ⟨q', σ2, J, fun rec => ?_⟩
  unfold F_L_law_228
  simp only [l1, l2, l3, bd1_s, bd2_s, h1, h2, if_true]
  rw [nI_lit 5, nI_addE]
theorem br_hall (hL : L ≤ 320) (hi : i + 5 ≤ L) (I : Inv q σ) : Brn L xs i σ F_L_law_291 := by
  obtain ⟨r, σ1, σ2, q', h1, h2, J⟩ := op_hall I
  refine ⟨q', σ2, J, fun rec => ?_⟩
  unfold F_L_law_291
  simp only [bd1_s, bd2_s, h1, h2, if_true]
  rw [nI_lit 5, nI_addE]
theorem br_lot (hL : L ≤ 320) (hi : i + 5 ≤ L) (I : Inv q σ) : Brn L xs i σ F_L_law_304 := by
  obtain ⟨r, σ1, σ2, q', h1, h2, J⟩ := op_lot I (xs (i + 1)) (xs (i + 2))
  have l1 : lxo L (nI i + (1 : Int32)) = some (i + 1) := lxo_ok hL (j := 1) (by omega)
  have l2 : lxo L (nI i + (2 : Int32)) = some (i + 2) := lxo_ok hL (j := 2) (by omega)
  refine ⟨q', σ2, J, fun rec => ?_⟩
  unfold F_L_law_304
  simp only [l1, l2, bd1_s, bd2_s, h1, h2, if_true]
  rw [nI_lit 5, nI_addE]
theorem br_lotOf (hL : L ≤ 320) (hi : i + 5 ≤ L) (I : Inv q σ) : Brn L xs i σ F_L_law_337 := by
  obtain ⟨r, σ1, σ2, q', h1, h2, J⟩ := op_lotOf I (xs (i + 1)) (xs (i + 2))
  have l1 : lxo L (nI i + (1 : Int32)) = some (i + 1) := lxo_ok hL (j := 1) (by omega)
  have l2 : lxo L (nI i + (2 : Int32)) = some (i + 2) := lxo_ok hL (j := 2) (by omega)
  refine ⟨q', σ2, J, fun rec => ?_⟩
  unfold F_L_law_337
  simp only [l1, l2, bd1_s, bd2_s, h1, h2, if_true]
  rw [nI_lit 5, nI_addE]
theorem br_trim (hL : L ≤ 320) (hi : i + 5 ≤ L) (I : Inv q σ) : Brn L xs i σ F_L_law_370 := by
  obtain ⟨r, σ1, σ2, q', h1, h2, J⟩ := op_trim I (xs (i + 1)) (xs (i + 2)) (xs (i + 3))
  have l1 : lxo L (nI i + (1 : Int32)) = some (i + 1) := lxo_ok hL (j := 1) (by omega)
  have l2 : lxo L (nI i + (2 : Int32)) = some (i + 2) := lxo_ok hL (j := 2) (by omega)
  have l3 : lxo L (nI i + (3 : Int32)) = some (i + 3) := lxo_ok hL (j := 3) (by omega)
  refine ⟨q', σ2, J, fun rec => ?_⟩
  unfold F_L_law_370
  simp only [l1, l2, l3, bd1_s, bd2_s, h1, h2, if_true]
  rw [nI_lit 5, nI_addE]
theorem br_draught (hL : L ≤ 320) (hi : i + 5 ≤ L) (I : Inv q σ) : Brn L xs i σ F_L_law_413 := by
  obtain ⟨r, σ1, σ2, q', h1, h2, J⟩ := op_draught I (xs (i + 1)) (xs (i + 2))
  have l1 : lxo L (nI i + (1 : Int32)) = some (i + 1) := lxo_ok hL (j := 1) (by omega)
  have l2 : lxo L (nI i + (2 : Int32)) = some (i + 2) := lxo_ok hL (j := 2) (by omega)
  refine ⟨q', σ2, J, fun rec => ?_⟩
  unfold F_L_law_413
  simp only [l1, l2, bd1_s, bd2_s, h1, h2, if_true]
  rw [nI_lit 5, nI_addE]
theorem br_step (hL : L ≤ 320) (hi : i + 5 ≤ L) (I : Inv q σ) : Brn L xs i σ F_L_law_446 := by
  obtain ⟨r, σ1, σ2, q', h1, h2, J⟩ := op_step I (xs (i + 1))
  have l1 : lxo L (nI i + (1 : Int32)) = some (i + 1) := lxo_ok hL (j := 1) (by omega)
  refine ⟨q', σ2, J, fun rec => ?_⟩
  unfold F_L_law_446
  simp only [l1, bd1_s, bd2_s, h1, h2, if_true]
  rw [nI_lit 5, nI_addE]
theorem br_bidder (hL : L ≤ 320) (hi : i + 5 ≤ L) (I : Inv q σ) : Brn L xs i σ F_L_law_469 := by
  obtain ⟨r, σ1, σ2, q', h1, h2, J⟩ := op_bidder I (xs (i + 1)) (xs (i + 2)) (xs (i + 3)) (xs (i + 4))
  have l1 : lxo L (nI i + (1 : Int32)) = some (i + 1) := lxo_ok hL (j := 1) (by omega)
  have l2 : lxo L (nI i + (2 : Int32)) = some (i + 2) := lxo_ok hL (j := 2) (by omega)
  have l3 : lxo L (nI i + (3 : Int32)) = some (i + 3) := lxo_ok hL (j := 3) (by omega)
  have l4 : lxo L (nI i + (4 : Int32)) = some (i + 4) := lxo_ok hL (j := 4) (by omega)
  refine ⟨q', σ2, J, fun rec => ?_⟩
  unfold F_L_law_469
  simp only [l1, l2, l3, l4, bd1_s, bd2_s, h1, h2, if_true]
  rw [nI_lit 5, nI_addE]
theorem br_bidderOf (hL : L ≤ 320) (hi : i + 5 ≤ L) (I : Inv q σ) : Brn L xs i σ F_L_law_522 := by
  obtain ⟨r, σ1, σ2, q', h1, h2, J⟩ := op_bidderOf I (xs (i + 1)) (xs (i + 2))
  have l1 : lxo L (nI i + (1 : Int32)) = some (i + 1) := lxo_ok hL (j := 1) (by omega)
  have l2 : lxo L (nI i + (2 : Int32)) = some (i + 2) := lxo_ok hL (j := 2) (by omega)
  refine ⟨q', σ2, J, fun rec => ?_⟩
  unfold F_L_law_522
  simp only [l1, l2, bd1_s, bd2_s, h1, h2, if_true]
  rw [nI_lit 5, nI_addE]
theorem br_mind (hL : L ≤ 320) (hi : i + 5 ≤ L) (I : Inv q σ) : Brn L xs i σ F_L_law_555 := by
  obtain ⟨r, σ1, σ2, q', h1, h2, J⟩ := op_mind I (xs (i + 1)) (xs (i + 2)) (xs (i + 3))
  have l1 : lxo L (nI i + (1 : Int32)) = some (i + 1) := lxo_ok hL (j := 1) (by omega)
  have l2 : lxo L (nI i + (2 : Int32)) = some (i + 2) := lxo_ok hL (j := 2) (by omega)
  have l3 : lxo L (nI i + (3 : Int32)) = some (i + 3) := lxo_ok hL (j := 3) (by omega)
  refine ⟨q', σ2, J, fun rec => ?_⟩
  unfold F_L_law_555
  simp only [l1, l2, l3, bd1_s, bd2_s, h1, h2, if_true]
  rw [nI_lit 5, nI_addE]
theorem br_purse (hL : L ≤ 320) (hi : i + 5 ≤ L) (I : Inv q σ) : Brn L xs i σ F_L_law_598 := by
  obtain ⟨r, σ1, σ2, q', h1, h2, J⟩ := op_purse I (xs (i + 1)) (xs (i + 2)) (xs (i + 3))
  have l1 : lxo L (nI i + (1 : Int32)) = some (i + 1) := lxo_ok hL (j := 1) (by omega)
  have l2 : lxo L (nI i + (2 : Int32)) = some (i + 2) := lxo_ok hL (j := 2) (by omega)
  have l3 : lxo L (nI i + (3 : Int32)) = some (i + 3) := lxo_ok hL (j := 3) (by omega)
  refine ⟨q', σ2, J, fun rec => ?_⟩
  unfold F_L_law_598
  simp only [l1, l2, l3, bd1_s, bd2_s, h1, h2, if_true]
  rw [nI_lit 5, nI_addE]
theorem br_limit (hL : L ≤ 320) (hi : i + 5 ≤ L) (I : Inv q σ) : Brn L xs i σ F_L_law_641 := by
  obtain ⟨r, σ1, σ2, q', h1, h2, J⟩ := op_limit I (xs (i + 1)) (xs (i + 2))
  have l1 : lxo L (nI i + (1 : Int32)) = some (i + 1) := lxo_ok hL (j := 1) (by omega)
  have l2 : lxo L (nI i + (2 : Int32)) = some (i + 2) := lxo_ok hL (j := 2) (by omega)
  refine ⟨q', σ2, J, fun rec => ?_⟩
  unfold F_L_law_641
  simp only [l1, l2, bd1_s, bd2_s, h1, h2, if_true]
  rw [nI_lit 5, nI_addE]
theorem br_light (hL : L ≤ 320) (hi : i + 5 ≤ L) (I : Inv q σ) : Brn L xs i σ F_L_law_674 := by
  obtain ⟨r, σ1, σ2, q', h1, h2, J⟩ := op_light I (xs (i + 1))
  have l1 : lxo L (nI i + (1 : Int32)) = some (i + 1) := lxo_ok hL (j := 1) (by omega)
  refine ⟨q', σ2, J, fun rec => ?_⟩
  unfold F_L_law_674
  simp only [l1, bd1_s, bd2_s, h1, h2, if_true]
  rw [nI_lit 5, nI_addE]
theorem br_now (hL : L ≤ 320) (hi : i + 5 ≤ L) (I : Inv q σ) : Brn L xs i σ F_L_law_697 := by
  obtain ⟨r, σ1, σ2, q', h1, h2, J⟩ := op_now I (xs (i + 1))
  have l1 : lxo L (nI i + (1 : Int32)) = some (i + 1) := lxo_ok hL (j := 1) (by omega)
  refine ⟨q', σ2, J, fun rec => ?_⟩
  unfold F_L_law_697
  simp only [l1, bd1_s, bd2_s, h1, h2, if_true]
  rw [nI_lit 5, nI_addE]
theorem br_would (hL : L ≤ 320) (hi : i + 5 ≤ L) (I : Inv q σ) : Brn L xs i σ F_L_law_720 := by
  obtain ⟨r, σ1, σ2, q', h1, h2, J⟩ := op_would I (xs (i + 1))
  have l1 : lxo L (nI i + (1 : Int32)) = some (i + 1) := lxo_ok hL (j := 1) (by omega)
  refine ⟨q', σ2, J, fun rec => ?_⟩
  unfold F_L_law_720
  simp only [l1, bd1_s, bd2_s, h1, h2, if_true]
  rw [nI_lit 5, nI_addE]
theorem br_ticks (hL : L ≤ 320) (hi : i + 5 ≤ L) (I : Inv q σ) : Brn L xs i σ F_L_law_743 := by
  obtain ⟨r, σ1, σ2, q', h1, h2, J⟩ := op_ticks I (xs (i + 1))
  have l1 : lxo L (nI i + (1 : Int32)) = some (i + 1) := lxo_ok hL (j := 1) (by omega)
  refine ⟨q', σ2, J, fun rec => ?_⟩
  unfold F_L_law_743
  simp only [l1, bd1_s, bd2_s, h1, h2, if_true]
  rw [nI_lit 5, nI_addE]
theorem br_call (hL : L ≤ 320) (hi : i + 5 ≤ L) (I : Inv q σ) : Brn L xs i σ F_L_law_766 := by
  obtain ⟨r, σ1, σ2, q', h1, h2, J⟩ := op_call I (xs (i + 1)) (xs (i + 2))
  have l1 : lxo L (nI i + (1 : Int32)) = some (i + 1) := lxo_ok hL (j := 1) (by omega)
  have l2 : lxo L (nI i + (2 : Int32)) = some (i + 2) := lxo_ok hL (j := 2) (by omega)
  refine ⟨q', σ2, J, fun rec => ?_⟩
  unfold F_L_law_766
  simp only [l1, l2, bd1_s, bd2_s, h1, h2, if_true]
  rw [nI_lit 5, nI_addE]
theorem br_snuff (hL : L ≤ 320) (hi : i + 5 ≤ L) (I : Inv q σ) : Brn L xs i σ F_L_law_799 := by
  obtain ⟨r, σ1, σ2, q', h1, h2, J⟩ := op_snuff I
  refine ⟨q', σ2, J, fun rec => ?_⟩
  unfold F_L_law_799
  simp only [bd1_s, bd2_s, h1, h2, if_true]
  rw [nI_lit 5, nI_addE]
theorem br_back (hL : L ≤ 320) (hi : i + 5 ≤ L) (I : Inv q σ) : Brn L xs i σ F_L_law_812 := by
  obtain ⟨r, σ1, σ2, q', h1, h2, J⟩ := op_back I (xs (i + 1))
  have l1 : lxo L (nI i + (1 : Int32)) = some (i + 1) := lxo_ok hL (j := 1) (by omega)
  refine ⟨q', σ2, J, fun rec => ?_⟩
  unfold F_L_law_812
  simp only [l1, bd1_s, bd2_s, h1, h2, if_true]
  rw [nI_lit 5, nI_addE]
theorem br_end (hL : L ≤ 320) (hi : i + 5 ≤ L) (I : Inv q σ) : Brn L xs i σ F_L_law_835 := by
  obtain ⟨r, σ1, σ2, q', h1, h2, J⟩ := op_end I (xs (i + 1))
  have l1 : lxo L (nI i + (1 : Int32)) = some (i + 1) := lxo_ok hL (j := 1) (by omega)
  refine ⟨q', σ2, J, fun rec => ?_⟩
  unfold F_L_law_835
  simp only [l1, bd1_s, bd2_s, h1, h2, if_true]
  rw [nI_lit 5, nI_addE]
theorem br_wins (hL : L ≤ 320) (hi : i + 5 ≤ L) (I : Inv q σ) : Brn L xs i σ F_L_law_858 := by
  obtain ⟨r, σ1, σ2, q', h1, h2, J⟩ := op_wins I (xs (i + 1)) (xs (i + 2))
  have l1 : lxo L (nI i + (1 : Int32)) = some (i + 1) := lxo_ok hL (j := 1) (by omega)
  have l2 : lxo L (nI i + (2 : Int32)) = some (i + 2) := lxo_ok hL (j := 2) (by omega)
  refine ⟨q', σ2, J, fun rec => ?_⟩
  unfold F_L_law_858
  simp only [l1, l2, bd1_s, bd2_s, h1, h2, if_true]
  rw [nI_lit 5, nI_addE]
theorem br_patience (hL : L ≤ 320) (hi : i + 5 ≤ L) (I : Inv q σ) : Brn L xs i σ F_L_law_891 := by
  obtain ⟨r, σ1, σ2, q', h1, h2, J⟩ := op_patience I (xs (i + 1)) (xs (i + 2))
  have l1 : lxo L (nI i + (1 : Int32)) = some (i + 1) := lxo_ok hL (j := 1) (by omega)
  have l2 : lxo L (nI i + (2 : Int32)) = some (i + 2) := lxo_ok hL (j := 2) (by omega)
  refine ⟨q', σ2, J, fun rec => ?_⟩
  unfold F_L_law_891
  simp only [l1, l2, bd1_s, bd2_s, h1, h2, if_true]
  rw [nI_lit 5, nI_addE]
theorem br_gust (hL : L ≤ 320) (hi : i + 5 ≤ L) (I : Inv q σ) : Brn L xs i σ F_L_law_924 := by
  obtain ⟨r, σ1, σ2, q', h1, h2, J⟩ := op_gust I (xs (i + 1)) (xs (i + 2))
  have l1 : lxo L (nI i + (1 : Int32)) = some (i + 1) := lxo_ok hL (j := 1) (by omega)
  have l2 : lxo L (nI i + (2 : Int32)) = some (i + 2) := lxo_ok hL (j := 2) (by omega)
  refine ⟨q', σ2, J, fun rec => ?_⟩
  unfold F_L_law_924
  simp only [l1, l2, bd1_s, bd2_s, h1, h2, if_true]
  rw [nI_lit 5, nI_addE]
theorem br_wax (hL : L ≤ 320) (hi : i + 5 ≤ L) (I : Inv q σ) : Brn L xs i σ F_L_law_957 := by
  obtain ⟨r, σ1, σ2, q', h1, h2, J⟩ := op_wax I (xs (i + 1)) (xs (i + 2))
  have l1 : lxo L (nI i + (1 : Int32)) = some (i + 1) := lxo_ok hL (j := 1) (by omega)
  have l2 : lxo L (nI i + (2 : Int32)) = some (i + 2) := lxo_ok hL (j := 2) (by omega)
  refine ⟨q', σ2, J, fun rec => ?_⟩
  unfold F_L_law_957
  simp only [l1, l2, bd1_s, bd2_s, h1, h2, if_true]
  rw [nI_lit 5, nI_addE]
theorem br_silent (hL : L ≤ 320) (hi : i + 5 ≤ L) (I : Inv q σ) : Brn L xs i σ F_L_law_990 := by
  obtain ⟨r, σ1, σ2, q', h1, h2, J⟩ := op_silent I (xs (i + 1))
  have l1 : lxo L (nI i + (1 : Int32)) = some (i + 1) := lxo_ok hL (j := 1) (by omega)
  refine ⟨q', σ2, J, fun rec => ?_⟩
  unfold F_L_law_990
  simp only [l1, bd1_s, bd2_s, h1, h2, if_true]
  rw [nI_lit 5, nI_addE]
theorem br_order (hL : L ≤ 320) (hi : i + 5 ≤ L) (I : Inv q σ) : Brn L xs i σ F_L_law_1013 := by
  obtain ⟨r, σ1, σ2, q', h1, h2, J⟩ := op_order I (xs (i + 1))
  have l1 : lxo L (nI i + (1 : Int32)) = some (i + 1) := lxo_ok hL (j := 1) (by omega)
  refine ⟨q', σ2, J, fun rec => ?_⟩
  unfold F_L_law_1013
  simp only [l1, bd1_s, bd2_s, h1, h2, if_true]
  rw [nI_lit 5, nI_addE]
theorem br_most (hL : L ≤ 320) (hi : i + 5 ≤ L) (I : Inv q σ) : Brn L xs i σ F_L_law_1036 := by
  obtain ⟨r, σ1, σ2, q', h1, h2, J⟩ := op_most I (xs (i + 1))
  have l1 : lxo L (nI i + (1 : Int32)) = some (i + 1) := lxo_ok hL (j := 1) (by omega)
  refine ⟨q', σ2, J, fun rec => ?_⟩
  unfold F_L_law_1036
  simp only [l1, bd1_s, bd2_s, h1, h2, if_true]
  rw [nI_lit 5, nI_addE]
theorem br_owed (hL : L ≤ 320) (hi : i + 5 ≤ L) (I : Inv q σ) : Brn L xs i σ F_L_law_1059 := by
  obtain ⟨r, σ1, σ2, q', h1, h2, J⟩ := op_owed I (xs (i + 1))
  have l1 : lxo L (nI i + (1 : Int32)) = some (i + 1) := lxo_ok hL (j := 1) (by omega)
  refine ⟨q', σ2, J, fun rec => ?_⟩
  unfold F_L_law_1059
  simp only [l1, bd1_s, bd2_s, h1, h2, if_true]
  rw [nI_lit 5, nI_addE]
theorem br_seed (hL : L ≤ 320) (hi : i + 5 ≤ L) (I : Inv q σ) : Brn L xs i σ F_L_law_1082 := by
  obtain ⟨r, σ1, σ2, q', h1, h2, J⟩ := op_seed I (xs (i + 1))
  have l1 : lxo L (nI i + (1 : Int32)) = some (i + 1) := lxo_ok hL (j := 1) (by omega)
  refine ⟨q', σ2, J, fun rec => ?_⟩
  unfold F_L_law_1082
  simp only [l1, bd1_s, bd2_s, h1, h2, if_true]
  rw [nI_lit 5, nI_addE]
theorem br_draw (hL : L ≤ 320) (hi : i + 5 ≤ L) (I : Inv q σ) : Brn L xs i σ F_L_law_1105 := by
  obtain ⟨r, σ1, σ2, q', h1, h2, J⟩ := op_draw I (xs (i + 1))
  have l1 : lxo L (nI i + (1 : Int32)) = some (i + 1) := lxo_ok hL (j := 1) (by omega)
  refine ⟨q', σ2, J, fun rec => ?_⟩
  unfold F_L_law_1105
  simp only [l1, bd1_s, bd2_s, h1, h2, if_true]
  rw [nI_lit 5, nI_addE]
theorem br_prove (hL : L ≤ 320) (hi : i + 5 ≤ L) (I : Inv q σ) : Brn L xs i σ F_L_law_1128 := by
  obtain ⟨r, σ1, σ2, q', h1, h2, J⟩ := op_prove I (xs (i + 1))
  have l1 : lxo L (nI i + (1 : Int32)) = some (i + 1) := lxo_ok hL (j := 1) (by omega)
  refine ⟨q', σ2, J, fun rec => ?_⟩
  unfold F_L_law_1128
  simp only [l1, bd1_s, bd2_s, h1, h2, if_true]
  rw [nI_lit 5, nI_addE]
theorem br_row (hL : L ≤ 320) (hi : i + 5 ≤ L) (I : Inv q σ) : Brn L xs i σ F_L_law_1151 := by
  obtain ⟨r, σ1, σ2, q', h1, h2, J⟩ := op_row I (xs (i + 1)) (xs (i + 2))
  have l1 : lxo L (nI i + (1 : Int32)) = some (i + 1) := lxo_ok hL (j := 1) (by omega)
  have l2 : lxo L (nI i + (2 : Int32)) = some (i + 2) := lxo_ok hL (j := 2) (by omega)
  refine ⟨q', σ2, J, fun rec => ?_⟩
  unfold F_L_law_1151
  simp only [l1, l2, bd1_s, bd2_s, h1, h2, if_true]
  rw [nI_lit 5, nI_addE]
theorem br_alterRow (hL : L ≤ 320) (hi : i + 5 ≤ L) (I : Inv q σ) : Brn L xs i σ F_L_law_1184 := by
  obtain ⟨r, σ1, σ2, q', h1, h2, J⟩ := op_alterRow I (xs (i + 1)) (xs (i + 2)) (xs (i + 3))
  have l1 : lxo L (nI i + (1 : Int32)) = some (i + 1) := lxo_ok hL (j := 1) (by omega)
  have l2 : lxo L (nI i + (2 : Int32)) = some (i + 2) := lxo_ok hL (j := 2) (by omega)
  have l3 : lxo L (nI i + (3 : Int32)) = some (i + 3) := lxo_ok hL (j := 3) (by omega)
  refine ⟨q', σ2, J, fun rec => ?_⟩
  unfold F_L_law_1184
  simp only [l1, l2, l3, bd1_s, bd2_s, h1, h2, if_true]
  rw [nI_lit 5, nI_addE]
theorem br_judge (hL : L ≤ 320) (hi : i + 5 ≤ L) (I : Inv q σ) : Brn L xs i σ F_L_law_1227 := by
  obtain ⟨r, σ1, σ2, q', h1, h2, J⟩ := op_judge I (xs (i + 1))
  have l1 : lxo L (nI i + (1 : Int32)) = some (i + 1) := lxo_ok hL (j := 1) (by omega)
  refine ⟨q', σ2, J, fun rec => ?_⟩
  unfold F_L_law_1227
  simp only [l1, bd1_s, bd2_s, h1, h2, if_true]
  rw [nI_lit 5, nI_addE]
theorem br_draughts (hL : L ≤ 320) (hi : i + 5 ≤ L) (I : Inv q σ) : Brn L xs i σ F_L_law_1250 := by
  obtain ⟨r, σ1, σ2, q', h1, h2, J⟩ := op_draughts I (xs (i + 1)) (xs (i + 2)) (xs (i + 3)) (xs (i + 4))
  have l1 : lxo L (nI i + (1 : Int32)) = some (i + 1) := lxo_ok hL (j := 1) (by omega)
  have l2 : lxo L (nI i + (2 : Int32)) = some (i + 2) := lxo_ok hL (j := 2) (by omega)
  have l3 : lxo L (nI i + (3 : Int32)) = some (i + 3) := lxo_ok hL (j := 3) (by omega)
  have l4 : lxo L (nI i + (4 : Int32)) = some (i + 4) := lxo_ok hL (j := 4) (by omega)
  refine ⟨q', σ2, J, fun rec => ?_⟩
  unfold F_L_law_1250
  simp only [l1, l2, l3, l4, bd1_s, bd2_s, h1, h2, if_true]
  rw [nI_lit 5, nI_addE]
theorem br_sheet (hL : L ≤ 320) (hi : i + 5 ≤ L) (I : Inv q σ) : Brn L xs i σ F_L_law_1303 := by
  obtain ⟨r, σ1, σ2, q', h1, h2, J⟩ := op_sheet I (xs (i + 1)) (xs (i + 2)) (xs (i + 3))
  have l1 : lxo L (nI i + (1 : Int32)) = some (i + 1) := lxo_ok hL (j := 1) (by omega)
  have l2 : lxo L (nI i + (2 : Int32)) = some (i + 2) := lxo_ok hL (j := 2) (by omega)
  have l3 : lxo L (nI i + (3 : Int32)) = some (i + 3) := lxo_ok hL (j := 3) (by omega)
  refine ⟨q', σ2, J, fun rec => ?_⟩
  unfold F_L_law_1303
  simp only [l1, l2, l3, bd1_s, bd2_s, h1, h2, if_true]
  rw [nI_lit 5, nI_addE]
theorem br_put (hL : L ≤ 320) (hi : i + 5 ≤ L) (I : Inv q σ) : Brn L xs i σ F_L_law_1346 := by
  obtain ⟨r, σ1, σ2, q', h1, h2, J⟩ := op_put I (xs (i + 1)) (xs (i + 2)) (xs (i + 3))
  have l1 : lxo L (nI i + (1 : Int32)) = some (i + 1) := lxo_ok hL (j := 1) (by omega)
  have l2 : lxo L (nI i + (2 : Int32)) = some (i + 2) := lxo_ok hL (j := 2) (by omega)
  have l3 : lxo L (nI i + (3 : Int32)) = some (i + 3) := lxo_ok hL (j := 3) (by omega)
  refine ⟨q', σ2, J, fun rec => ?_⟩
  unfold F_L_law_1346
  simp only [l1, l2, l3, bd1_s, bd2_s, h1, h2, if_true]
  rw [nI_lit 5, nI_addE]
theorem br_item (hL : L ≤ 320) (hi : i + 5 ≤ L) (I : Inv q σ) : Brn L xs i σ F_L_law_1389 := by
  obtain ⟨r, σ1, σ2, q', h1, h2, J⟩ := op_item I (xs (i + 1)) (xs (i + 2)) (xs (i + 3))
  have l1 : lxo L (nI i + (1 : Int32)) = some (i + 1) := lxo_ok hL (j := 1) (by omega)
  have l2 : lxo L (nI i + (2 : Int32)) = some (i + 2) := lxo_ok hL (j := 2) (by omega)
  have l3 : lxo L (nI i + (3 : Int32)) = some (i + 3) := lxo_ok hL (j := 3) (by omega)
  refine ⟨q', σ2, J, fun rec => ?_⟩
  unfold F_L_law_1389
  simp only [l1, l2, l3, bd1_s, bd2_s, h1, h2, if_true]
  rw [nI_lit 5, nI_addE]
theorem br_shelf (hL : L ≤ 320) (hi : i + 5 ≤ L) (I : Inv q σ) : Brn L xs i σ F_L_law_1432 := by
  obtain ⟨r, σ1, σ2, q', h1, h2, J⟩ := op_shelf I (xs (i + 1)) (xs (i + 2)) (xs (i + 3))
  have l1 : lxo L (nI i + (1 : Int32)) = some (i + 1) := lxo_ok hL (j := 1) (by omega)
  have l2 : lxo L (nI i + (2 : Int32)) = some (i + 2) := lxo_ok hL (j := 2) (by omega)
  have l3 : lxo L (nI i + (3 : Int32)) = some (i + 3) := lxo_ok hL (j := 3) (by omega)
  refine ⟨q', σ2, J, fun rec => ?_⟩
  unfold F_L_law_1432
  simp only [l1, l2, l3, bd1_s, bd2_s, h1, h2, if_true]
  rw [nI_lit 5, nI_addE]
theorem br_taken (hL : L ≤ 320) (hi : i + 5 ≤ L) (I : Inv q σ) : Brn L xs i σ F_L_law_1475 := by
  obtain ⟨r, σ1, σ2, q', h1, h2, J⟩ := op_taken I (xs (i + 1)) (xs (i + 2))
  have l1 : lxo L (nI i + (1 : Int32)) = some (i + 1) := lxo_ok hL (j := 1) (by omega)
  have l2 : lxo L (nI i + (2 : Int32)) = some (i + 2) := lxo_ok hL (j := 2) (by omega)
  refine ⟨q', σ2, J, fun rec => ?_⟩
  unfold F_L_law_1475
  simp only [l1, l2, bd1_s, bd2_s, h1, h2, if_true]
  rw [nI_lit 5, nI_addE]
theorem br_act (hL : L ≤ 320) (hi : i + 5 ≤ L) (I : Inv q σ) : Brn L xs i σ F_L_law_1508 := by
  obtain ⟨r, σ1, σ2, q', h1, h2, J⟩ := op_act I (xs (i + 1)) (xs (i + 2)) (xs (i + 3))
  have l1 : lxo L (nI i + (1 : Int32)) = some (i + 1) := lxo_ok hL (j := 1) (by omega)
  have l2 : lxo L (nI i + (2 : Int32)) = some (i + 2) := lxo_ok hL (j := 2) (by omega)
  have l3 : lxo L (nI i + (3 : Int32)) = some (i + 3) := lxo_ok hL (j := 3) (by omega)
  refine ⟨q', σ2, J, fun rec => ?_⟩
  unfold F_L_law_1508
  simp only [l1, l2, l3, bd1_s, bd2_s, h1, h2, if_true]
  rw [nI_lit 5, nI_addE]
theorem br_trace (hL : L ≤ 320) (hi : i + 5 ≤ L) (I : Inv q σ) : Brn L xs i σ F_L_law_1551 := by
  obtain ⟨r, σ1, σ2, q', h1, h2, J⟩ := op_trace I (xs (i + 1))
  have l1 : lxo L (nI i + (1 : Int32)) = some (i + 1) := lxo_ok hL (j := 1) (by omega)
  refine ⟨q', σ2, J, fun rec => ?_⟩
  unfold F_L_law_1551
  simp only [l1, bd1_s, bd2_s, h1, h2, if_true]
  rw [nI_lit 5, nI_addE]
theorem br_many (hL : L ≤ 320) (hi : i + 5 ≤ L) (I : Inv q σ) : Brn L xs i σ F_L_law_1574 := by
  obtain ⟨r, σ1, σ2, q', h1, h2, J⟩ := op_many I (xs (i + 1))
  have l1 : lxo L (nI i + (1 : Int32)) = some (i + 1) := lxo_ok hL (j := 1) (by omega)
  refine ⟨q', σ2, J, fun rec => ?_⟩
  unfold F_L_law_1574
  simp only [l1, bd1_s, bd2_s, h1, h2, if_true]
  rw [nI_lit 5, nI_addE]
theorem br_keep (hL : L ≤ 320) (hi : i + 5 ≤ L) (I : Inv q σ) : Brn L xs i σ F_L_law_1597 := by
  obtain ⟨r, σ1, σ2, q', h1, h2, J⟩ := op_keep I
  refine ⟨q', σ2, J, fun rec => ?_⟩
  unfold F_L_law_1597
  simp only [bd1_s, bd2_s, h1, h2, if_true]
  rw [nI_lit 5, nI_addE]
theorem br_again (hL : L ≤ 320) (hi : i + 5 ≤ L) (I : Inv q σ) : Brn L xs i σ F_L_law_1610 := by
  obtain ⟨r, σ1, σ2, q', h1, h2, J⟩ := op_again I
  refine ⟨q', σ2, J, fun rec => ?_⟩
  unfold F_L_law_1610
  simp only [bd1_s, bd2_s, h1, h2, if_true]
  rw [nI_lit 5, nI_addE]
theorem law_step (hL : L ≤ 320) (hi : i + 5 ≤ L) (I : Inv q σ) : ∃ (q' : HQ) (σ' : Mem), Inv q' σ' ∧ ∀ rec, F_L_law_18 L xs 0 94 rec (nI i) σ = rec (nI (i + 5)) σ' := by
  have l0 : lxo L (nI i) = some i := by
    have := lxo_ok hL (i := i) (j := 0) (by omega)
    rw [nI_addE] at this
    exact this
  have g : ¬ ((Int32.ofNat L) - (5 : Int32) < nI i) := by
    show ¬ (nI L - nI 5 < nI i)
    rw [Int32.lt_iff_toInt_lt, nI_subI (by omega) (by omega), nI_toInt (by omega : i < 2 ^ 31)]
    omega
  have st : ∀ rec, F_L_law_18 L xs 0 94 rec (nI i) σ = (if xs i &&& (63 : Int32) = (0 : Int32) then F_L_law_228 L xs 0 94 rec (nI i) σ else if xs i &&& (63 : Int32) = (1 : Int32) then F_L_law_291 L xs 0 94 rec (nI i) σ else if xs i &&& (63 : Int32) = (2 : Int32) then F_L_law_304 L xs 0 94 rec (nI i) σ else if xs i &&& (63 : Int32) = (3 : Int32) then F_L_law_337 L xs 0 94 rec (nI i) σ else if xs i &&& (63 : Int32) = (4 : Int32) then F_L_law_370 L xs 0 94 rec (nI i) σ else if xs i &&& (63 : Int32) = (5 : Int32) then F_L_law_413 L xs 0 94 rec (nI i) σ else if xs i &&& (63 : Int32) = (6 : Int32) then F_L_law_446 L xs 0 94 rec (nI i) σ else if xs i &&& (63 : Int32) = (7 : Int32) then F_L_law_469 L xs 0 94 rec (nI i) σ else if xs i &&& (63 : Int32) = (8 : Int32) then F_L_law_522 L xs 0 94 rec (nI i) σ else if xs i &&& (63 : Int32) = (9 : Int32) then F_L_law_555 L xs 0 94 rec (nI i) σ else if xs i &&& (63 : Int32) = (10 : Int32) then F_L_law_598 L xs 0 94 rec (nI i) σ else if xs i &&& (63 : Int32) = (11 : Int32) then F_L_law_641 L xs 0 94 rec (nI i) σ else if xs i &&& (63 : Int32) = (12 : Int32) then F_L_law_674 L xs 0 94 rec (nI i) σ else if xs i &&& (63 : Int32) = (13 : Int32) then F_L_law_697 L xs 0 94 rec (nI i) σ else if xs i &&& (63 : Int32) = (14 : Int32) then F_L_law_720 L xs 0 94 rec (nI i) σ else if xs i &&& (63 : Int32) = (15 : Int32) then F_L_law_743 L xs 0 94 rec (nI i) σ else if xs i &&& (63 : Int32) = (16 : Int32) then F_L_law_766 L xs 0 94 rec (nI i) σ else if xs i &&& (63 : Int32) = (17 : Int32) then F_L_law_799 L xs 0 94 rec (nI i) σ else if xs i &&& (63 : Int32) = (18 : Int32) then F_L_law_812 L xs 0 94 rec (nI i) σ else if xs i &&& (63 : Int32) = (19 : Int32) then F_L_law_835 L xs 0 94 rec (nI i) σ else if xs i &&& (63 : Int32) = (20 : Int32) then F_L_law_858 L xs 0 94 rec (nI i) σ else if xs i &&& (63 : Int32) = (21 : Int32) then F_L_law_891 L xs 0 94 rec (nI i) σ else if xs i &&& (63 : Int32) = (22 : Int32) then F_L_law_924 L xs 0 94 rec (nI i) σ else if xs i &&& (63 : Int32) = (23 : Int32) then F_L_law_957 L xs 0 94 rec (nI i) σ else if xs i &&& (63 : Int32) = (24 : Int32) then F_L_law_990 L xs 0 94 rec (nI i) σ else if xs i &&& (63 : Int32) = (25 : Int32) then F_L_law_1013 L xs 0 94 rec (nI i) σ else if xs i &&& (63 : Int32) = (26 : Int32) then F_L_law_1036 L xs 0 94 rec (nI i) σ else if xs i &&& (63 : Int32) = (27 : Int32) then F_L_law_1059 L xs 0 94 rec (nI i) σ else if xs i &&& (63 : Int32) = (28 : Int32) then F_L_law_1082 L xs 0 94 rec (nI i) σ else if xs i &&& (63 : Int32) = (29 : Int32) then F_L_law_1105 L xs 0 94 rec (nI i) σ else if xs i &&& (63 : Int32) = (30 : Int32) then F_L_law_1128 L xs 0 94 rec (nI i) σ else if xs i &&& (63 : Int32) = (31 : Int32) then F_L_law_1151 L xs 0 94 rec (nI i) σ else if xs i &&& (63 : Int32) = (32 : Int32) then F_L_law_1184 L xs 0 94 rec (nI i) σ else if xs i &&& (63 : Int32) = (33 : Int32) then F_L_law_1227 L xs 0 94 rec (nI i) σ else if xs i &&& (63 : Int32) = (34 : Int32) then F_L_law_1250 L xs 0 94 rec (nI i) σ else if xs i &&& (63 : Int32) = (35 : Int32) then F_L_law_1303 L xs 0 94 rec (nI i) σ else if xs i &&& (63 : Int32) = (36 : Int32) then F_L_law_1346 L xs 0 94 rec (nI i) σ else if xs i &&& (63 : Int32) = (37 : Int32) then F_L_law_1389 L xs 0 94 rec (nI i) σ else if xs i &&& (63 : Int32) = (38 : Int32) then F_L_law_1432 L xs 0 94 rec (nI i) σ else if xs i &&& (63 : Int32) = (39 : Int32) then F_L_law_1475 L xs 0 94 rec (nI i) σ else if xs i &&& (63 : Int32) = (40 : Int32) then F_L_law_1508 L xs 0 94 rec (nI i) σ else if xs i &&& (63 : Int32) = (41 : Int32) then F_L_law_1551 L xs 0 94 rec (nI i) σ else if xs i &&& (63 : Int32) = (42 : Int32) then F_L_law_1574 L xs 0 94 rec (nI i) σ else if xs i &&& (63 : Int32) = (43 : Int32) then F_L_law_1597 L xs 0 94 rec (nI i) σ else if xs i &&& (63 : Int32) = (44 : Int32) then F_L_law_1610 L xs 0 94 rec (nI i) σ else rec (nI i + (5 : Int32)) σ) := fun rec => by
    unfold F_L_law_18
    rw [if_neg g, l0, bd1_s]
  by_cases e0 : xs i &&& (63 : Int32) = (0 : Int32)
  · obtain ⟨q', σ', J, h⟩ := br_feed (xs := xs) hL hi I
    exact ⟨q', σ', J, fun rec => by rw [st, if_pos e0, h]⟩
  by_cases e1 : xs i &&& (63 : Int32) = (1 : Int32)
  · obtain ⟨q', σ', J, h⟩ := br_hall (xs := xs) hL hi I
    exact ⟨q', σ', J, fun rec => by rw [st, if_neg e0, if_pos e1, h]⟩
  by_cases e2 : xs i &&& (63 : Int32) = (2 : Int32)
  · obtain ⟨q', σ', J, h⟩ := br_lot (xs := xs) hL hi I
    exact ⟨q', σ', J, fun rec => by rw [st, if_neg e0, if_neg e1, if_pos e2, h]⟩
  by_cases e3 : xs i &&& (63 : Int32) = (3 : Int32)
  · obtain ⟨q', σ', J, h⟩ := br_lotOf (xs := xs) hL hi I
    exact ⟨q', σ', J, fun rec => by rw [st, if_neg e0, if_neg e1, if_neg e2, if_pos e3, h]⟩
  by_cases e4 : xs i &&& (63 : Int32) = (4 : Int32)
  · obtain ⟨q', σ', J, h⟩ := br_trim (xs := xs) hL hi I
    exact ⟨q', σ', J, fun rec => by rw [st, if_neg e0, if_neg e1, if_neg e2, if_neg e3, if_pos e4, h]⟩
  by_cases e5 : xs i &&& (63 : Int32) = (5 : Int32)
  · obtain ⟨q', σ', J, h⟩ := br_draught (xs := xs) hL hi I
    exact ⟨q', σ', J, fun rec => by rw [st, if_neg e0, if_neg e1, if_neg e2, if_neg e3, if_neg e4, if_pos e5, h]⟩
  by_cases e6 : xs i &&& (63 : Int32) = (6 : Int32)
  · obtain ⟨q', σ', J, h⟩ := br_step (xs := xs) hL hi I
    exact ⟨q', σ', J, fun rec => by rw [st, if_neg e0, if_neg e1, if_neg e2, if_neg e3, if_neg e4, if_neg e5, if_pos e6, h]⟩
  by_cases e7 : xs i &&& (63 : Int32) = (7 : Int32)
  · obtain ⟨q', σ', J, h⟩ := br_bidder (xs := xs) hL hi I
    exact ⟨q', σ', J, fun rec => by rw [st, if_neg e0, if_neg e1, if_neg e2, if_neg e3, if_neg e4, if_neg e5, if_neg e6, if_pos e7, h]⟩
  by_cases e8 : xs i &&& (63 : Int32) = (8 : Int32)
  · obtain ⟨q', σ', J, h⟩ := br_bidderOf (xs := xs) hL hi I
    exact ⟨q', σ', J, fun rec => by rw [st, if_neg e0, if_neg e1, if_neg e2, if_neg e3, if_neg e4, if_neg e5, if_neg e6, if_neg e7, if_pos e8, h]⟩
  by_cases e9 : xs i &&& (63 : Int32) = (9 : Int32)
  · obtain ⟨q', σ', J, h⟩ := br_mind (xs := xs) hL hi I
    exact ⟨q', σ', J, fun rec => by rw [st, if_neg e0, if_neg e1, if_neg e2, if_neg e3, if_neg e4, if_neg e5, if_neg e6, if_neg e7, if_neg e8, if_pos e9, h]⟩
  by_cases e10 : xs i &&& (63 : Int32) = (10 : Int32)
  · obtain ⟨q', σ', J, h⟩ := br_purse (xs := xs) hL hi I
    exact ⟨q', σ', J, fun rec => by rw [st, if_neg e0, if_neg e1, if_neg e2, if_neg e3, if_neg e4, if_neg e5, if_neg e6, if_neg e7, if_neg e8, if_neg e9, if_pos e10, h]⟩
  by_cases e11 : xs i &&& (63 : Int32) = (11 : Int32)
  · obtain ⟨q', σ', J, h⟩ := br_limit (xs := xs) hL hi I
    exact ⟨q', σ', J, fun rec => by rw [st, if_neg e0, if_neg e1, if_neg e2, if_neg e3, if_neg e4, if_neg e5, if_neg e6, if_neg e7, if_neg e8, if_neg e9, if_neg e10, if_pos e11, h]⟩
  by_cases e12 : xs i &&& (63 : Int32) = (12 : Int32)
  · obtain ⟨q', σ', J, h⟩ := br_light (xs := xs) hL hi I
    exact ⟨q', σ', J, fun rec => by rw [st, if_neg e0, if_neg e1, if_neg e2, if_neg e3, if_neg e4, if_neg e5, if_neg e6, if_neg e7, if_neg e8, if_neg e9, if_neg e10, if_neg e11, if_pos e12, h]⟩
  by_cases e13 : xs i &&& (63 : Int32) = (13 : Int32)
  · obtain ⟨q', σ', J, h⟩ := br_now (xs := xs) hL hi I
    exact ⟨q', σ', J, fun rec => by rw [st, if_neg e0, if_neg e1, if_neg e2, if_neg e3, if_neg e4, if_neg e5, if_neg e6, if_neg e7, if_neg e8, if_neg e9, if_neg e10, if_neg e11, if_neg e12, if_pos e13, h]⟩
  by_cases e14 : xs i &&& (63 : Int32) = (14 : Int32)
  · obtain ⟨q', σ', J, h⟩ := br_would (xs := xs) hL hi I
    exact ⟨q', σ', J, fun rec => by rw [st, if_neg e0, if_neg e1, if_neg e2, if_neg e3, if_neg e4, if_neg e5, if_neg e6, if_neg e7, if_neg e8, if_neg e9, if_neg e10, if_neg e11, if_neg e12, if_neg e13, if_pos e14, h]⟩
  by_cases e15 : xs i &&& (63 : Int32) = (15 : Int32)
  · obtain ⟨q', σ', J, h⟩ := br_ticks (xs := xs) hL hi I
    exact ⟨q', σ', J, fun rec => by rw [st, if_neg e0, if_neg e1, if_neg e2, if_neg e3, if_neg e4, if_neg e5, if_neg e6, if_neg e7, if_neg e8, if_neg e9, if_neg e10, if_neg e11, if_neg e12, if_neg e13, if_neg e14, if_pos e15, h]⟩
  by_cases e16 : xs i &&& (63 : Int32) = (16 : Int32)
  · obtain ⟨q', σ', J, h⟩ := br_call (xs := xs) hL hi I
    exact ⟨q', σ', J, fun rec => by rw [st, if_neg e0, if_neg e1, if_neg e2, if_neg e3, if_neg e4, if_neg e5, if_neg e6, if_neg e7, if_neg e8, if_neg e9, if_neg e10, if_neg e11, if_neg e12, if_neg e13, if_neg e14, if_neg e15, if_pos e16, h]⟩
  by_cases e17 : xs i &&& (63 : Int32) = (17 : Int32)
  · obtain ⟨q', σ', J, h⟩ := br_snuff (xs := xs) hL hi I
    exact ⟨q', σ', J, fun rec => by rw [st, if_neg e0, if_neg e1, if_neg e2, if_neg e3, if_neg e4, if_neg e5, if_neg e6, if_neg e7, if_neg e8, if_neg e9, if_neg e10, if_neg e11, if_neg e12, if_neg e13, if_neg e14, if_neg e15, if_neg e16, if_pos e17, h]⟩
  by_cases e18 : xs i &&& (63 : Int32) = (18 : Int32)
  · obtain ⟨q', σ', J, h⟩ := br_back (xs := xs) hL hi I
    exact ⟨q', σ', J, fun rec => by rw [st, if_neg e0, if_neg e1, if_neg e2, if_neg e3, if_neg e4, if_neg e5, if_neg e6, if_neg e7, if_neg e8, if_neg e9, if_neg e10, if_neg e11, if_neg e12, if_neg e13, if_neg e14, if_neg e15, if_neg e16, if_neg e17, if_pos e18, h]⟩
  by_cases e19 : xs i &&& (63 : Int32) = (19 : Int32)
  · obtain ⟨q', σ', J, h⟩ := br_end (xs := xs) hL hi I
    exact ⟨q', σ', J, fun rec => by rw [st, if_neg e0, if_neg e1, if_neg e2, if_neg e3, if_neg e4, if_neg e5, if_neg e6, if_neg e7, if_neg e8, if_neg e9, if_neg e10, if_neg e11, if_neg e12, if_neg e13, if_neg e14, if_neg e15, if_neg e16, if_neg e17, if_neg e18, if_pos e19, h]⟩
  by_cases e20 : xs i &&& (63 : Int32) = (20 : Int32)
  · obtain ⟨q', σ', J, h⟩ := br_wins (xs := xs) hL hi I
    exact ⟨q', σ', J, fun rec => by rw [st, if_neg e0, if_neg e1, if_neg e2, if_neg e3, if_neg e4, if_neg e5, if_neg e6, if_neg e7, if_neg e8, if_neg e9, if_neg e10, if_neg e11, if_neg e12, if_neg e13, if_neg e14, if_neg e15, if_neg e16, if_neg e17, if_neg e18, if_neg e19, if_pos e20, h]⟩
  by_cases e21 : xs i &&& (63 : Int32) = (21 : Int32)
  · obtain ⟨q', σ', J, h⟩ := br_patience (xs := xs) hL hi I
    exact ⟨q', σ', J, fun rec => by rw [st, if_neg e0, if_neg e1, if_neg e2, if_neg e3, if_neg e4, if_neg e5, if_neg e6, if_neg e7, if_neg e8, if_neg e9, if_neg e10, if_neg e11, if_neg e12, if_neg e13, if_neg e14, if_neg e15, if_neg e16, if_neg e17, if_neg e18, if_neg e19, if_neg e20, if_pos e21, h]⟩
  by_cases e22 : xs i &&& (63 : Int32) = (22 : Int32)
  · obtain ⟨q', σ', J, h⟩ := br_gust (xs := xs) hL hi I
    exact ⟨q', σ', J, fun rec => by rw [st, if_neg e0, if_neg e1, if_neg e2, if_neg e3, if_neg e4, if_neg e5, if_neg e6, if_neg e7, if_neg e8, if_neg e9, if_neg e10, if_neg e11, if_neg e12, if_neg e13, if_neg e14, if_neg e15, if_neg e16, if_neg e17, if_neg e18, if_neg e19, if_neg e20, if_neg e21, if_pos e22, h]⟩
  by_cases e23 : xs i &&& (63 : Int32) = (23 : Int32)
  · obtain ⟨q', σ', J, h⟩ := br_wax (xs := xs) hL hi I
    exact ⟨q', σ', J, fun rec => by rw [st, if_neg e0, if_neg e1, if_neg e2, if_neg e3, if_neg e4, if_neg e5, if_neg e6, if_neg e7, if_neg e8, if_neg e9, if_neg e10, if_neg e11, if_neg e12, if_neg e13, if_neg e14, if_neg e15, if_neg e16, if_neg e17, if_neg e18, if_neg e19, if_neg e20, if_neg e21, if_neg e22, if_pos e23, h]⟩
  by_cases e24 : xs i &&& (63 : Int32) = (24 : Int32)
  · obtain ⟨q', σ', J, h⟩ := br_silent (xs := xs) hL hi I
    exact ⟨q', σ', J, fun rec => by rw [st, if_neg e0, if_neg e1, if_neg e2, if_neg e3, if_neg e4, if_neg e5, if_neg e6, if_neg e7, if_neg e8, if_neg e9, if_neg e10, if_neg e11, if_neg e12, if_neg e13, if_neg e14, if_neg e15, if_neg e16, if_neg e17, if_neg e18, if_neg e19, if_neg e20, if_neg e21, if_neg e22, if_neg e23, if_pos e24, h]⟩
  by_cases e25 : xs i &&& (63 : Int32) = (25 : Int32)
  · obtain ⟨q', σ', J, h⟩ := br_order (xs := xs) hL hi I
    exact ⟨q', σ', J, fun rec => by rw [st, if_neg e0, if_neg e1, if_neg e2, if_neg e3, if_neg e4, if_neg e5, if_neg e6, if_neg e7, if_neg e8, if_neg e9, if_neg e10, if_neg e11, if_neg e12, if_neg e13, if_neg e14, if_neg e15, if_neg e16, if_neg e17, if_neg e18, if_neg e19, if_neg e20, if_neg e21, if_neg e22, if_neg e23, if_neg e24, if_pos e25, h]⟩
  by_cases e26 : xs i &&& (63 : Int32) = (26 : Int32)
  · obtain ⟨q', σ', J, h⟩ := br_most (xs := xs) hL hi I
    exact ⟨q', σ', J, fun rec => by rw [st, if_neg e0, if_neg e1, if_neg e2, if_neg e3, if_neg e4, if_neg e5, if_neg e6, if_neg e7, if_neg e8, if_neg e9, if_neg e10, if_neg e11, if_neg e12, if_neg e13, if_neg e14, if_neg e15, if_neg e16, if_neg e17, if_neg e18, if_neg e19, if_neg e20, if_neg e21, if_neg e22, if_neg e23, if_neg e24, if_neg e25, if_pos e26, h]⟩
  by_cases e27 : xs i &&& (63 : Int32) = (27 : Int32)
  · obtain ⟨q', σ', J, h⟩ := br_owed (xs := xs) hL hi I
    exact ⟨q', σ', J, fun rec => by rw [st, if_neg e0, if_neg e1, if_neg e2, if_neg e3, if_neg e4, if_neg e5, if_neg e6, if_neg e7, if_neg e8, if_neg e9, if_neg e10, if_neg e11, if_neg e12, if_neg e13, if_neg e14, if_neg e15, if_neg e16, if_neg e17, if_neg e18, if_neg e19, if_neg e20, if_neg e21, if_neg e22, if_neg e23, if_neg e24, if_neg e25, if_neg e26, if_pos e27, h]⟩
  by_cases e28 : xs i &&& (63 : Int32) = (28 : Int32)
  · obtain ⟨q', σ', J, h⟩ := br_seed (xs := xs) hL hi I
    exact ⟨q', σ', J, fun rec => by rw [st, if_neg e0, if_neg e1, if_neg e2, if_neg e3, if_neg e4, if_neg e5, if_neg e6, if_neg e7, if_neg e8, if_neg e9, if_neg e10, if_neg e11, if_neg e12, if_neg e13, if_neg e14, if_neg e15, if_neg e16, if_neg e17, if_neg e18, if_neg e19, if_neg e20, if_neg e21, if_neg e22, if_neg e23, if_neg e24, if_neg e25, if_neg e26, if_neg e27, if_pos e28, h]⟩
  by_cases e29 : xs i &&& (63 : Int32) = (29 : Int32)
  · obtain ⟨q', σ', J, h⟩ := br_draw (xs := xs) hL hi I
    exact ⟨q', σ', J, fun rec => by rw [st, if_neg e0, if_neg e1, if_neg e2, if_neg e3, if_neg e4, if_neg e5, if_neg e6, if_neg e7, if_neg e8, if_neg e9, if_neg e10, if_neg e11, if_neg e12, if_neg e13, if_neg e14, if_neg e15, if_neg e16, if_neg e17, if_neg e18, if_neg e19, if_neg e20, if_neg e21, if_neg e22, if_neg e23, if_neg e24, if_neg e25, if_neg e26, if_neg e27, if_neg e28, if_pos e29, h]⟩
  by_cases e30 : xs i &&& (63 : Int32) = (30 : Int32)
  · obtain ⟨q', σ', J, h⟩ := br_prove (xs := xs) hL hi I
    exact ⟨q', σ', J, fun rec => by rw [st, if_neg e0, if_neg e1, if_neg e2, if_neg e3, if_neg e4, if_neg e5, if_neg e6, if_neg e7, if_neg e8, if_neg e9, if_neg e10, if_neg e11, if_neg e12, if_neg e13, if_neg e14, if_neg e15, if_neg e16, if_neg e17, if_neg e18, if_neg e19, if_neg e20, if_neg e21, if_neg e22, if_neg e23, if_neg e24, if_neg e25, if_neg e26, if_neg e27, if_neg e28, if_neg e29, if_pos e30, h]⟩
  by_cases e31 : xs i &&& (63 : Int32) = (31 : Int32)
  · obtain ⟨q', σ', J, h⟩ := br_row (xs := xs) hL hi I
    exact ⟨q', σ', J, fun rec => by rw [st, if_neg e0, if_neg e1, if_neg e2, if_neg e3, if_neg e4, if_neg e5, if_neg e6, if_neg e7, if_neg e8, if_neg e9, if_neg e10, if_neg e11, if_neg e12, if_neg e13, if_neg e14, if_neg e15, if_neg e16, if_neg e17, if_neg e18, if_neg e19, if_neg e20, if_neg e21, if_neg e22, if_neg e23, if_neg e24, if_neg e25, if_neg e26, if_neg e27, if_neg e28, if_neg e29, if_neg e30, if_pos e31, h]⟩
  by_cases e32 : xs i &&& (63 : Int32) = (32 : Int32)
  · obtain ⟨q', σ', J, h⟩ := br_alterRow (xs := xs) hL hi I
    exact ⟨q', σ', J, fun rec => by rw [st, if_neg e0, if_neg e1, if_neg e2, if_neg e3, if_neg e4, if_neg e5, if_neg e6, if_neg e7, if_neg e8, if_neg e9, if_neg e10, if_neg e11, if_neg e12, if_neg e13, if_neg e14, if_neg e15, if_neg e16, if_neg e17, if_neg e18, if_neg e19, if_neg e20, if_neg e21, if_neg e22, if_neg e23, if_neg e24, if_neg e25, if_neg e26, if_neg e27, if_neg e28, if_neg e29, if_neg e30, if_neg e31, if_pos e32, h]⟩
  by_cases e33 : xs i &&& (63 : Int32) = (33 : Int32)
  · obtain ⟨q', σ', J, h⟩ := br_judge (xs := xs) hL hi I
    exact ⟨q', σ', J, fun rec => by rw [st, if_neg e0, if_neg e1, if_neg e2, if_neg e3, if_neg e4, if_neg e5, if_neg e6, if_neg e7, if_neg e8, if_neg e9, if_neg e10, if_neg e11, if_neg e12, if_neg e13, if_neg e14, if_neg e15, if_neg e16, if_neg e17, if_neg e18, if_neg e19, if_neg e20, if_neg e21, if_neg e22, if_neg e23, if_neg e24, if_neg e25, if_neg e26, if_neg e27, if_neg e28, if_neg e29, if_neg e30, if_neg e31, if_neg e32, if_pos e33, h]⟩
  by_cases e34 : xs i &&& (63 : Int32) = (34 : Int32)
  · obtain ⟨q', σ', J, h⟩ := br_draughts (xs := xs) hL hi I
    exact ⟨q', σ', J, fun rec => by rw [st, if_neg e0, if_neg e1, if_neg e2, if_neg e3, if_neg e4, if_neg e5, if_neg e6, if_neg e7, if_neg e8, if_neg e9, if_neg e10, if_neg e11, if_neg e12, if_neg e13, if_neg e14, if_neg e15, if_neg e16, if_neg e17, if_neg e18, if_neg e19, if_neg e20, if_neg e21, if_neg e22, if_neg e23, if_neg e24, if_neg e25, if_neg e26, if_neg e27, if_neg e28, if_neg e29, if_neg e30, if_neg e31, if_neg e32, if_neg e33, if_pos e34, h]⟩
  by_cases e35 : xs i &&& (63 : Int32) = (35 : Int32)
  · obtain ⟨q', σ', J, h⟩ := br_sheet (xs := xs) hL hi I
    exact ⟨q', σ', J, fun rec => by rw [st, if_neg e0, if_neg e1, if_neg e2, if_neg e3, if_neg e4, if_neg e5, if_neg e6, if_neg e7, if_neg e8, if_neg e9, if_neg e10, if_neg e11, if_neg e12, if_neg e13, if_neg e14, if_neg e15, if_neg e16, if_neg e17, if_neg e18, if_neg e19, if_neg e20, if_neg e21, if_neg e22, if_neg e23, if_neg e24, if_neg e25, if_neg e26, if_neg e27, if_neg e28, if_neg e29, if_neg e30, if_neg e31, if_neg e32, if_neg e33, if_neg e34, if_pos e35, h]⟩
  by_cases e36 : xs i &&& (63 : Int32) = (36 : Int32)
  · obtain ⟨q', σ', J, h⟩ := br_put (xs := xs) hL hi I
    exact ⟨q', σ', J, fun rec => by rw [st, if_neg e0, if_neg e1, if_neg e2, if_neg e3, if_neg e4, if_neg e5, if_neg e6, if_neg e7, if_neg e8, if_neg e9, if_neg e10, if_neg e11, if_neg e12, if_neg e13, if_neg e14, if_neg e15, if_neg e16, if_neg e17, if_neg e18, if_neg e19, if_neg e20, if_neg e21, if_neg e22, if_neg e23, if_neg e24, if_neg e25, if_neg e26, if_neg e27, if_neg e28, if_neg e29, if_neg e30, if_neg e31, if_neg e32, if_neg e33, if_neg e34, if_neg e35, if_pos e36, h]⟩
  by_cases e37 : xs i &&& (63 : Int32) = (37 : Int32)
  · obtain ⟨q', σ', J, h⟩ := br_item (xs := xs) hL hi I
    exact ⟨q', σ', J, fun rec => by rw [st, if_neg e0, if_neg e1, if_neg e2, if_neg e3, if_neg e4, if_neg e5, if_neg e6, if_neg e7, if_neg e8, if_neg e9, if_neg e10, if_neg e11, if_neg e12, if_neg e13, if_neg e14, if_neg e15, if_neg e16, if_neg e17, if_neg e18, if_neg e19, if_neg e20, if_neg e21, if_neg e22, if_neg e23, if_neg e24, if_neg e25, if_neg e26, if_neg e27, if_neg e28, if_neg e29, if_neg e30, if_neg e31, if_neg e32, if_neg e33, if_neg e34, if_neg e35, if_neg e36, if_pos e37, h]⟩
  by_cases e38 : xs i &&& (63 : Int32) = (38 : Int32)
  · obtain ⟨q', σ', J, h⟩ := br_shelf (xs := xs) hL hi I
    exact ⟨q', σ', J, fun rec => by rw [st, if_neg e0, if_neg e1, if_neg e2, if_neg e3, if_neg e4, if_neg e5, if_neg e6, if_neg e7, if_neg e8, if_neg e9, if_neg e10, if_neg e11, if_neg e12, if_neg e13, if_neg e14, if_neg e15, if_neg e16, if_neg e17, if_neg e18, if_neg e19, if_neg e20, if_neg e21, if_neg e22, if_neg e23, if_neg e24, if_neg e25, if_neg e26, if_neg e27, if_neg e28, if_neg e29, if_neg e30, if_neg e31, if_neg e32, if_neg e33, if_neg e34, if_neg e35, if_neg e36, if_neg e37, if_pos e38, h]⟩
  by_cases e39 : xs i &&& (63 : Int32) = (39 : Int32)
  · obtain ⟨q', σ', J, h⟩ := br_taken (xs := xs) hL hi I
    exact ⟨q', σ', J, fun rec => by rw [st, if_neg e0, if_neg e1, if_neg e2, if_neg e3, if_neg e4, if_neg e5, if_neg e6, if_neg e7, if_neg e8, if_neg e9, if_neg e10, if_neg e11, if_neg e12, if_neg e13, if_neg e14, if_neg e15, if_neg e16, if_neg e17, if_neg e18, if_neg e19, if_neg e20, if_neg e21, if_neg e22, if_neg e23, if_neg e24, if_neg e25, if_neg e26, if_neg e27, if_neg e28, if_neg e29, if_neg e30, if_neg e31, if_neg e32, if_neg e33, if_neg e34, if_neg e35, if_neg e36, if_neg e37, if_neg e38, if_pos e39, h]⟩
  by_cases e40 : xs i &&& (63 : Int32) = (40 : Int32)
  · obtain ⟨q', σ', J, h⟩ := br_act (xs := xs) hL hi I
    exact ⟨q', σ', J, fun rec => by rw [st, if_neg e0, if_neg e1, if_neg e2, if_neg e3, if_neg e4, if_neg e5, if_neg e6, if_neg e7, if_neg e8, if_neg e9, if_neg e10, if_neg e11, if_neg e12, if_neg e13, if_neg e14, if_neg e15, if_neg e16, if_neg e17, if_neg e18, if_neg e19, if_neg e20, if_neg e21, if_neg e22, if_neg e23, if_neg e24, if_neg e25, if_neg e26, if_neg e27, if_neg e28, if_neg e29, if_neg e30, if_neg e31, if_neg e32, if_neg e33, if_neg e34, if_neg e35, if_neg e36, if_neg e37, if_neg e38, if_neg e39, if_pos e40, h]⟩
  by_cases e41 : xs i &&& (63 : Int32) = (41 : Int32)
  · obtain ⟨q', σ', J, h⟩ := br_trace (xs := xs) hL hi I
    exact ⟨q', σ', J, fun rec => by rw [st, if_neg e0, if_neg e1, if_neg e2, if_neg e3, if_neg e4, if_neg e5, if_neg e6, if_neg e7, if_neg e8, if_neg e9, if_neg e10, if_neg e11, if_neg e12, if_neg e13, if_neg e14, if_neg e15, if_neg e16, if_neg e17, if_neg e18, if_neg e19, if_neg e20, if_neg e21, if_neg e22, if_neg e23, if_neg e24, if_neg e25, if_neg e26, if_neg e27, if_neg e28, if_neg e29, if_neg e30, if_neg e31, if_neg e32, if_neg e33, if_neg e34, if_neg e35, if_neg e36, if_neg e37, if_neg e38, if_neg e39, if_neg e40, if_pos e41, h]⟩
  by_cases e42 : xs i &&& (63 : Int32) = (42 : Int32)
  · obtain ⟨q', σ', J, h⟩ := br_many (xs := xs) hL hi I
    exact ⟨q', σ', J, fun rec => by rw [st, if_neg e0, if_neg e1, if_neg e2, if_neg e3, if_neg e4, if_neg e5, if_neg e6, if_neg e7, if_neg e8, if_neg e9, if_neg e10, if_neg e11, if_neg e12, if_neg e13, if_neg e14, if_neg e15, if_neg e16, if_neg e17, if_neg e18, if_neg e19, if_neg e20, if_neg e21, if_neg e22, if_neg e23, if_neg e24, if_neg e25, if_neg e26, if_neg e27, if_neg e28, if_neg e29, if_neg e30, if_neg e31, if_neg e32, if_neg e33, if_neg e34, if_neg e35, if_neg e36, if_neg e37, if_neg e38, if_neg e39, if_neg e40, if_neg e41, if_pos e42, h]⟩
  by_cases e43 : xs i &&& (63 : Int32) = (43 : Int32)
  · obtain ⟨q', σ', J, h⟩ := br_keep (xs := xs) hL hi I
    exact ⟨q', σ', J, fun rec => by rw [st, if_neg e0, if_neg e1, if_neg e2, if_neg e3, if_neg e4, if_neg e5, if_neg e6, if_neg e7, if_neg e8, if_neg e9, if_neg e10, if_neg e11, if_neg e12, if_neg e13, if_neg e14, if_neg e15, if_neg e16, if_neg e17, if_neg e18, if_neg e19, if_neg e20, if_neg e21, if_neg e22, if_neg e23, if_neg e24, if_neg e25, if_neg e26, if_neg e27, if_neg e28, if_neg e29, if_neg e30, if_neg e31, if_neg e32, if_neg e33, if_neg e34, if_neg e35, if_neg e36, if_neg e37, if_neg e38, if_neg e39, if_neg e40, if_neg e41, if_neg e42, if_pos e43, h]⟩
  by_cases e44 : xs i &&& (63 : Int32) = (44 : Int32)
  · obtain ⟨q', σ', J, h⟩ := br_again (xs := xs) hL hi I
    exact ⟨q', σ', J, fun rec => by rw [st, if_neg e0, if_neg e1, if_neg e2, if_neg e3, if_neg e4, if_neg e5, if_neg e6, if_neg e7, if_neg e8, if_neg e9, if_neg e10, if_neg e11, if_neg e12, if_neg e13, if_neg e14, if_neg e15, if_neg e16, if_neg e17, if_neg e18, if_neg e19, if_neg e20, if_neg e21, if_neg e22, if_neg e23, if_neg e24, if_neg e25, if_neg e26, if_neg e27, if_neg e28, if_neg e29, if_neg e30, if_neg e31, if_neg e32, if_neg e33, if_neg e34, if_neg e35, if_neg e36, if_neg e37, if_neg e38, if_neg e39, if_neg e40, if_neg e41, if_neg e42, if_neg e43, if_pos e44, h]⟩
  exact ⟨q, σ, I, fun rec => by rw [st, if_neg e0, if_neg e1, if_neg e2, if_neg e3, if_neg e4, if_neg e5, if_neg e6, if_neg e7, if_neg e8, if_neg e9, if_neg e10, if_neg e11, if_neg e12, if_neg e13, if_neg e14, if_neg e15, if_neg e16, if_neg e17, if_neg e18, if_neg e19, if_neg e20, if_neg e21, if_neg e22, if_neg e23, if_neg e24, if_neg e25, if_neg e26, if_neg e27, if_neg e28, if_neg e29, if_neg e30, if_neg e31, if_neg e32, if_neg e33, if_neg e34, if_neg e35, if_neg e36, if_neg e37, if_neg e38, if_neg e39, if_neg e40, if_neg e41, if_neg e42, if_neg e43, if_neg e44, nI_lit 5, nI_addE]⟩
theorem law_loop (hL : L ≤ 320) : ∀ (n i : Nat) (q : HQ) (σ : Mem), L + 1 ≤ i + 5 * n → i ≤ 1000 → Inv q σ → ∃ σr, iterF (F_L_law_18 L xs 0 94) (fun _ _ => none) (n + 1) (nI i) σ = some ((1 : Int32), σr) := by
  have done : ∀ (i : Nat) (σ : Mem) rec, L < i + 5 → i ≤ 1000 → F_L_law_18 L xs 0 94 rec (nI i) σ = some ((1 : Int32), σ) := fun i σ rec h hi => by
    have g : ((Int32.ofNat L) - (5 : Int32) < nI i) := by
      show (nI L - nI 5 < nI i)
      rw [Int32.lt_iff_toInt_lt, nI_subI (by omega) (by omega), nI_toInt (by omega : i < 2 ^ 31)]
      omega
    unfold F_L_law_18
    rw [if_pos g]
  intro n
  induction n with
  | zero =>
    intro i q σ h hi I
    exact ⟨σ, done i σ _ (by omega) hi⟩
  | succ n ih =>
    intro i q σ h hi I
    by_cases e : i + 5 ≤ L
    · obtain ⟨q', σ', J, st⟩ := law_step (xs := xs) hL e I
      obtain ⟨σr, r⟩ := ih (i + 5) q' σ' (by omega) (by omega) J
      exact ⟨σr, (st _).trans r⟩
    · exact ⟨σ, done i σ _ (by omega) hi⟩
end
def q0 : HQ := (fun f _ => if f = 12 then 5 else if f = 13 then 9 else if f = 17 then 9 else 0, 1)
theorem q0_ok : q0.Ok := by
  refine ⟨⟨by decide, fun i hi => absurd hi (Nat.not_lt_zero i)⟩, ⟨by decide, fun i hi => absurd hi (Nat.not_lt_zero i)⟩, fun p _ => Nat.zero_le 3, by decide, .inr rfl, by decide, fun h => absurd h (by decide), by decide, .inr ⟨rfl, rfl⟩, fun _ => ⟨rfl, rfl, rfl, rfl⟩⟩
theorem start_C : CH 1 q0 sig0 := by
  refine ⟨⟨by decide +kernel, by decide +kernel, by decide +kernel, by decide +kernel, by decide +kernel, fun h => absurd rfl h⟩, ?_, ⟨fun i hi => absurd hi (Nat.not_lt_zero i), ?_⟩, fun i hi => absurd hi (Nat.not_lt_zero i)⟩
  · have : ∀ p, p < 12 → gI sig0 (1 + 3) p = nI 0 := by decide +kernel
    exact this
  · decide +kernel
theorem start_M : MH 0 q0 sig0 := by
  refine ⟨⟨by decide +kernel, by decide +kernel, by decide +kernel, by decide +kernel⟩, ⟨by decide +kernel, by decide +kernel, by decide +kernel, by decide +kernel, by decide +kernel, fun i hi => absurd hi (Nat.not_lt_zero i)⟩, ?_, fun i hi => absurd hi (Nat.not_lt_zero i), fun i hi => absurd hi (Nat.not_lt_zero i)⟩
  have : ∀ p, p < 12 → gI sig0 100 p = nI 0 := by decide +kernel
  exact this
theorem start_R : R1 sig0 := by
  refine ⟨⟨0, Nat.zero_le _, by decide +kernel, by decide +kernel, fun i hi => absurd hi (Nat.not_lt_zero i)⟩, ⟨0, Nat.zero_le _, by decide +kernel, by decide +kernel, fun i hi => absurd hi (Nat.not_lt_zero i)⟩, ⟨0, Nat.zero_le _, by decide +kernel, by decide +kernel, fun i hi => absurd hi (Nat.not_lt_zero i)⟩, fun s hs => ⟨.inl ?_, ⟨0, Nat.zero_le _, ?_⟩, fun i hi => ?_⟩, fun s hs => .inl ?_, .inl ⟨by decide +kernel, by decide +kernel⟩, ?_, ⟨(0, fun _ => 0), Nat.zero_le _, by decide +kernel, fun i hi => absurd hi (Nat.not_lt_zero i)⟩⟩
  · have : ∀ s, s < 4 → gI sig0 (82 + 2 * s) 1 = -1 ∧ gI sig0 118 s = -1 := by decide +kernel
    exact this s hs
  · have : ∀ s, s < 4 → gI sig0 (82 + 2 * s) 2 = nI 0 ∧ gI sig0 119 s = nI 0 := by decide +kernel
    exact this s hs
  · have : ∀ s, s < 4 → ∀ i, i < 40 → gI sig0 (83 + 2 * s) i = 0 := by decide +kernel
    rw [this s hs i hi]
    rfl
  · have : ∀ s, s < 4 → gI sig0 (90 + s) 0 = -9 ∧ gI sig0 (90 + s) 1 = -1 ∧ gI sig0 121 s = -1 := by decide +kernel
    exact this s hs
  · have : (∀ i, i < 5 → gI sig0 (35 + i) 2 = 0 ∨ gI sig0 (35 + i) 2 = 1) ∧ gI sig0 73 0 = 0 := by decide +kernel
    exact this
theorem start_I : Inv q0 sig0 := ⟨q0_ok, start_C, start_M, ⟨by decide +kernel, by decide +kernel⟩, start_R⟩
theorem law_all (L : Nat) (hL : L ≤ 320) (xs : Nat → Int32) : ∃ σr, iterF (F_L_law_18 L xs 0 94) (fun _ _ => none) FU 0 sig0 = some ((1 : Int32), σr) :=
  law_loop hL 999 0 q0 sig0 (by omega) (by omega) start_I
