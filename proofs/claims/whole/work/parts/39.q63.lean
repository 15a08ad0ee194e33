/-! the tape is fed -/
def wF (e : Int64) (i : Nat) : Int64 := e >>> (((8 : Int32) * nI i).toInt64 &&& 63)
section
variable {q : HQ} {σ σ' : Mem} {h o b v l s : Nat}
theorem byte_t (x : Int32) : ∃ t, t < 256 ∧ x &&& 255 = nI t ∧ vp_nar .byte x.toInt8.toInt32 = bI t := by
  refine ⟨x.toBitVec.toNat % 256, Nat.mod_lt _ (by omega), ?_, ?_⟩
  · apply Int32.toBitVec_inj.mp
    apply BitVec.eq_of_toNat_eq
    rw [Int32.toBitVec_and, BitVec.toNat_and]
    have h1 : (255 : Int32).toBitVec.toNat = 2 ^ 8 - 1 := by decide
    rw [h1, Nat.and_two_pow_sub_one_eq_mod]
    show x.toBitVec.toNat % 256 = (BitVec.ofNat 32 (x.toBitVec.toNat % 256)).toNat
    rw [BitVec.toNat_ofNat]
    omega
  · have e0 : vp_nar .byte x.toInt8.toInt32 = x.toInt8.toInt32.toInt8.toInt32 := rfl
    rw [e0, Int8.toInt8_toInt32]
    apply Int32.toInt_inj.mp
    rw [Int8.toInt_toInt32, Int32.toInt_toInt8, ← Int32.toInt_toBitVec, BitVec.toInt_eq_toNat_bmod, Int.bmod_bmod_of_dvd (by decide)]
    have hm := Nat.mod_lt x.toBitVec.toNat (by omega : 0 < 256)
    generalize x.toBitVec.toNat = n at hm ⊢
    have eb : ∀ m : Int, m.bmod (2 ^ 8) = if m % 256 < 128 then m % 256 else m % 256 - 256 := fun m => rfl
    rw [eb]
    unfold bI
    by_cases g : n % 256 < 128
    · rw [if_pos g, nI_toInt (by omega), if_pos (by omega)]
      omega
    · rw [if_neg g, nI_negI (by omega), if_neg (by omega)]
      omega
theorem cl_feed {e : Int64} {n sz : Nat} (hn : n ≤ 8) (hz : sz + n ≤ 200) : ∀ (d i : Nat) (σ1 : Mem) (fuel : Nat), i + d = n → d < fuel → gI σ 46 1 = nI sz → Fr (fun k j => k = 47 ∧ sz ≤ j) σ σ1 → (∀ j, j < i → gI σ1 47 (sz + j) = vp_nar .byte (wF e j).toInt32.toInt8.toInt32) → ∃ σ2, iterF (F_X7_takes_18 46 e (nI n)) (fun _ _ => none) fuel (nI i) σ1 = some (nI (sz + n), pI σ2 46 1 (nI (sz + n))) ∧ Fr (fun k j => k = 47 ∧ sz ≤ j) σ σ2 ∧ (∀ j, j < n → gI σ2 47 (sz + j) = vp_nar .byte (wF e j).toInt32.toInt8.toInt32) := by
  intro d
  induction d with
  | zero =>
    intro i σ1 fuel hi hf e1 F E
    obtain ⟨f, rfl⟩ : ∃ f, fuel = f + 1 := ⟨fuel - 1, by omega⟩
    have : i = n := by omega
    subst this
    have y : gI σ1 46 1 = nI sz := (F.1 _ _ (by omega)).trans e1
    refine ⟨σ1, ?_, F, E⟩
    show F_X7_takes_18 46 e (nI i) _ _ _ = _
    unfold F_X7_takes_18
    rw [if_pos (by rw [nI_leE (by omega) (by omega)]; omega), y, nI_addE, bd1_s, gI_eq _ _ ⟨rfl, rfl⟩]
  | succ d ih =>
    intro i σ1 fuel hi hf e1 F E
    obtain ⟨f, rfl⟩ : ∃ f, fuel = f + 1 := ⟨fuel - 1, by omega⟩
    have y : gI σ1 46 1 = nI sz := (F.1 _ _ (by omega)).trans e1
    have i1 : ixo 47 (nI (sz + i)) = some (sz + i) := ixo_47 (by omega)
    obtain ⟨σ2, r⟩ := ih (i + 1) (pI σ1 47 (sz + i) (vp_nar .byte (wF e i).toInt32.toInt8.toInt32)) f (by omega) (by omega) e1 (Fr_pI _ F ⟨rfl, by omega⟩) (fun j hj => by
      by_cases g : j = i
      · rw [g]; exact gI_eq _ _ ⟨rfl, rfl⟩
      · rw [gI_ne _ _ (by omega)]; exact E j (by omega))
    refine ⟨σ2, Eq.trans ?_ r.1, r.2⟩
    show F_X7_takes_18 46 e (nI n) _ _ _ = _
    generalize iterF (F_X7_takes_18 46 e (nI n)) (fun _ _ => none) f = R
    unfold F_X7_takes_18
    rw [if_neg (by rw [nI_leE (by omega) (by omega)]; omega), y, nI_addE]
    simp only [Nat.reduceAdd, i1, bd1_s]
    rw [nI_lit 1, nI_addE]
    rfl
theorem md_feed {e : Int64} {n sz : Nat} (hn : n ≤ 8) (hz : sz + n ≤ 200) : ∀ (d i : Nat) (σ1 : Mem) (fuel : Nat), i + d = n → d < fuel → gI σ1 94 16 = nI (sz + i) → Fr (fun k j => (k = 105 ∧ sz ≤ j) ∨ (k = 94 ∧ j = 16)) σ σ1 → (∀ j, j < i → gI σ1 105 (sz + j) = (wF e j).toInt32 &&& 255) → ∃ σ2, iterF (F_X10_feed_30 94 e (nI n)) (fun _ _ => none) fuel (nI i) σ1 = some (nI (sz + n), σ2) ∧ gI σ2 94 16 = nI (sz + n) ∧ Fr (fun k j => (k = 105 ∧ sz ≤ j) ∨ (k = 94 ∧ j = 16)) σ σ2 ∧ (∀ j, j < n → gI σ2 105 (sz + j) = (wF e j).toInt32 &&& 255) := by
  intro d
  induction d with
  | zero =>
    intro i σ1 fuel hi hf e1 F E
    obtain ⟨f, rfl⟩ : ∃ f, fuel = f + 1 := ⟨fuel - 1, by omega⟩
    have : i = n := by omega
    subst this
    refine ⟨σ1, ?_, e1, F, E⟩
    show F_X10_feed_30 94 e (nI i) _ _ _ = _
    unfold F_X10_feed_30
    rw [if_pos (by rw [nI_leE (by omega) (by omega)]; omega), e1]
  | succ d ih =>
    intro i σ1 fuel hi hf e1 F E
    obtain ⟨f, rfl⟩ : ∃ f, fuel = f + 1 := ⟨fuel - 1, by omega⟩
    have i1 : ixo 105 (nI (sz + i)) = some (sz + i) := ixo_105 (by omega)
    obtain ⟨σ2, r⟩ := ih (i + 1) (pI (pI σ1 105 (sz + i) ((wF e i).toInt32 &&& 255)) 94 16 (nI (sz + (i + 1)))) f (by omega) (by omega) (gI_eq _ _ ⟨rfl, rfl⟩) (Fr_pI _ (Fr_pI _ F (.inl ⟨rfl, by omega⟩)) (.inr ⟨rfl, rfl⟩)) (fun j hj => by
      rw [gI_ne _ _ (by omega)]
      by_cases g : j = i
      · rw [g]; exact gI_eq _ _ ⟨rfl, rfl⟩
      · rw [gI_ne _ _ (by omega)]; exact E j (by omega))
    refine ⟨σ2, Eq.trans ?_ r.1, r.2⟩
    show F_X10_feed_30 94 e (nI n) _ _ _ = _
    generalize iterF (F_X10_feed_30 94 e (nI n)) (fun _ _ => none) f = R
    have w : ((wF e i) &&& (255 : Int64)).toInt32 = (wF e i).toInt32 &&& 255 := by
      rw [Int64.toInt32_and]
      rfl
    unfold F_X10_feed_30
    rw [if_neg (by rw [nI_leE (by omega) (by omega)]; omega), e1]
    have w' : (e >>> (((8 : Int32) * nI i).toInt64 &&& 63) &&& (255 : Int64)).toInt32 = (wF e i).toInt32 &&& 255 := w
    rw [w']
    have z : gI (pI σ1 105 (sz + i) ((wF e i).toInt32 &&& 255)) 94 16 = nI (sz + i) := (gI_ne _ _ (by omega)).trans e1
    simp only [Nat.reduceAdd, i1, bd1_s, z]
    rw [nI_lit 1, nI_addE, nI_addE, Nat.add_assoc]
theorem op_feed (I : Inv q σ) (e : Int64) (a3 : Int32) : OpOk (f_X9_feed 0 e a3) (f_X10_feed 94 e a3) σ := by
  rcases (arg a3 1 8 (by omega) (by omega)).symm with b | ⟨n, hn1, hn, rfl⟩
  · refine ⟨-1, σ, σ, q, ?_, ?_, I⟩
    · simp only [f_X9_feed, nI_lit, within_no _ b, bd2_s, if_true]
    · simp only [f_X10_feed, nI_lit, in_eq, within_no _ b, bd2_s, if_true]
  have wn := within_ok (n := n) (lo := 1) (hi := 8) σ hn1 hn (by decide)
  obtain ⟨x1, x2, x3, x4, x5, x6, x7, x8⟩ := I.2.2.2.2
  obtain ⟨sz, hz, s1, s2, s3⟩ := id x1
  by_cases g : sz + n ≤ 200
  case neg =>
    have z : (nI (sz + n) ≤ nI 200) = False := by rw [nI_leE (by omega) (by omega)]; exact eq_false g
    refine ⟨-nI 2, σ, σ, q, ?_, ?_, I⟩
    · have T : f_X7_takes 46 e (nI n) σ = some (-nI 2, σ) := by
        unfold f_X7_takes
        rw [s1, nI_addE, if_neg (by rw [nI_lit 200, z]; exact id)]
        rfl
      simp only [f_X9_feed, nI_lit, wn, bd2_s, nI10, if_false, Nat.reduceAdd, T]
    · unfold f_X10_feed
      rw [nI_lit 1, nI_lit 8, in_eq, wn, bd2_s, if_neg (by rw [nI_lit 0, nI10]; exact id), s2, nI_addE, if_neg (by rw [nI_lit 200, z]; exact id)]
      rfl
  have z : (nI (sz + n) ≤ nI 200) = True := by rw [nI_leE (by omega) (by omega)]; exact eq_true g
  obtain ⟨σ1, c1, c2, c3⟩ := cl_feed (σ := σ) (e := e) hn g n 0 σ FU (by omega) (FU_lt (by omega)) s1 (Fr_rfl _ _) (fun j hj => absurd hj (Nat.not_lt_zero j))
  obtain ⟨τ, eτ⟩ : ∃ τ, τ = pI σ1 46 1 (nI (sz + n)) := ⟨_, rfl⟩
  rw [← eτ] at c1
  have fτ : ∀ k i, ¬ (k = 47 ∧ sz ≤ i) → ¬ (k = 46 ∧ i = 1) → gI τ k i = gI σ k i := fun k i h1 h2 => by rw [eτ, gI_ne _ _ h2]; exact c2.1 k i h1
  have lτ : τ.2 = σ.2 := by rw [eτ]; exact c2.2
  obtain ⟨σ2, d1, d2, d3, d4⟩ := md_feed (σ := τ) (e := e) hn g n 0 τ FU (by omega) (FU_lt (by omega)) ((fτ _ _ (by omega) (by omega)).trans s2) (Fr_rfl _ _) (fun j hj => absurd hj (Nat.not_lt_zero j))
  have F : ∀ k i, ¬ (k = 47 ∧ sz ≤ i) → ¬ (k = 46 ∧ i = 1) → ¬ (k = 105 ∧ sz ≤ i) → ¬ (k = 94 ∧ i = 16) → gI σ2 k i = gI σ k i := fun k i h1 h2 h3 h4 => (d3.1 k i (by omega)).trans (fτ k i h1 h2)
  refine ⟨nI (sz + n), τ, σ2, q, ?_, ?_, inv_fr I (fun k i c => F k i (by omega) (by omega) (by omega) (by omega)) ⟨⟨sz + n, g, ?_, d2, fun j hj => ?_⟩, RR_fr x2 fun k i c => F k i (by omega) (by omega) (by omega) (by omega), RD_fr x3 fun k i c => F k i (by omega) (by omega) (by omega) (by omega), RS_fr x4 (fun k i c => F k i (by omega) (by omega) (by omega) (by omega)) (d3.2.trans lτ), RH_fr x5 fun k i c => F k i (by omega) (by omega) (by omega) (by omega), RK_fr x6 fun k i c => F k i (by omega) (by omega) (by omega) (by omega), RF_fr x7 fun k i c => F k i (by omega) (by omega) (by omega) (by omega), RG_fr x8 fun k i c => F k i (by omega) (by omega) (by omega) (by omega)⟩⟩
  · have T : f_X7_takes 46 e (nI n) σ = some (nI (sz + n), τ) := by
      unfold f_X7_takes
      rw [s1, nI_addE, if_pos (by rw [nI_lit 200, z]; trivial)]
      exact c1
    simp only [f_X9_feed, nI_lit, wn, bd2_s, nI10, if_false, Nat.reduceAdd, T]
  · have wn2 := within_ok (n := n) (lo := 1) (hi := 8) τ hn1 hn (by decide)
    have s2' : gI τ 94 16 = nI sz := (fτ _ _ (by omega) (by omega)).trans s2
    unfold f_X10_feed
    rw [nI_lit 1, nI_lit 8, in_eq, wn2, bd2_s, if_neg (by rw [nI_lit 0, nI10]; exact id), s2', nI_addE, if_pos (by rw [nI_lit 200, z]; trivial)]
    exact d1
  · rw [d3.1 _ _ (by omega), eτ]; exact gI_eq _ _ ⟨rfl, rfl⟩
  · by_cases j0 : j < sz
    · rw [F _ _ (by omega) (by omega) (by omega) (by omega), F _ _ (by omega) (by omega) (by omega) (by omega)]
      exact s3 j j0
    · obtain ⟨k, rfl⟩ : ∃ k, j = sz + k := ⟨j - sz, by omega⟩
      obtain ⟨t, t1, t2, t3⟩ := byte_t (wF e k).toInt32
      refine ⟨t, t1, ?_, ?_⟩
      · rw [d4 k (by omega)]; exact t2
      · rw [d3.1 _ _ (by omega), eτ, gI_ne _ _ (by omega), c3 k (by omega)]; exact t3
end
