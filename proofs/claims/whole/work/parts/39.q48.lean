/-! a hall copied -/
def Cp (h' h : Nat) (σ σ' : Mem) : Prop := (gI σ' h' 1 = gI σ h 1 ∧ gI σ' h' 3 = gI σ h 3 ∧ gI σ' h' 5 = gI σ h 5 ∧ gI σ' h' 6 = gI σ h 6 ∧ gI σ' h' 7 = gI σ h 7 ∧ gI σ' h' 8 = gI σ h 8 ∧ gI σ' h' 9 = gI σ h 9 ∧ gI σ' h' 10 = gI σ h 10 ∧ gI σ' h' 11 = gI σ h 11) ∧ (∀ p, p < 12 → gI σ' (h' + 3) p = gI σ (h + 3) p) ∧ (∀ i, i < 5 → ∀ s, s < 5 → gI σ' (h' + 4 + i) s = gI σ (h + 4 + i) s) ∧ (∀ b, b < 6 → ∀ s, s < 4 → gI σ' (h' + 9 + b) s = gI σ (h + 9 + b) s)
section
variable {q : HQ} {σ : Mem} {h h' o b v : Nat}
theorem Cp_CH {σ' : Mem} (ok : q.Okl) (ob : q.Okb) (c : Cp h' h σ σ') (C : CH h q σ) : CH h' q σ' := by
  obtain ⟨⟨e1, e3, e5, e6, e7, e8, e9, e10, e11⟩, ed, el, eb⟩ := c
  obtain ⟨⟨c1, c3, c5, c6, c7, c8⟩, cd, cl, cb⟩ := C
  have hn := ok.1
  have hm := ob.1
  refine ⟨⟨by rw [e1]; exact c1, by rw [e3]; exact c3, by rw [e5]; exact c5, by rw [e6]; exact c6, by rw [e7]; exact c7, fun n => ?_⟩, fun p hp => ?_, ⟨fun i hi => ?_, fun i hi => ?_⟩, fun i hi => ?_⟩
  · rw [e8, e9, e10, e11]; exact c8 n
  · rw [ed p hp]; exact cd p hp
  · rw [el i (by omega) 0 (by omega), el i (by omega) 1 (by omega), el i (by omega) 2 (by omega), el i (by omega) 3 (by omega), el i (by omega) 4 (by omega)]
    exact cl.1 i hi
  · rw [el i hi 2 (by omega)]
    exact cl.2 i hi
  · rw [eb i (by omega) 0 (by omega), eb i (by omega) 1 (by omega), eb i (by omega) 2 (by omega), eb i (by omega) 3 (by omega)]
    exact cb i hi
theorem copy_lots (hh : h = 1 ∨ h = 16 ∨ h = 31 ∨ h = 49) (hh' : h' = 1 ∨ h' = 16 ∨ h' = 31 ∨ h' = 49) (ne : h ≠ h') (fl : ∀ i, i < 5 → gI σ (h + 4 + i) 2 = 0 ∨ gI σ (h + 4 + i) 2 = 1) : ∀ (d i : Nat) (σ1 : Mem) (fuel : Nat), i + d = 5 → d < fuel → Fr (FH h') σ σ1 → (∀ j, j < i → ∀ s, s < 5 → gI σ1 (h' + 4 + j) s = gI σ (h + 4 + j) s) → gI σ1 h' 1 = gI σ h 1 →
    ∃ σ2 rec, Fr (FH h') σ σ2 ∧ (∀ j, j < 5 → ∀ s, s < 5 → gI σ2 (h' + 4 + j) s = gI σ (h + 4 + j) s) ∧ gI σ2 h' 1 = gI σ h 1 ∧ iterF (F_X2_copy_10 h' h) (fun _ _ => none) fuel (nI i) σ1 = F_X2_copy_10 h' h rec (nI 5) σ2 := by
  intro d
  induction d with
  | zero =>
    intro i σ1 fuel hi hf F E e1
    obtain ⟨f, rfl⟩ : ∃ f, fuel = f + 1 := ⟨fuel - 1, by omega⟩
    have : i = 5 := by omega
    subst this
    exact ⟨σ1, _, F, E, e1, rfl⟩
  | succ d ih =>
    intro i σ1 fuel hi hf F E e1
    obtain ⟨f, rfl⟩ : ∃ f, fuel = f + 1 := ⟨fuel - 1, by omega⟩
    have rd : ∀ s, gI σ1 (h + 4 + i) s = gI σ (h + 4 + i) s := fun s => F.1 _ _ (by unfold FH; omega)
    have fl2 := fl i (by omega)
    obtain ⟨σ2, rec, r1, r2, r3, r4⟩ := ih (i + 1) (pI (pI (pI (pI (pI σ1 (h' + 4 + i) 0 (gI σ (h + 4 + i) 0)) (h' + 4 + i) 1 (gI σ (h + 4 + i) 1)) (h' + 4 + i) 2 (gI σ (h + 4 + i) 2)) (h' + 4 + i) 3 (gI σ (h + 4 + i) 3)) (h' + 4 + i) 4 (gI σ (h + 4 + i) 4)) f (by omega) (by omega)
      (Fr_pI _ (Fr_pI _ (Fr_pI _ (Fr_pI _ (Fr_pI _ F (by unfold FH; omega)) (by unfold FH; omega)) (by unfold FH; omega)) (by unfold FH; omega)) (by unfold FH; omega))
      (fun j hj s hs => by
        by_cases e : j = i
        · have : s = 0 ∨ s = 1 ∨ s = 2 ∨ s = 3 ∨ s = 4 := by omega
          rcases this with g | g | g | g | g <;> subst g <;> simp (disch := omega) only [gI_eq, gI_ne, gL_pI, gI_pL, e]
        · simp (disch := omega) only [gI_eq, gI_ne, gL_pI, gI_pL]
          exact E j (by omega) s hs)
      (by simp (disch := omega) only [gI_eq, gI_ne, gL_pI, gI_pL]; exact e1)
    refine ⟨σ2, rec, r1, r2, r3, Eq.trans ?_ r4⟩
    show F_X2_copy_10 h' h _ (nI i) σ1 = _
    have fl3 : gI σ (h + 4 + i) 2 = 0 ∨ gI σ (h + 4 + i) 2 = nI 1 := fl2
    generalize iterF (F_X2_copy_10 h' h) (fun _ _ => none) f = R
    unfold F_X2_copy_10 f_X3_copy
    simp (disch := omega) only [nI_lit 5, nI_lit 1, nI_leE, ltT, ltF, leT, leF, eqT, eqF, ↓reduceIte, ixo_h1 hh, ixo_h1 hh', bd1_s, bd2_s, h13, gI_ne, rd, nI_addE]
    rw [grd_t fl3]
    rfl
theorem copy_bids (hh : h = 1 ∨ h = 16 ∨ h = 31 ∨ h = 49) (hh' : h' = 1 ∨ h' = 16 ∨ h' = 31 ∨ h' = 49) (ne : h ≠ h') (σ0 : Mem) : ∀ (d i : Nat) (σ1 : Mem) (fuel : Nat), i + d = 6 → d < fuel → Fr (FH h') σ σ1 → (∀ j, j < i → ∀ s, s < 4 → gI σ1 (h' + 9 + j) s = gI σ (h + 9 + j) s) → (∀ k i, (k < h' + 9 ∨ h' + 15 ≤ k) → gI σ1 k i = gI σ0 k i) →
    ∃ σ2 rec, Fr (FH h') σ σ2 ∧ (∀ j, j < 6 → ∀ s, s < 4 → gI σ2 (h' + 9 + j) s = gI σ (h + 9 + j) s) ∧ (∀ k i, (k < h' + 9 ∨ h' + 15 ≤ k) → gI σ2 k i = gI σ0 k i) ∧ iterF (F_X2_copy_46 h' h) (fun _ _ => none) fuel (nI i) σ1 = F_X2_copy_46 h' h rec (nI 6) σ2 := by
  intro d
  induction d with
  | zero =>
    intro i σ1 fuel hi hf F E e1
    obtain ⟨f, rfl⟩ : ∃ f, fuel = f + 1 := ⟨fuel - 1, by omega⟩
    have : i = 6 := by omega
    subst this
    exact ⟨σ1, _, F, E, e1, rfl⟩
  | succ d ih =>
    intro i σ1 fuel hi hf F E e1
    obtain ⟨f, rfl⟩ : ∃ f, fuel = f + 1 := ⟨fuel - 1, by omega⟩
    have rd : ∀ s, gI σ1 (h + 9 + i) s = gI σ (h + 9 + i) s := fun s => F.1 _ _ (by unfold FH; omega)
    obtain ⟨σ2, rec, r1, r2, r3, r4⟩ := ih (i + 1) (pI (pI (pI (pI σ1 (h' + 9 + i) 0 (gI σ (h + 9 + i) 0)) (h' + 9 + i) 1 (gI σ (h + 9 + i) 1)) (h' + 9 + i) 2 (gI σ (h + 9 + i) 2)) (h' + 9 + i) 3 (gI σ (h + 9 + i) 3)) f (by omega) (by omega)
      (Fr_pI _ (Fr_pI _ (Fr_pI _ (Fr_pI _ F (by unfold FH; omega)) (by unfold FH; omega)) (by unfold FH; omega)) (by unfold FH; omega))
      (fun j hj s hs => by
        by_cases e : j = i
        · have : s = 0 ∨ s = 1 ∨ s = 2 ∨ s = 3 := by omega
          rcases this with g | g | g | g <;> subst g <;> simp (disch := omega) only [gI_eq, gI_ne, gL_pI, gI_pL, e]
        · simp (disch := omega) only [gI_eq, gI_ne, gL_pI, gI_pL]
          exact E j (by omega) s hs)
      (fun k j hk => by simp (disch := omega) only [gI_eq, gI_ne, gL_pI, gI_pL]; exact e1 k j hk)
    refine ⟨σ2, rec, r1, r2, r3, Eq.trans ?_ r4⟩
    show F_X2_copy_46 h' h _ (nI i) σ1 = _
    unfold F_X2_copy_46 f_X0_copy f_X0_renew
    simp (disch := omega) only [nI_lit 6, nI_lit 1, nI_leE, ltT, ltF, leT, leF, eqT, eqF, ↓reduceIte, ixo_h2 hh, ixo_h2 hh', bd1_s, bd2_s, h27, gI_ne, rd, nI_addE]
theorem gI_pC (σ : Mem) (k : Nat) (f : Nat → Int32) (k' i' : Nat) : gI (pC σ k f) k' i' = if k' = k then f i' else gI σ k' i' := by
  unfold gI pC
  by_cases e : k' = k
  · simp only [e, if_true]
  · simp only [e, if_false]
theorem nI_tn {n : Nat} (h : n < 2147483648) : (nI n).toNatClampNeg = n := by
  have := nI_toInt (by omega : n < 2 ^ 31)
  show (nI n).toInt.toNat = n
  omega
theorem cpo_h (hh : h = 1 ∨ h = 16 ∨ h = 31 ∨ h = 49) (hh' : h' = 1 ∨ h' = 16 ∨ h' = 31 ∨ h' = 49) : cpo σ (h + 3) (nI 0) (h' + 3) (nI 0) (nI 12) = some (pC σ (h' + 3) (va_cpy (σ.1 (h + 3)) (σ.1 (h' + 3)) 0 0 12)) := by
  have a1 := (al_lots hh).2.2
  have a2 := (al_lots hh').2.2
  unfold cpo
  rw [a1, a2, nI_tn (by omega), nI_tn (by omega)]
  rw [if_neg]
  rw [nI_lit 0, nI_ltE (by omega) (by omega), nI_ltE (by omega) (by omega)]
  omega
theorem cl_copy (hh : h = 1 ∨ h = 16 ∨ h = 31 ∨ h = 49) (hh' : h' = 1 ∨ h' = 16 ∨ h' = 31 ∨ h' = 49) (ne : h ≠ h') (fl : ∀ i, i < 5 → gI σ (h + 4 + i) 2 = 0 ∨ gI σ (h + 4 + i) 2 = 1) : ∃ σ', f_X2_copy h' h σ = some σ' ∧ Cp h' h σ σ' ∧ Fr (FH h') σ σ' := by
  obtain ⟨σ2, rec, r1, r2, r3, r4⟩ := copy_lots hh hh' ne fl 5 0 (pI σ h' 1 (gI σ h 1)) FU (by omega) (FU_lt (by omega)) (Fr_pI _ (Fr_rfl _ _) (by unfold FH; omega)) (fun j hj => by omega) (by simp (disch := omega) only [gI_eq, gI_ne, gL_pI, gI_pL])
  have F3 : Fr (FH h') σ (pI σ2 h' 3 (gI σ h 3)) := Fr_pI _ r1 (by unfold FH; omega)
  obtain ⟨σ4, rec2, s1, s2, s3, s4⟩ := copy_bids (σ := σ) hh hh' ne (pI σ2 h' 3 (gI σ h 3)) 6 0 (pI σ2 h' 3 (gI σ h 3)) FU (by omega) (FU_lt (by omega)) F3 (fun j hj => by omega) (fun k i _ => rfl)
  have rd : ∀ s, gI σ4 h s = gI σ h s := fun s => s1.1 _ _ (by unfold FH; omega)
  have rdd : ∀ s, gI σ4 (h + 3) s = gI σ (h + 3) s := fun s => s1.1 _ _ (by unfold FH; omega)
  have rd2 : gI σ2 h 3 = gI σ h 3 := r1.1 _ _ (by unfold FH; omega)
  have F5 : Fr (FH h') σ (pC σ4 (h' + 3) (va_cpy (σ4.1 (h + 3)) (σ4.1 (h' + 3)) 0 0 12)) := by
    refine ⟨fun k i n => ?_, s1.2⟩
    rw [gI_pC, if_neg (by unfold FH at n; omega)]
    exact s1.1 k i n
  have ec : f_X2_copy h' h σ = some (pI (pI (pI (pI (pI (pI (pI (pC σ4 (h' + 3) (va_cpy (σ4.1 (h + 3)) (σ4.1 (h' + 3)) 0 0 12)) h' 5 (gI σ h 5)) h' 6 (gI σ h 6)) h' 7 (gI σ h 7)) h' 8 (gI σ h 8)) h' 9 (gI σ h 9)) h' 10 (gI σ h 10)) h' 11 (gI σ h 11)) := by
    have A : F_X2_copy_10 h' h rec (nI 5) σ2 = iterF (F_X2_copy_46 h' h) (fun _ _ => none) FU (nI 0) (pI σ2 h' 3 (gI σ h 3)) := by
      unfold F_X2_copy_10
      rw [nI_lit 5, if_pos (by rw [nI_leE (by omega) (by omega)]; omega), bd1_s, rd2]
      rfl
    have B : F_X2_copy_46 h' h rec2 (nI 6) σ4 = some (pI (pI (pI (pI (pI (pI (pI (pC σ4 (h' + 3) (va_cpy (σ4.1 (h + 3)) (σ4.1 (h' + 3)) 0 0 12)) h' 5 (gI σ h 5)) h' 6 (gI σ h 6)) h' 7 (gI σ h 7)) h' 8 (gI σ h 8)) h' 9 (gI σ h 9)) h' 10 (gI σ h 10)) h' 11 (gI σ h 11)) := by
      have g : ∀ s f, gI (pC σ4 (h' + 3) f) h s = gI σ h s := fun s f => by rw [gI_pC, if_neg (by omega)]; exact rd s
      unfold F_X2_copy_46
      rw [nI_lit 6, if_pos (by rw [nI_leE (by omega) (by omega)]; omega), nI_lit 0, nI_lit 12, cpo_h hh hh']
      simp (disch := omega) only [bd1_s, gI_ne, g]
    unfold f_X2_copy
    rw [bd1_s]
    exact r4.trans (A.trans (s4.trans B))
  refine ⟨_, ec, ⟨⟨?_, ?_, ?_, ?_, ?_, ?_, ?_, ?_, ?_⟩, fun p hp => ?_, fun i hi s hs => ?_, fun b hb s hs => ?_⟩, ?_⟩
  · simp (disch := omega) only [gI_eq, gI_ne, gL_pI, gI_pL]
    rw [gI_pC, if_neg (by omega), s3 _ _ (by omega)]
    simp (disch := omega) only [gI_eq, gI_ne, gL_pI, gI_pL]
    exact r3
  · simp (disch := omega) only [gI_eq, gI_ne, gL_pI, gI_pL]
    rw [gI_pC, if_neg (by omega), s3 _ _ (by omega)]
    simp (disch := omega) only [gI_eq, gI_ne, gL_pI, gI_pL]
  · simp (disch := omega) only [gI_eq, gI_ne, gL_pI, gI_pL]
  · simp (disch := omega) only [gI_eq, gI_ne, gL_pI, gI_pL]
  · simp (disch := omega) only [gI_eq, gI_ne, gL_pI, gI_pL]
  · simp (disch := omega) only [gI_eq, gI_ne, gL_pI, gI_pL]
  · simp (disch := omega) only [gI_eq, gI_ne, gL_pI, gI_pL]
  · simp (disch := omega) only [gI_eq, gI_ne, gL_pI, gI_pL]
  · simp (disch := omega) only [gI_eq, gI_ne, gL_pI, gI_pL]
  · simp (disch := omega) only [gI_eq, gI_ne, gL_pI, gI_pL]
    rw [gI_pC, if_pos rfl]
    unfold va_cpy
    rw [if_pos (by omega)]
    have : 0 + (p - 0) = p := by omega
    rw [this]
    exact rdd p
  · simp (disch := omega) only [gI_eq, gI_ne, gL_pI, gI_pL]
    rw [gI_pC, if_neg (by omega), s3 _ _ (by omega)]
    simp (disch := omega) only [gI_eq, gI_ne, gL_pI, gI_pL]
    exact r2 i hi s hs
  · simp (disch := omega) only [gI_eq, gI_ne, gL_pI, gI_pL]
    rw [gI_pC, if_neg (by omega)]
    exact s2 b hb s hs
  · exact Fr_pI _ (Fr_pI _ (Fr_pI _ (Fr_pI _ (Fr_pI _ (Fr_pI _ (Fr_pI _ F5 (by unfold FH; omega)) (by unfold FH; omega)) (by unfold FH; omega)) (by unfold FH; omega)) (by unfold FH; omega)) (by unfold FH; omega)) (by unfold FH; omega)
end
