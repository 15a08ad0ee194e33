def OA (N : Nat) (F A : Nat → Nat) (σ : Mem) : Prop := ∀ j, j < N → gI σ 64 j = nI (F (A j))
section
variable {q : HQ} {σ : Mem} {h o b v l s N : Nat} {F A : Nat → Nat}
theorem al67 {r : Nat} (hr : r < 6) : al (67 + r) = 6 := by
  have : r = 0 ∨ r = 1 ∨ r = 2 ∨ r = 3 ∨ r = 4 ∨ r = 5 := by omega
  rcases this with rfl | rfl | rfl | rfl | rfl | rfl <;> decide
theorem save_loop {r : Nat} (hr : r < 6) : ∀ (d i : Nat) (σ1 : Mem) (fuel : Nat), i + d = 6 → d < fuel → Fr (fun k _ => k = 67 + r) σ σ1 → (∀ j, j < i → gI σ1 (67 + r) j = gI σ (58 + j) 3) → ∃ σ2, iterF (F_X8_savePurses_2 48 (67 + r)) (fun _ _ => none) fuel (nI i) σ1 = some σ2 ∧ Fr (fun k _ => k = 67 + r) σ σ2 ∧ (∀ j, j < 6 → gI σ2 (67 + r) j = gI σ (58 + j) 3) := by
  intro d
  induction d with
  | zero =>
    intro i σ1 fuel hi hf F E
    obtain ⟨f, rfl⟩ : ∃ f, fuel = f + 1 := ⟨fuel - 1, by omega⟩
    have : i = 6 := by omega
    subst this
    refine ⟨σ1, ?_, F, E⟩
    show F_X8_savePurses_2 48 (67 + r) _ _ _ = _
    unfold F_X8_savePurses_2
    rw [nI_lit 6, if_pos (by rw [nI_leE (by omega) (by omega)]; omega)]
  | succ d ih =>
    intro i σ1 fuel hi hf F E
    obtain ⟨f, rfl⟩ : ∃ f, fuel = f + 1 := ⟨fuel - 1, by omega⟩
    have w : gI σ1 (58 + i) 3 = gI σ (58 + i) 3 := F.1 _ _ (by omega)
    obtain ⟨σ2, r2⟩ := ih (i + 1) (pI σ1 (67 + r) i (gI σ (58 + i) 3)) f (by omega) (by omega) (Fr_pI _ F rfl) (fun j hj => by
      by_cases g : j = i
      · rw [g]; exact gI_eq _ _ ⟨rfl, rfl⟩
      · rw [gI_ne _ _ (by omega)]; exact E j (by omega))
    refine ⟨σ2, Eq.trans ?_ r2.1, r2.2⟩
    show F_X8_savePurses_2 48 (67 + r) _ _ _ = _
    have i1 : ixo 51 (nI i) = some i := ixo_51 (by omega)
    have i2 : ixo (67 + r) (nI i) = some i := ixo_nI (by rw [al67 hr]; omega) (by omega)
    have ea : Int32.ofNat (al (67 + r)) = nI 6 := by rw [al67 hr]; rfl
    unfold F_X8_savePurses_2
    rw [nI_lit 6, if_neg (by rw [nI_leE (by omega) (by omega)]; omega), ea, if_neg (by rw [nI_leE (by omega) (by omega)]; omega)]
    simp only [Nat.reduceAdd, i1, i2, bd1_s, w]
    rw [nI_lit 1, nI_addE]
theorem load_loop {r : Nat} (hr : r < 6) : ∀ (d i : Nat) (σ1 : Mem) (fuel : Nat), i + d = 6 → d < fuel → Fr (fun k j => 58 ≤ k ∧ k ≤ 63 ∧ j = 3) σ σ1 → (∀ j, j < i → gI σ1 (58 + j) 3 = gI σ (67 + r) j) → ∃ σ2, iterF (F_X8_loadPurses_2 48 (67 + r)) (fun _ _ => none) fuel (nI i) σ1 = some σ2 ∧ Fr (fun k j => 58 ≤ k ∧ k ≤ 63 ∧ j = 3) σ σ2 ∧ (∀ j, j < 6 → gI σ2 (58 + j) 3 = gI σ (67 + r) j) := by
  intro d
  induction d with
  | zero =>
    intro i σ1 fuel hi hf F E
    obtain ⟨f, rfl⟩ : ∃ f, fuel = f + 1 := ⟨fuel - 1, by omega⟩
    have : i = 6 := by omega
    subst this
    refine ⟨σ1, ?_, F, E⟩
    show F_X8_loadPurses_2 48 (67 + r) _ _ _ = _
    unfold F_X8_loadPurses_2
    rw [nI_lit 6, if_pos (by rw [nI_leE (by omega) (by omega)]; omega)]
  | succ d ih =>
    intro i σ1 fuel hi hf F E
    obtain ⟨f, rfl⟩ : ∃ f, fuel = f + 1 := ⟨fuel - 1, by omega⟩
    have w : gI σ1 (67 + r) i = gI σ (67 + r) i := F.1 _ _ (by omega)
    obtain ⟨σ2, r2⟩ := ih (i + 1) (pI σ1 (58 + i) 3 (gI σ (67 + r) i)) f (by omega) (by omega) (Fr_pI _ F ⟨by omega, by omega, rfl⟩) (fun j hj => by
      by_cases g : j = i
      · rw [g]; exact gI_eq _ _ ⟨rfl, rfl⟩
      · rw [gI_ne _ _ (by omega)]; exact E j (by omega))
    refine ⟨σ2, Eq.trans ?_ r2.1, r2.2⟩
    show F_X8_loadPurses_2 48 (67 + r) _ _ _ = _
    have i1 : ixo 51 (nI i) = some i := ixo_51 (by omega)
    have i2 : ixo (67 + r) (nI i) = some i := ixo_nI (by rw [al67 hr]; omega) (by omega)
    have ea : Int32.ofNat (al (67 + r)) = nI 6 := by rw [al67 hr]; rfl
    unfold F_X8_loadPurses_2
    rw [nI_lit 6, if_neg (by rw [nI_leE (by omega) (by omega)]; omega), ea, if_neg (by rw [nI_leE (by omega) (by omega)]; omega)]
    simp only [Nat.reduceAdd, i1, i2, bd1_s, w]
    rw [nI_lit 1, nI_addE]
theorem cl_list (ok : q.Okl) (c1 : gI σ 1 1 = nI q.n) (cl : CHl 1 q σ) : ∀ (d i : Nat) (x : Nat × (Nat → Nat)) (σ1 : Mem) (fuel : Nat), i + d = 5 → d < fuel → x.1 ≤ i → Fr (fun k _ => k = 64) σ σ1 → (∀ j, j < x.1 → gI σ1 64 j = nI (x.2 j)) → ∃ σ2, iterF (F_X8_listUnsold_4 48 1) (fun _ _ _ => none) fuel (nI x.1) (nI i) σ1 = some (nI (frR q (q.n - i) i x).1, σ2) ∧ Fr (fun k _ => k = 64) σ σ2 ∧ (∀ j, j < (frR q (q.n - i) i x).1 → gI σ2 64 j = nI ((frR q (q.n - i) i x).2 j)) := by
  have hn := ok.1
  intro d
  induction d with
  | zero =>
    intro i x σ1 fuel hi hf hx F E
    obtain ⟨f, rfl⟩ : ∃ f, fuel = f + 1 := ⟨fuel - 1, by omega⟩
    have z : q.n - i = 0 := by omega
    rw [z]
    refine ⟨σ1, ?_, F, E⟩
    show F_X8_listUnsold_4 48 1 _ _ _ _ = _
    unfold F_X8_listUnsold_4
    rw [nI_lit 5, if_pos (by rw [nI_leE (by omega) (by omega)]; omega)]
    rfl
  | succ d ih =>
    intro i x σ1 fuel hi hf hx F E
    obtain ⟨f, rfl⟩ : ∃ f, fuel = f + 1 := ⟨fuel - 1, by omega⟩
    have y1 : gI σ1 1 1 = nI q.n := (F.1 _ _ (by omega)).trans c1
    have cl1 : CHl 1 q σ1 := CHl_fr hn cl (fun j i hj => F.1 _ _ (by omega))
    have st0 : ∀ R : Int32 → Int32 → Mem → Option (Int32 × Mem), f_X2_unsoldAt 1 (nI i) σ1 = some (none, σ1) → F_X8_listUnsold_4 48 1 R (nI x.1) (nI i) σ1 = R (nI x.1) (nI (i + 1)) σ1 := fun R h => by
      unfold F_X8_listUnsold_4
      rw [nI_lit 5, if_neg (by rw [nI_leE (by omega) (by omega)]; omega), h, bd2_s, onrN, nI_lit 1, nI_addE]
    by_cases g : i < q.n
    · have so := (ok.2 i g).2.2.1
      have z : q.n - i = (q.n - (i + 1)) + 1 := by omega
      rw [z]
      unfold frR
      by_cases zz : q.sold i = 0
      · rw [if_pos zz]
        obtain ⟨σ2, r⟩ := ih (i + 1) (x.1 + 1, fun j => if j = x.1 then i else x.2 j) (pI σ1 64 x.1 (nI i)) f (by omega) (by omega) (by show x.1 + 1 ≤ i + 1; omega) (Fr_pI _ F rfl) (fun j hj => by
          have hj : j < x.1 + 1 := hj
          show _ = nI (if j = x.1 then i else x.2 j)
          by_cases e : j = x.1
          · rw [if_pos e]; exact gI_eq _ _ ⟨rfl, e⟩
          · rw [if_neg e, gI_ne _ _ (by omega)]; exact E j (by omega))
        refine ⟨σ2, Eq.trans ?_ r.1, r.2⟩
        show F_X8_listUnsold_4 48 1 _ _ _ _ = _
        have u := unsold_ok hn g y1 cl1 zz
        have kk := kd_lot (h := 1) (i := i) (.inl rfl) (by omega)
        simp only [Nat.reduceAdd] at kk
        have i1 : ixo 64 (nI x.1) = some x.1 := ixo_64 (by omega)
        unfold F_X8_listUnsold_4
        rw [nI_lit 5, if_neg (by rw [nI_leE (by omega) (by omega)]; omega), u, bd2_s, onrS, grd_t kk]
        simp only [Nat.reduceAdd, i1, bd1_s]
        rw [nI_lit 1, nI_addE, nI_addE]
      · rw [if_neg zz]
        obtain ⟨σ2, r⟩ := ih (i + 1) x σ1 f (by omega) (by omega) (by omega) F E
        refine ⟨σ2, Eq.trans ?_ r.1, r.2⟩
        show F_X8_listUnsold_4 48 1 _ _ _ _ = _
        exact st0 _ (unsold_no hn g y1 cl1 (by omega))
    · have z : q.n - i = q.n - (i + 1) := by omega
      rw [z]
      have z0 : q.n - (i + 1) = 0 := by omega
      obtain ⟨σ2, r⟩ := ih (i + 1) x σ1 f (by omega) (by omega) (by omega) F E
      rw [z0] at r ⊢
      refine ⟨σ2, Eq.trans ?_ r.1, r.2⟩
      show F_X8_listUnsold_4 48 1 _ _ _ _ = _
      exact st0 _ (unsold_bad y1 (badge (by omega : q.n ≤ i) (by omega)))
/-! the next order -/
theorem nI_dec {b : Nat} (h : 1 ≤ b) : nI b + (-1 : Int32) = nI (b - 1) := by
  have : (-1 : Int32) = - nI 1 := rfl
  rw [this, ← Int32.sub_eq_add_neg, nI_subE h]
theorem cl_swap (hN : N ≤ 5) {a b : Nat} (ha : a < N) (hb : b < N) (O : OA N F A σ) : ∃ σ', f_X8_swapOrder 48 (nI a) (nI b) σ = some σ' ∧ OA N F (swp A a b) σ' ∧ Fr (fun k _ => k = 64) σ σ' := by
  have i1 : ixo 64 (nI a) = some a := ixo_64 (by omega)
  have i2 : ixo 64 (nI b) = some b := ixo_64 (by omega)
  refine ⟨pI (pI σ 64 a (nI (F (A b)))) 64 b (nI (F (A a))), ?_, fun j hj => ?_, Fr_pI _ (Fr_pI _ (Fr_rfl _ _) rfl) rfl⟩
  · unfold f_X8_swapOrder
    simp only [Nat.reduceAdd, i1, i2, bd1_s, O a ha, O b hb]
  · unfold swp
    by_cases e : j = b
    · rw [if_pos e]; exact gI_eq _ _ ⟨rfl, e⟩
    · rw [if_neg e, gI_ne _ _ (by omega)]
      by_cases g : j = a
      · rw [if_pos g]; exact gI_eq _ _ ⟨rfl, g⟩
      · rw [if_neg g, gI_ne _ _ (by omega)]; exact O j hj
theorem rev_loop (hN : N ≤ 5) (p : Nat) : ∀ (n a b : Nat) (A : Nat → Nat) (σ : Mem) (fuel : Nat), b ≤ a + 2 * n → n < fuel → a ≤ 5 → b < N → OA N F A σ → ∃ σ', iterF (F_X8_stepOrder_84 48 (nI p)) (fun _ _ _ => none) fuel (nI a) (nI b) σ = some (nI p, σ') ∧ OA N F (revF n a b A) σ' ∧ Fr (fun k _ => k = 64) σ σ' := by
  intro n
  induction n with
  | zero =>
    intro a b A σ fuel h hf ha hb O
    obtain ⟨f, rfl⟩ : ∃ f, fuel = f + 1 := ⟨fuel - 1, by omega⟩
    refine ⟨σ, ?_, O, Fr_rfl _ _⟩
    show F_X8_stepOrder_84 48 (nI p) _ _ _ _ = _
    unfold F_X8_stepOrder_84
    rw [if_pos (by rw [nI_leE (by omega) (by omega)]; omega)]
  | succ n ih =>
    intro a b A σ fuel h hf ha hb O
    obtain ⟨f, rfl⟩ : ∃ f, fuel = f + 1 := ⟨fuel - 1, by omega⟩
    unfold revF
    by_cases g : b ≤ a
    · rw [if_pos g]
      refine ⟨σ, ?_, O, Fr_rfl _ _⟩
      show F_X8_stepOrder_84 48 (nI p) _ _ _ _ = _
      unfold F_X8_stepOrder_84
      rw [if_pos (by rw [nI_leE (by omega) (by omega)]; omega)]
    · rw [if_neg g]
      obtain ⟨σ1, a1, a2, a3⟩ := cl_swap (F := F) (A := A) hN (a := a) (b := b) (by omega) hb O
      obtain ⟨σ2, r1, r2, r3⟩ := ih (a + 1) (b - 1) (swp A a b) σ1 f (by omega) (by omega) (by omega) (by omega) a2
      refine ⟨σ2, Eq.trans ?_ r1, r2, Fr_tr a3 r3⟩
      show F_X8_stepOrder_84 48 (nI p) _ _ _ _ = _
      generalize iterF (F_X8_stepOrder_84 48 (nI p)) (fun _ _ _ => none) f = R
      unfold F_X8_stepOrder_84
      rw [if_neg (by rw [nI_leE (by omega) (by omega)]; omega), a1, bd1_s, nI_dec (by omega), nI_lit 1, nI_addE]
theorem fnd2_loop (hN : N ≤ 5) (hF : ∀ j, j < N → F j < 5) (inc : ∀ j k, j < k → k < N → F j < F k) (hA : ∀ j, j < N → A j < N) {p : Nat} (hp : p + 1 < N) (O : OA N F A σ) : ∀ (o fuel : Nat), o < N → o < fuel → ∃ σ', iterF (F_X8_stepOrder_42 48 (nI N) (nI p)) (fun _ _ => none) fuel (nI o) σ = some (nI p, σ') ∧ OA N F (revF 6 (p + 1) (N - 1) (swp A p (find2 A p o))) σ' ∧ Fr (fun k _ => k = 64) σ σ' := by
  have fin : ∀ o, o < N → ∃ σ', bd1 (f_X8_swapOrder 48 (nI p) (nI o) σ) (fun σ4 => iterF (F_X8_stepOrder_84 48 (nI p)) (fun _ _ _ => none) FU (nI p + (1 : Int32)) (nI N - (1 : Int32)) σ4) = some (nI p, σ') ∧ OA N F (revF 6 (p + 1) (N - 1) (swp A p o)) σ' ∧ Fr (fun k _ => k = 64) σ σ' := fun o ho => by
    obtain ⟨σ1, a1, a2, a3⟩ := cl_swap (F := F) (A := A) hN (a := p) (b := o) (by omega) ho O
    obtain ⟨σ2, r1, r2, r3⟩ := rev_loop (F := F) hN p 6 (p + 1) (N - 1) (swp A p o) σ1 FU (by omega) (FU_lt (by omega)) (by omega) (by omega) a2
    refine ⟨σ2, ?_, r2, Fr_tr a3 r3⟩
    rw [a1, bd1_s, nI_lit 1, nI_addE, nI_subE (by omega)]
    exact r1
  intro o
  induction o with
  | zero =>
    intro fuel ho hf
    obtain ⟨f, rfl⟩ : ∃ f, fuel = f + 1 := ⟨fuel - 1, by omega⟩
    obtain ⟨σ2, r1, r2, r3⟩ := fin 0 ho
    refine ⟨σ2, Eq.trans ?_ r1, r2, r3⟩
    show F_X8_stepOrder_42 48 (nI N) (nI p) _ _ _ = _
    unfold F_X8_stepOrder_42
    rw [if_pos (by rw [nI_leE (by omega) (by omega)]; omega)]
  | succ o ih =>
    intro fuel ho hf
    obtain ⟨f, rfl⟩ : ∃ f, fuel = f + 1 := ⟨fuel - 1, by omega⟩
    unfold find2
    have i1 : ixo 64 (nI (o + 1)) = some (o + 1) := ixo_64 (by omega)
    have i2 : ixo 64 (nI p) = some p := ixo_64 (by omega)
    by_cases g : o + 1 ≤ p
    · rw [if_pos g]
      obtain ⟨σ2, r1, r2, r3⟩ := fin (o + 1) ho
      refine ⟨σ2, Eq.trans ?_ r1, r2, r3⟩
      show F_X8_stepOrder_42 48 (nI N) (nI p) _ _ _ = _
      unfold F_X8_stepOrder_42
      rw [if_pos (by rw [nI_leE (by omega) (by omega)]; omega)]
    · rw [if_neg g]
      have fa := hF _ (hA p (by omega))
      have fb := hF _ (hA (o + 1) ho)
      have cmp : (nI (F (A p)) ≤ nI (F (A (o + 1)))) = (A p ≤ A (o + 1)) := by
        rw [nI_leE (by omega) (by omega)]
        apply propext
        constructor
        · intro h
          by_cases z : A p ≤ A (o + 1)
          · exact z
          · have := inc (A (o + 1)) (A p) (by omega) (hA p (by omega))
            omega
        · intro h
          by_cases z : A p = A (o + 1)
          · rw [z]; exact Nat.le_refl _
          · have := inc (A p) (A (o + 1)) (by omega) (hA _ ho)
            omega
      have st : ∀ R, F_X8_stepOrder_42 48 (nI N) (nI p) R (nI (o + 1)) σ = if A p ≤ A (o + 1) then bd1 (f_X8_swapOrder 48 (nI p) (nI (o + 1)) σ) (fun σ4 => iterF (F_X8_stepOrder_84 48 (nI p)) (fun _ _ _ => none) FU (nI p + (1 : Int32)) (nI N - (1 : Int32)) σ4) else R (nI o) σ := fun R => by
        unfold F_X8_stepOrder_42
        rw [if_neg (by rw [nI_leE (by omega) (by omega)]; omega)]
        simp only [Nat.reduceAdd, i1, i2, bd1_s, O p (by omega), O (o + 1) ho]
        by_cases z : A p ≤ A (o + 1)
        · rw [if_pos z, if_pos (by rw [cmp]; exact z)]
        · rw [if_neg z, if_neg (by rw [cmp]; exact z), nI_dec (by omega)]
          simp only [Nat.add_sub_cancel]
      show ∃ σ', F_X8_stepOrder_42 48 (nI N) (nI p) _ _ _ = _ ∧ _
      rw [st]
      by_cases z : A p ≤ A (o + 1)
      · rw [if_pos z, if_pos z]
        exact fin (o + 1) ho
      · rw [if_neg z, if_neg z]
        exact ih f (by omega) (by omega)
theorem fnd1_loop (hN : N ≤ 5) (hF : ∀ j, j < N → F j < 5) (inc : ∀ j k, j < k → k < N → F j < F k) (hA : ∀ j, j < N → A j < N) (O : OA N F A σ) : ∀ (a fuel : Nat), a + 1 < N → a + 1 < fuel → (find1 A (a + 1) = none ∧ iterF (F_X8_stepOrder_4 48 (nI N)) (fun _ _ => none) fuel (nI a) σ = some (-nI 3, σ)) ∨ ∃ p σ', find1 A (a + 1) = some p ∧ p + 1 < N ∧ iterF (F_X8_stepOrder_4 48 (nI N)) (fun _ _ => none) fuel (nI a) σ = some (nI p, σ') ∧ OA N F (stepA N p A) σ' ∧ Fr (fun k _ => k = 64) σ σ' := by
  intro a
  have st : ∀ a, a + 1 < N → ∀ R, F_X8_stepOrder_4 48 (nI N) R (nI a) σ = if A (a + 1) < A a then R (nI a + (-1 : Int32)) σ else iterF (F_X8_stepOrder_42 48 (nI N) (nI a)) (fun _ _ => none) FU (nI (N - 1)) σ := fun a ha R => by
    have i1 : ixo 64 (nI a) = some a := ixo_64 (by omega)
    have i2 : ixo 64 (nI (a + 1)) = some (a + 1) := ixo_64 (by omega)
    have fa := hF _ (hA a (by omega))
    have fb := hF _ (hA (a + 1) ha)
    have cmp : (nI (F (A a)) ≤ nI (F (A (a + 1)))) = ¬ (A (a + 1) < A a) := by
      rw [nI_leE (by omega) (by omega)]
      apply propext
      constructor
      · intro h z
        have := inc (A (a + 1)) (A a) z (hA a (by omega))
        omega
      · intro h
        by_cases z : A a = A (a + 1)
        · rw [z]; exact Nat.le_refl _
        · have := inc (A a) (A (a + 1)) (by omega) (hA _ ha)
          omega
    unfold F_X8_stepOrder_4
    rw [if_neg (by rw [nI_lit 0, nI_ltE (by omega) (by omega)]; omega), nI_lit 1, nI_addE]
    simp only [Nat.reduceAdd, i1, i2, bd1_s, O a (by omega), O (a + 1) ha]
    by_cases z : A (a + 1) < A a
    · rw [if_pos z, if_neg (by rw [cmp]; exact not_not_intro z)]
    · rw [if_neg z, if_pos (by rw [cmp]; exact z), if_pos (by rw [nI_lit 0, nI_leE (by omega) (by omega)]; omega), nI_subE (by omega)]
  induction a with
  | zero =>
    intro fuel ha hf
    obtain ⟨f, rfl⟩ : ∃ f, fuel = f + 1 := ⟨fuel - 1, by omega⟩
    have st0 := st 0 ha (iterF (F_X8_stepOrder_4 48 (nI N)) (fun _ _ => none) f)
    have g0 : iterF (F_X8_stepOrder_4 48 (nI N)) (fun _ _ => none) (f + 1) (nI 0) σ = F_X8_stepOrder_4 48 (nI N) (iterF (F_X8_stepOrder_4 48 (nI N)) (fun _ _ => none) f) (nI 0) σ := rfl
    rw [g0, st0]
    unfold find1
    by_cases z : A (0 + 1) < A 0
    · left
      rw [if_pos z, if_pos z]
      refine ⟨rfl, ?_⟩
      obtain ⟨f', rfl⟩ : ∃ f', f = f' + 1 := ⟨f - 1, by omega⟩
      show F_X8_stepOrder_4 48 (nI N) _ _ _ = _
      have e : nI 0 + (-1 : Int32) = -nI 1 := by decide
      unfold F_X8_stepOrder_4
      rw [e, if_pos (by decide), if_neg (by decide)]
      rfl
    · right
      rw [if_neg z, if_neg z]
      obtain ⟨σ2, r1, r2, r3⟩ := fnd2_loop hN hF inc hA (p := 0) ha O (N - 1) FU (by omega) (FU_lt (by omega))
      exact ⟨0, σ2, rfl, ha, r1, r2, r3⟩
  | succ a ih =>
    intro fuel ha hf
    obtain ⟨f, rfl⟩ : ∃ f, fuel = f + 1 := ⟨fuel - 1, by omega⟩
    have st0 := st (a + 1) ha (iterF (F_X8_stepOrder_4 48 (nI N)) (fun _ _ => none) f)
    have g0 : iterF (F_X8_stepOrder_4 48 (nI N)) (fun _ _ => none) (f + 1) (nI (a + 1)) σ = F_X8_stepOrder_4 48 (nI N) (iterF (F_X8_stepOrder_4 48 (nI N)) (fun _ _ => none) f) (nI (a + 1)) σ := rfl
    rw [g0, st0]
    have ef : find1 A (a + 1 + 1) = if A (a + 1 + 1) < A (a + 1) then find1 A (a + 1) else some (a + 1) := rfl
    rw [ef]
    by_cases z : A (a + 1 + 1) < A (a + 1)
    · rw [if_pos z, if_pos z, nI_dec (by omega)]
      exact ih f (by omega) (by omega)
    · right
      rw [if_neg z, if_neg z]
      obtain ⟨σ2, r1, r2, r3⟩ := fnd2_loop hN hF inc hA (p := a + 1) ha O (N - 1) FU (by omega) (FU_lt (by omega))
      exact ⟨a + 1, σ2, rfl, ha, r1, r2, r3⟩
theorem cl_next (hN : N ≤ 5) (h1 : 1 ≤ N) (hF : ∀ j, j < N → F j < 5) (inc : ∀ j k, j < k → k < N → F j < F k) (hA : ∀ j, j < N → A j < N) (O : OA N F A σ) : (find1 A (N - 1) = none ∧ f_X8_stepOrder 48 (nI N) σ = some (-nI 3, σ)) ∨ ∃ p σ', find1 A (N - 1) = some p ∧ p + 1 < N ∧ f_X8_stepOrder 48 (nI N) σ = some (nI p, σ') ∧ OA N F (stepA N p A) σ' ∧ Fr (fun k _ => k = 64) σ σ' := by
  by_cases g : N = 1
  · subst g
    left
    refine ⟨rfl, ?_⟩
    show F_X8_stepOrder_4 48 (nI 1) (iterF (F_X8_stepOrder_4 48 (nI 1)) (fun _ _ => none) 999) (nI 1 - (2 : Int32)) σ = _
    have e : nI 1 - (2 : Int32) = -nI 1 := by decide
    unfold F_X8_stepOrder_4
    rw [e, if_pos (by decide), if_neg (by decide)]
    rfl
  · have L := fnd1_loop hN hF inc hA O (N - 2) FU (by omega) (FU_lt (by omega))
    have e1 : N - 2 + 1 = N - 1 := by omega
    have e2 : f_X8_stepOrder 48 (nI N) σ = iterF (F_X8_stepOrder_4 48 (nI N)) (fun _ _ => none) FU (nI (N - 2)) σ := by
      unfold f_X8_stepOrder
      rw [nI_lit 2, nI_subE (by omega)]
    rw [e1] at L
    rw [e2]
    exact L
end
