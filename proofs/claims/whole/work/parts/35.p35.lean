/-! finding lots and bidders -/
theorem arg2 (x : Int32) (n : Nat) (hn : n < 2147483648) : (∃ i, i < n ∧ x = nI i) ∨ (x < nI 0 ∨ (¬ x < nI 0 ∧ nI n ≤ x ∧ nI n - nI 1 < x)) := by
  by_cases h1 : x < nI 0
  · exact .inr (.inl h1)
  · by_cases h2 : nI n ≤ x
    · refine .inr (.inr ⟨h1, h2, ?_⟩)
      rw [Int32.lt_iff_toInt_lt, nI_subI hn (by omega)]
      rw [Int32.le_iff_toInt_le, nI_toInt (by omega : n < 2 ^ 31)] at h2
      omega
    · refine .inl ⟨x.toInt.toNat, ?_⟩
      rw [Int32.lt_iff_toInt_lt, nI_toInt (by omega : 0 < 2 ^ 31)] at h1
      rw [Int32.le_iff_toInt_le, nI_toInt (by omega : n < 2 ^ 31)] at h2
      refine ⟨by omega, ?_⟩
      apply Int32.toInt_inj.mp
      rw [nI_toInt (by omega : x.toInt.toNat < 2 ^ 31)]
      omega
def Bad (x : Int32) (n : Nat) : Prop := x < nI 0 ∨ (¬ x < nI 0 ∧ nI n ≤ x ∧ nI n - nI 1 < x)
theorem arg3 (x : Int32) (n : Nat) (hn : n < 2147483648) : (∃ i, i < n ∧ x = nI i) ∨ Bad x n := arg2 x n hn
theorem nI_pred_lt {i n : Nat} (hi : i < n) (hn : n < 2147483648) : (nI n - nI 1 < nI i) = False := by
  apply eq_false
  rw [Int32.lt_iff_toInt_lt, nI_subI hn (by omega), nI_toInt (by omega : i < 2 ^ 31)]
  omega
section
variable {σ : Mem} {h n i : Nat} {x : Int32}
theorem lotAt_ok (hh : h = 1 ∨ h = 16 ∨ h = 31 ∨ h = 49) (c : gI σ h 1 = nI n) (hn : n ≤ 5) (hi : i < n) : f_X2_lotAt h (nI i) σ = some (some (h + 4 + i), σ) := by
  unfold f_X2_lotAt
  rw [c, ixo_nI (by rw [(al_lots hh).1]; omega) (by omega)]
  simp (disch := omega) only [nI_lit, nI_addE, nI_mulE, nI_ltE, nI_leE, nI_eqE, nI_eqN, nI_Neq, nI_ltN, nI_Nlt, nI_leN, nI_Nle, nI_NeN, nI_subE, bd1_s, bd2_s, onrN, onrS, grd_t, grd_T, Nat.not_lt_zero, if_false]
  rw [if_neg (by omega), if_neg (by omega)]
theorem lotAt_no (c : gI σ h 1 = nI n) (b : Bad x n) : f_X2_lotAt h x σ = some (none, σ) := by
  unfold f_X2_lotAt
  rw [c]
  rcases b with b | ⟨b1, b2, -⟩
  · exact if_pos b
  · exact (if_neg b1).trans (if_pos b2)
theorem bidAt_ok (hh : h = 1 ∨ h = 16 ∨ h = 31 ∨ h = 49) (c : gI σ h 3 = nI n) (hn : n ≤ 6) (hi : i < n) : f_X2_bidderAt h (nI i) σ = some (some (h + 9 + i), σ) := by
  unfold f_X2_bidderAt
  rw [c, ixo_nI (by rw [(al_lots hh).2.1]; omega) (by omega)]
  simp (disch := omega) only [nI_lit, nI_addE, nI_mulE, nI_ltE, nI_leE, nI_eqE, nI_eqN, nI_Neq, nI_ltN, nI_Nlt, nI_leN, nI_Nle, nI_NeN, nI_subE, bd1_s, bd2_s, onrN, onrS, grd_t, grd_T, Nat.not_lt_zero, if_false]
  rw [if_neg (by omega), if_neg (by omega)]
theorem bidAt_no (c : gI σ h 3 = nI n) (b : Bad x n) : f_X2_bidderAt h x σ = some (none, σ) := by
  unfold f_X2_bidderAt
  rw [c]
  rcases b with b | ⟨b1, b2, -⟩
  · exact if_pos b
  · exact (if_neg b1).trans (if_pos b2)
theorem in_ok (hi : i < n) (hn : n < 2147483648) : f_X9_within (nI i) (nI 0) (nI n - nI 1) σ = some (nI 1, σ) := by
  unfold f_X9_within
  rw [if_neg (by rw [nI_ltE (by omega) (by omega)]; omega), if_neg (by rw [nI_pred_lt hi hn]; exact id)]
  rfl
theorem in_no (b : Bad x n) : f_X9_within x (nI 0) (nI n - nI 1) σ = some (nI 0, σ) := within_no σ (b.imp id fun c => ⟨c.1, c.2.2⟩)
theorem isLot_ok (c : gI σ 94 0 = nI n) (hn : n ≤ 5) (hi : i < n) : f_X10_isLot 94 (nI i) σ = some (nI 1, σ) := by
  unfold f_X10_isLot
  rw [c, nI_lit, nI_lit, in_eq, in_ok hi (by omega), bd2_s, grd_t (.inr rfl)]
theorem isLot_no (c : gI σ 94 0 = nI n) (b : Bad x n) : f_X10_isLot 94 x σ = some (nI 0, σ) := by
  unfold f_X10_isLot
  rw [c, nI_lit, nI_lit, in_eq, in_no b, bd2_s, grd_t (.inl rfl)]
theorem isBid_ok (c : gI σ 94 8 = nI n) (hn : n ≤ 6) (hi : i < n) : f_X10_isBidder 94 (nI i) σ = some (nI 1, σ) := by
  unfold f_X10_isBidder
  rw [c, nI_lit, nI_lit, in_eq, in_ok hi (by omega), bd2_s, grd_t (.inr rfl)]
theorem isBid_no (c : gI σ 94 8 = nI n) (b : Bad x n) : f_X10_isBidder 94 x σ = some (nI 0, σ) := by
  unfold f_X10_isBidder
  rw [c, nI_lit, nI_lit, in_eq, in_no b, bd2_s, grd_t (.inl rfl)]
theorem bit_ok {lo hi : Nat} (h1 : lo ≤ i) (h2 : i ≤ hi) (hb : hi < 2147483648) : (bd2 (f_X9_within (nI i) (nI lo) (nI hi) σ) fun r3 σ1 => grd (r3 = nI 0 ∨ r3 = nI 1) (some (r3, σ1))) = some (nI 1, σ) := by
  rw [within_ok σ h1 h2 hb, bd2_s, grd_t (.inr rfl)]
theorem bit_no {lo hi : Int32} (h : x < lo ∨ (¬ x < lo ∧ hi < x)) : (bd2 (f_X9_within x lo hi σ) fun r3 σ1 => grd (r3 = nI 0 ∨ r3 = nI 1) (some (r3, σ1))) = some (nI 0, σ) := by
  rw [within_no σ h, bd2_s, grd_t (.inl rfl)]
theorem isWax_ok (h1 : 1 ≤ i) (h2 : i ≤ 60) : f_X10_isWax (nI i) σ = some (nI 1, σ) := bit_ok h1 h2 (by decide)
theorem isWax_no (b : x < nI 1 ∨ (¬ x < nI 1 ∧ nI 60 < x)) : f_X10_isWax x σ = some (nI 0, σ) := bit_no b
theorem isWorth_ok (h1 : 1 ≤ i) (h2 : i ≤ 99) : f_X10_isWorth (nI i) σ = some (nI 1, σ) := bit_ok h1 h2 (by decide)
theorem isWorth_no (b : x < nI 1 ∨ (¬ x < nI 1 ∧ nI 99 < x)) : f_X10_isWorth x σ = some (nI 0, σ) := bit_no b
theorem isSide_ok (h2 : i ≤ 1) : f_X10_isSide (nI i) σ = some (nI 1, σ) := bit_ok (Nat.zero_le _) h2 (by decide)
theorem isSide_no (b : x < nI 0 ∨ (¬ x < nI 0 ∧ nI 1 < x)) : f_X10_isSide x σ = some (nI 0, σ) := bit_no b
theorem isPlace_ok (h2 : i ≤ 11) : f_X10_isPlace (nI i) σ = some (nI 1, σ) := bit_ok (Nat.zero_le _) h2 (by decide)
theorem isPlace_no (b : x < nI 0 ∨ (¬ x < nI 0 ∧ nI 11 < x)) : f_X10_isPlace x σ = some (nI 0, σ) := bit_no b
theorem isShelf_ok (h2 : i ≤ 3) : f_X10_isShelf (nI i) σ = some (nI 1, σ) := bit_ok (Nat.zero_le _) h2 (by decide)
theorem isShelf_no (b : x < nI 0 ∨ (¬ x < nI 0 ∧ nI 3 < x)) : f_X10_isShelf x σ = some (nI 0, σ) := bit_no b
theorem kd_lot (hh : h = 1 ∨ h = 16 ∨ h = 31 ∨ h = 49) (hi : i < 5) : kd (h + 4 + i) = 3 := by
  have : i = 0 ∨ i = 1 ∨ i = 2 ∨ i = 3 ∨ i = 4 := by omega
  rcases hh with rfl | rfl | rfl | rfl <;> rcases this with rfl | rfl | rfl | rfl | rfl <;> decide
theorem kd_bid (hh : h = 1 ∨ h = 16 ∨ h = 31 ∨ h = 49) (hi : i < 6) : kd (h + 9 + i) = 0 := by
  have : i = 0 ∨ i = 1 ∨ i = 2 ∨ i = 3 ∨ i = 4 ∨ i = 5 := by omega
  rcases hh with rfl | rfl | rfl | rfl <;> rcases this with rfl | rfl | rfl | rfl | rfl | rfl <;> decide
theorem grd_lot {β : Type} {z : Option β} (hh : h = 1 ∨ h = 16 ∨ h = 31 ∨ h = 49) (hi : i < 5) : grd (kd (h + 4 + i) = 3) z = z := grd_t (kd_lot hh hi) _
theorem grd_bid {β : Type} {z : Option β} (hh : h = 1 ∨ h = 16 ∨ h = 31 ∨ h = 49) (hi : i < 6) : grd (kd (h + 9 + i) = 0) z = z := grd_t (kd_bid hh hi) _
theorem ixo_h1 (hh : h = 1 ∨ h = 16 ∨ h = 31 ∨ h = 49) (hi : i < 5) : ixo (h + 1) (nI i) = some i := ixo_nI (by rw [(al_lots hh).1]; exact hi) (by omega)
theorem ixo_h2 (hh : h = 1 ∨ h = 16 ∨ h = 31 ∨ h = 49) (hi : i < 6) : ixo (h + 2) (nI i) = some i := ixo_nI (by rw [(al_lots hh).2.1]; exact hi) (by omega)
theorem ixo_h3 (hh : h = 1 ∨ h = 16 ∨ h = 31 ∨ h = 49) (hi : i < 12) : ixo (h + 3) (nI i) = some i := ixo_nI (by rw [(al_lots hh).2.2]; exact hi) (by omega)
theorem h13 (h i : Nat) : h + 1 + 3 + i = h + 4 + i := by omega
theorem h27 (h i : Nat) : h + 2 + 7 + i = h + 9 + i := by omega
end
theorem ltT {a b : Nat} (h : a < b) : (a < b) = True := eq_true h
theorem ltF {a b : Nat} (h : b ≤ a) : (a < b) = False := eq_false (Nat.not_lt.mpr h)
theorem leT {a b : Nat} (h : a ≤ b) : (a ≤ b) = True := eq_true h
theorem leF {a b : Nat} (h : b < a) : (a ≤ b) = False := eq_false (Nat.not_le.mpr h)
theorem eqT {a b : Nat} (h : a = b) : (a = b) = True := eq_true h
theorem eqF {a b : Nat} (h : a < b ∨ b < a) : (a = b) = False := eq_false (by omega)
section
variable {σ σ' : Mem} {h o : Nat} {q q' : HQ}
theorem CHs_c (c : CHs h q σ) (e1 : q'.n = q.n ∧ q'.m = q.m ∧ q'.step = q.step ∧ q'.2 = q.2 ∧ q'.lit = q.lit ∧ q'.tick = q.tick ∧ q'.burnt = q.burnt ∧ q'.high = q.high ∧ q'.holder = q.holder) (e2 : ∀ i, gI σ' h i = gI σ h i) : CHs h q' σ' := by
  obtain ⟨a1, a2, a3, a4, a5, a6, a7, a8, a9⟩ := e1
  unfold CHs at c ⊢
  simp only [e2, a1, a2, a3, a4, a5, a6, a7, a8, a9]
  exact c
theorem CHd_c (c : CHd h q σ) (e1 : ∀ p, q'.dr p = q.dr p) (e2 : ∀ i, gI σ' (h + 3) i = gI σ (h + 3) i) : CHd h q' σ' := by
  intro p hp
  rw [e1, e2]
  exact c p hp
theorem CHl_c (c : CHl h q σ) (hn : q.n ≤ 5) (e0 : q'.n = q.n) (e1 : ∀ i, q'.wax i = q.wax i ∧ q'.worth i = q.worth i ∧ q'.sold i = q.sold i ∧ q'.price i = q.price i ∧ q'.buyer i = q.buyer i) (e2 : ∀ j i, j < 5 → gI σ' (h + 4 + j) i = gI σ (h + 4 + j) i) : CHl h q' σ' := by
  refine ⟨fun i hi => ?_, fun i hi => ?_⟩
  · rw [e0] at hi
    obtain ⟨a1, a2, a3, a4, a5⟩ := e1 i
    rw [e2 _ _ (by omega), e2 _ _ (by omega), e2 _ _ (by omega), e2 _ _ (by omega), e2 _ _ (by omega), a1, a2, a3, a4, a5]
    exact c.1 i hi
  · rw [e2 _ _ (by omega)]
    exact c.2 i hi
theorem CHb_c (c : CHb h q σ) (hm : q.m ≤ 6) (e0 : q'.m = q.m) (e1 : ∀ i, q'.kind i = q.kind i ∧ q'.a i = q.a i ∧ q'.val i = q.val i ∧ q'.purse i = q.purse i) (e2 : ∀ j i, j < 6 → gI σ' (h + 9 + j) i = gI σ (h + 9 + j) i) : CHb h q' σ' := by
  intro i hi
  rw [e0] at hi
  obtain ⟨a1, a2, a3, a4⟩ := e1 i
  rw [e2 _ _ (by omega), e2 _ _ (by omega), e2 _ _ (by omega), e2 _ _ (by omega), a1, a2, a3, a4]
  exact c i hi
theorem MHs_c (c : MHs q σ) (e1 : q'.n = q.n ∧ q'.m = q.m ∧ q'.step = q.step ∧ q'.2 = q.2) (e2 : gI σ' 94 0 = gI σ 94 0 ∧ gI σ' 94 8 = gI σ 94 8 ∧ gI σ' 94 7 = gI σ 94 7 ∧ gI σ' 94 14 = gI σ 94 14) : MHs q' σ' := by
  obtain ⟨a1, a2, a3, a4⟩ := e1
  obtain ⟨b1, b2, b3, b4⟩ := e2
  unfold MHs at c ⊢
  rw [a1, a2, a3, a4, b1, b2, b3, b4]
  exact c
theorem MHr_c (c : MHr o q σ) (e0 : q'.m = q.m) (e1 : q'.lit = q.lit ∧ q'.tick = q.tick ∧ q'.burnt = q.burnt ∧ q'.high = q.high ∧ q'.holder = q.holder) (e3 : ∀ b, q'.purse b = q.purse b) (e2 : ∀ i, gI σ' 104 i = gI σ 104 i) : MHr o q' σ' := by
  obtain ⟨a1, a2, a3, a4, a5⟩ := e1
  unfold MHr at c ⊢
  simp only [e0, a1, a2, a3, a4, a5, e2, e3]
  exact c
theorem MHd_c (c : MHd q σ) (e1 : ∀ p, q'.dr p = q.dr p) (e2 : ∀ i, gI σ' 100 i = gI σ 100 i) : MHd q' σ' := by
  intro p hp
  rw [e1, e2]
  exact c p hp
theorem MHl_c (c : MHl q σ) (e0 : q'.n = q.n) (e1 : ∀ i, q'.wax i = q.wax i ∧ q'.worth i = q.worth i ∧ q'.sold i = q.sold i ∧ q'.price i = q.price i ∧ q'.buyer i = q.buyer i) (e2 : ∀ k i, 95 ≤ k → k ≤ 99 → gI σ' k i = gI σ k i) : MHl q' σ' := by
  intro i hi
  rw [e0] at hi
  obtain ⟨a1, a2, a3, a4, a5⟩ := e1 i
  rw [e2 _ _ (by omega) (by omega), e2 _ _ (by omega) (by omega), e2 _ _ (by omega) (by omega), e2 _ _ (by omega) (by omega), e2 _ _ (by omega) (by omega), a1, a2, a3, a4, a5]
  exact c i hi
theorem MHb_c (c : MHb q σ) (e0 : q'.m = q.m) (e1 : ∀ i, q'.kind i = q.kind i ∧ q'.a i = q.a i ∧ q'.val i = q.val i) (e2 : ∀ k i, 101 ≤ k → k ≤ 103 → gI σ' k i = gI σ k i) : MHb q' σ' := by
  intro i hi
  rw [e0] at hi
  obtain ⟨a1, a2, a3⟩ := e1 i
  rw [e2 _ _ (by omega) (by omega), e2 _ _ (by omega) (by omega), e2 _ _ (by omega) (by omega), a1, a2, a3]
  exact c i hi
end
theorem cE_t {x : Nat} (h : x = 9) : cE x = -nI 9 := by rw [h]; rfl
theorem cE_f {x : Nat} (h : x < 9 ∨ 9 < x) : cE x = nI x := if_neg (by omega)
theorem mE_t {x : Nat} (h : x = 9) : mE x = -nI 1 := by rw [h]; rfl
theorem mE_f {x : Nat} (h : x < 9 ∨ 9 < x) : mE x = nI x := if_neg (by omega)
theorem bad_ne {x : Int32} {lo hi k : Nat} (b : x < nI lo ∨ (¬ x < nI lo ∧ nI hi < x)) (h1 : lo ≤ k) (h2 : k ≤ hi) (hb : hi < 2147483648) : (x = nI k) = False := by
  apply eq_false
  rintro rfl
  rw [nI_ltE (by omega) (by omega), nI_ltE (by omega) (by omega)] at b
  omega
def qz (q : HQ) (v : Int32) : HQ := (q.1, v)
theorem acc_loop {F : (Int32 → Int32 → Mem → Option (Int32 × Mem)) → Int32 → Int32 → Mem → Option (Int32 × Mem)} {bot : Int32 → Int32 → Mem → Option (Int32 × Mem)} (t : Nat → Int32) (N : Nat) (σ : Mem) (hs : ∀ rec v i, i < N → F rec v (nI i) σ = rec (v + t i) (nI (i + 1)) σ) (he : ∀ rec v, F rec v (nI N) σ = some (v, σ)) :
    ∀ (k i : Nat) (v : Int32) (fuel : Nat), i + k = N → k < fuel → iterF F bot fuel v (nI i) σ = some ((List.range' i k).foldl (fun v i => v + t i) v, σ) := by
  intro k
  induction k with
  | zero =>
    intro i v fuel hi hf
    obtain ⟨f, rfl⟩ : ∃ f, fuel = f + 1 := ⟨fuel - 1, by omega⟩
    have : i = N := by omega
    subst this
    exact he _ _
  | succ k ih =>
    intro i v fuel hi hf
    obtain ⟨f, rfl⟩ : ∃ f, fuel = f + 1 := ⟨fuel - 1, by omega⟩
    have h1 := ih (i + 1) (v + t i) f (by omega) (by omega)
    exact (hs _ _ _ (by omega)).trans h1
