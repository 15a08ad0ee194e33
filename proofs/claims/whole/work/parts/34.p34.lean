/-! what both hold beside the hall: tape, rows, deed, sheets, shelves, kept, flags -/
def bI (t : Nat) : Int32 := if t < 128 then nI t else -nI (256 - t)
def RT (σ : Mem) : Prop := ∃ n, n ≤ 200 ∧ gI σ 46 1 = nI n ∧ gI σ 94 16 = nI n ∧ ∀ i, i < n → ∃ t, t < 256 ∧ gI σ 105 i = nI t ∧ gI σ 47 i = bI t
def RR (σ : Mem) : Prop := ∃ c, c ≤ 20 ∧ gI σ 74 1 = nI c ∧ gI σ 94 45 = nI c ∧ ∀ j, j < 3 * c → gI σ 75 j = gI σ 117 j
def RD (σ : Mem) : Prop := ∃ c, c ≤ 30 ∧ gI σ 80 1 = nI c ∧ gI σ 94 56 = nI c ∧ ∀ j, j < c → gI σ 81 j = gI σ 124 j
def RS (σ : Mem) : Prop := ∀ s, s < 4 → ((gI σ (82 + 2 * s) 1 = -1 ∧ gI σ 118 s = -1) ∨ ∃ t, t ≤ 3 ∧ gI σ (82 + 2 * s) 1 = nI t ∧ gI σ 118 s = nI t) ∧ (∃ n, n ≤ 40 ∧ gI σ (82 + 2 * s) 2 = nI n ∧ gI σ 119 s = nI n) ∧ ∀ i, i < 40 → gL σ 120 (40 * s + i) = (gI σ (83 + 2 * s) i).toInt64
def RH (σ : Mem) : Prop := ∀ s, s < 4 → (gI σ (90 + s) 0 = -9 ∧ gI σ (90 + s) 1 = -1 ∧ gI σ 121 s = -1) ∨ (∃ b, b < 6 ∧ gI σ (90 + s) 0 = nI b ∧ gI σ (90 + s) 1 = -1 ∧ gI σ 121 s = 0 ∧ gI σ 122 s = nI b) ∨ (∃ t n, t ≤ 3 ∧ n ≤ 40 ∧ gI σ (90 + s) 1 = nI t ∧ gI σ (90 + s) 2 = nI n ∧ gI σ 121 s = 1 ∧ gI σ 122 s = nI t ∧ gI σ 123 s = nI n)
def KM (q : HQ) (σ : Mem) : Prop := (gI σ 125 0 = nI q.n ∧ gI σ 125 1 = nI q.m ∧ gI σ 125 2 = nI q.step ∧ gI σ 125 3 = q.2) ∧ (∀ i, i < q.n → gI σ 125 (4 + i) = nI (q.wax i) ∧ gI σ 125 (9 + i) = nI (q.worth i) ∧ gI σ 125 (14 + i) = nI (q.sold i) ∧ (q.sold i = 1 → gI σ 125 (19 + i) = nI (q.price i) ∧ gI σ 125 (24 + i) = mE (q.buyer i))) ∧ (∀ p, p < 12 → gI σ 125 (29 + p) = nI (q.dr p)) ∧ (∀ b, b < q.m → gI σ 125 (41 + b) = nI (q.kind b) ∧ gI σ 125 (47 + b) = nI (q.a b) ∧ gI σ 125 (53 + b) = nI (q.val b)) ∧ (gI σ 125 59 = mE q.lit ∧ gI σ 125 60 = nI q.tick ∧ gI σ 125 61 = nI q.burnt ∧ gI σ 125 62 = nI q.high ∧ gI σ 125 63 = mE q.holder) ∧ ∀ b, b < q.m → gI σ 125 (64 + b) = nI (q.purse b)
def RK (σ : Mem) : Prop := (gI σ 0 2 = 0 ∧ gI σ 94 58 = 0) ∨ (gI σ 0 2 = 1 ∧ gI σ 94 58 = 1 ∧ ∃ q : HQ, q.Ok ∧ CH 16 q σ ∧ KM q σ)
def RF (σ : Mem) : Prop := (∀ i, i < 5 → gI σ (35 + i) 2 = 0 ∨ gI σ (35 + i) 2 = 1) ∧ gI σ 73 0 = 0
abbrev Lg : Type := Nat × (Nat → Nat)
def LM (g : Lg) (σ : Mem) : Prop := g.1 ≤ 20 ∧ gI σ 94 35 = nI g.1 ∧ ∀ j, j < 3 * g.1 → gI σ 113 j = nI (g.2 j)
def RG (σ : Mem) : Prop := ∃ g, LM g σ
def R1 (σ : Mem) : Prop := RT σ ∧ RR σ ∧ RD σ ∧ RS σ ∧ RH σ ∧ RK σ ∧ RF σ ∧ RG σ
def R0 (σ : Mem) : Prop := gI σ 94 13 = 0 ∧ gI σ 94 33 = -1
def Inv (q : HQ) (σ : Mem) : Prop := q.Ok ∧ CH 1 q σ ∧ MH 0 q σ ∧ R0 σ ∧ R1 σ
def OpOk (f g : Mem → Option (Int32 × Mem)) (σ : Mem) : Prop := ∃ (r : Int32) (σ1 σ2 : Mem) (q' : HQ), f σ = some (r, σ1) ∧ g σ1 = some (r, σ2) ∧ Inv q' σ2
section
variable {σ σ' : Mem}
theorem RT_fr (h : RT σ) (e : ∀ k i, ((k = 46 ∧ i = 1) ∨ k = 47 ∨ (k = 94 ∧ i = 16) ∨ k = 105) → gI σ' k i = gI σ k i) : RT σ' := by
  obtain ⟨n, h1, h2, h3, h4⟩ := h
  refine ⟨n, h1, ?_, ?_, fun i hi => ?_⟩
  · rw [e _ _ (by omega)]; exact h2
  · rw [e _ _ (by omega)]; exact h3
  · rw [e _ _ (by omega), e _ _ (by omega)]; exact h4 i hi
theorem RR_fr (h : RR σ) (e : ∀ k i, ((k = 74 ∧ i = 1) ∨ k = 75 ∨ (k = 94 ∧ i = 45) ∨ k = 117) → gI σ' k i = gI σ k i) : RR σ' := by
  obtain ⟨n, h1, h2, h3, h4⟩ := h
  refine ⟨n, h1, ?_, ?_, fun i hi => ?_⟩
  · rw [e _ _ (by omega)]; exact h2
  · rw [e _ _ (by omega)]; exact h3
  · rw [e _ _ (by omega), e _ _ (by omega)]; exact h4 i hi
theorem RD_fr (h : RD σ) (e : ∀ k i, ((k = 80 ∧ i = 1) ∨ k = 81 ∨ (k = 94 ∧ i = 56) ∨ k = 124) → gI σ' k i = gI σ k i) : RD σ' := by
  obtain ⟨n, h1, h2, h3, h4⟩ := h
  refine ⟨n, h1, ?_, ?_, fun i hi => ?_⟩
  · rw [e _ _ (by omega)]; exact h2
  · rw [e _ _ (by omega)]; exact h3
  · rw [e _ _ (by omega), e _ _ (by omega)]; exact h4 i hi
theorem RS_fr (h : RS σ) (e : ∀ k i, ((82 ≤ k ∧ k ≤ 89) ∨ (118 ≤ k ∧ k ≤ 119)) → gI σ' k i = gI σ k i) (g : σ'.2 = σ.2) : RS σ' := by
  intro s hs
  obtain ⟨h1, h2, h3⟩ := h s hs
  have g' : ∀ k i, gL σ' k i = gL σ k i := fun k i => by unfold gL; rw [g]
  refine ⟨?_, ?_, fun i hi => ?_⟩
  · rw [e _ _ (by omega), e _ _ (by omega)]; exact h1
  · rw [e _ _ (by omega), e _ _ (by omega)]; exact h2
  · rw [g', e _ _ (by omega)]; exact h3 i hi
theorem RH_fr (h : RH σ) (e : ∀ k i, ((90 ≤ k ∧ k ≤ 93) ∨ (121 ≤ k ∧ k ≤ 123)) → gI σ' k i = gI σ k i) : RH σ' := by
  intro s hs
  have h1 := h s hs
  rw [e _ _ (by omega), e _ _ (by omega), e _ _ (by omega), e _ _ (by omega), e _ _ (by omega), e _ _ (by omega)]
  exact h1
theorem CHs_fr {h : Nat} {q : HQ} (c : CHs h q σ) (e : ∀ i, gI σ' h i = gI σ h i) : CHs h q σ' := by
  unfold CHs at c ⊢
  simp only [e]
  exact c
theorem CHd_fr {h : Nat} {q : HQ} (c : CHd h q σ) (e : ∀ i, gI σ' (h + 3) i = gI σ (h + 3) i) : CHd h q σ' := by
  unfold CHd at c ⊢
  simp only [e]
  exact c
theorem CHl_fr {h : Nat} {q : HQ} (o : q.n ≤ 5) (c : CHl h q σ) (e : ∀ j i, j < 5 → gI σ' (h + 4 + j) i = gI σ (h + 4 + j) i) : CHl h q σ' := by
  refine ⟨fun i hi => ?_, fun i hi => ?_⟩
  · rw [e _ _ (by omega), e _ _ (by omega), e _ _ (by omega), e _ _ (by omega), e _ _ (by omega)]; exact c.1 i hi
  · rw [e _ _ (by omega)]; exact c.2 i hi
theorem CHb_fr {h : Nat} {q : HQ} (o : q.m ≤ 6) (c : CHb h q σ) (e : ∀ j i, j < 6 → gI σ' (h + 9 + j) i = gI σ (h + 9 + j) i) : CHb h q σ' := by
  intro i hi
  rw [e _ _ (by omega), e _ _ (by omega), e _ _ (by omega), e _ _ (by omega)]; exact c i hi
theorem CH_fr {h : Nat} {q : HQ} (o : q.Ok) (c : CH h q σ) (e : ∀ k i, h ≤ k → k < h + 15 → gI σ' k i = gI σ k i) : CH h q σ' :=
  ⟨CHs_fr c.1 (fun i => e _ _ (by omega) (by omega)), CHd_fr c.2.1 (fun i => e _ _ (by omega) (by omega)), CHl_fr o.1.1 c.2.2.1 (fun j i hj => e _ _ (by omega) (by omega)), CHb_fr o.2.1.1 c.2.2.2 (fun j i hj => e _ _ (by omega) (by omega))⟩
theorem KM_fr {q : HQ} (c : KM q σ) (e : ∀ i, gI σ' 125 i = gI σ 125 i) : KM q σ' := by
  unfold KM at c ⊢
  simp only [e]
  exact c
theorem RK_fr (h : RK σ) (e : ∀ k i, ((k = 0 ∧ i = 2) ∨ (16 ≤ k ∧ k ≤ 30) ∨ (k = 94 ∧ i = 58) ∨ k = 125) → gI σ' k i = gI σ k i) : RK σ' := by
  unfold RK
  rw [e 0 2 (by omega), e 94 58 (by omega)]
  rcases h with h | ⟨h1, h2, q, h3, h4, h5⟩
  · exact .inl h
  · exact .inr ⟨h1, h2, q, h3, CH_fr h3 h4 (fun k i _ _ => e _ _ (by omega)), KM_fr h5 (fun i => e _ _ (by omega))⟩
theorem RF_fr (h : RF σ) (e : ∀ k i, ((35 ≤ k ∧ k ≤ 39) ∨ (k = 73 ∧ i = 0)) → gI σ' k i = gI σ k i) : RF σ' := by
  refine ⟨fun i hi => ?_, ?_⟩
  · rw [e _ _ (by omega)]
    exact h.1 i hi
  · rw [e _ _ (by omega)]
    exact h.2
theorem LM_fr {g : Lg} (h : LM g σ) (e : ∀ k i, ((k = 94 ∧ i = 35) ∨ k = 113) → gI σ' k i = gI σ k i) : LM g σ' := by
  obtain ⟨h1, h2, h3⟩ := h
  refine ⟨h1, ?_, fun j hj => ?_⟩
  · rw [e _ _ (by omega)]; exact h2
  · rw [e _ _ (by omega)]; exact h3 j hj
theorem RG_fr (h : RG σ) (e : ∀ k i, ((k = 94 ∧ i = 35) ∨ k = 113) → gI σ' k i = gI σ k i) : RG σ' := by
  obtain ⟨g, h⟩ := h
  exact ⟨g, LM_fr h e⟩
/-- what a call about the hall alone may write -/
def WH (k i : Nat) : Prop := (1 ≤ k ∧ k ≤ 15) ∨ (48 ≤ k ∧ k ≤ 72) ∨ (k = 73 ∧ i ≠ 0) ∨ k = 76 ∨ k = 77 ∨ (k = 94 ∧ ¬ (i = 16 ∨ i = 45 ∨ i = 56 ∨ i = 58 ∨ i = 35)) ∨ (95 ≤ k ∧ k ≤ 104) ∨ (106 ≤ k ∧ k ≤ 112) ∨ (114 ≤ k ∧ k ≤ 116)
def WG (k i : Nat) : Prop := WH k i ∨ k = 113 ∨ (k = 94 ∧ i = 35)
theorem R1_fr (h : R1 σ) (f : Fr WH σ σ') : R1 σ' := by
  obtain ⟨h1, h2, h3, h4, h5, h6, h7, h8⟩ := h
  refine ⟨RT_fr h1 fun k i c => f.1 k i ?_, RR_fr h2 fun k i c => f.1 k i ?_, RD_fr h3 fun k i c => f.1 k i ?_, RS_fr h4 (fun k i c => f.1 k i ?_) f.2, RH_fr h5 fun k i c => f.1 k i ?_, RK_fr h6 fun k i c => f.1 k i ?_, RF_fr h7 fun k i c => f.1 k i ?_, RG_fr h8 fun k i c => f.1 k i ?_⟩ <;> (unfold WH; omega)
theorem R1_frg (h : R1 σ) (f : Fr WG σ σ') (g : RG σ') : R1 σ' := by
  obtain ⟨h1, h2, h3, h4, h5, h6, h7, h8⟩ := h
  refine ⟨RT_fr h1 fun k i c => f.1 k i ?_, RR_fr h2 fun k i c => f.1 k i ?_, RD_fr h3 fun k i c => f.1 k i ?_, RS_fr h4 (fun k i c => f.1 k i ?_) f.2, RH_fr h5 fun k i c => f.1 k i ?_, RK_fr h6 fun k i c => f.1 k i ?_, RF_fr h7 fun k i c => f.1 k i ?_, g⟩ <;> (unfold WG WH; omega)
end
theorem within_ok {n lo hi : Nat} (σ : Mem) (h1 : lo ≤ n) (h2 : n ≤ hi) (hb : hi < 2147483648) : f_X9_within (nI n) (nI lo) (nI hi) σ = some (nI 1, σ) := by
  unfold f_X9_within
  rw [if_neg (by rw [nI_ltE (by omega) (by omega)]; omega), if_neg (by rw [nI_ltE (by omega) (by omega)]; omega)]
  rfl
theorem within_no {x lo hi : Int32} (σ : Mem) (h : x < lo ∨ (¬ x < lo ∧ hi < x)) : f_X9_within x lo hi σ = some (nI 0, σ) := by
  unfold f_X9_within
  rcases h with h | ⟨h, g⟩
  · rw [if_pos h]; rfl
  · rw [if_neg h, if_pos g]; rfl
theorem in_eq : f_X10_in = f_X9_within := rfl
theorem nI10 : (nI 1 = nI 0) = False := by rw [nI_eqE (by omega) (by omega)]; simp
