section
variable {q : HQ} {σ : Mem} {h o b v l s : Nat}
theorem payq_k (x : HQ) {f : Nat} (i : Nat) (hf : f ≠ 10) : (payq x).1 f i = x.1 f i ∧ (payq x).2 = x.2 := by
  unfold payq
  split
  · exact ⟨rfl, rfl⟩
  · exact ⟨if_neg (by omega), rfl⟩
theorem sellq_k (x : HQ) {f : Nat} (i : Nat) (h1 : ¬ (3 ≤ f ∧ f ≤ 5)) (h2 : f ≠ 10) (h3 : ¬ (13 ≤ f ∧ f ≤ 17)) : (sellq x).1 f i = x.1 f i ∧ (sellq x).2 = x.2 := by
  have p := payq_k (soldq x) i h2
  refine ⟨?_, p.2⟩
  show (if f = 17 ∧ i = 0 then 9 else if f = 16 ∧ i = 0 then 0 else if f = 15 ∧ i = 0 then 0 else if f = 14 ∧ i = 0 then 0 else if f = 13 ∧ i = 0 then 9 else (payq (soldq x)).1 f i) = _
  rw [if_neg (by omega), if_neg (by omega), if_neg (by omega), if_neg (by omega), if_neg (by omega), p.1]
  show (if f = 5 ∧ i = x.lit then _ else if f = 4 ∧ i = x.lit then _ else if f = 3 ∧ i = x.lit then _ else x.1 f i) = _
  rw [if_neg (by omega), if_neg (by omega), if_neg (by omega)]
theorem sellq_p (x : HQ) (i : Nat) : (sellq x).purse i = (payq x).purse i := by
  show (payq (soldq x)).purse i = _
  exact payq_purse (x := soldq x) (y := x) rfl rfl (fun _ => rfl) i
def S18 (q x : HQ) : Prop := ∀ f, 18 ≤ f → x.1 f 0 = q.1 f 0
theorem nx_pay {P : Nat → Nat} {x : HQ} (hx : Stg q P x) (h18 : S18 q x) (l : Nat) (g : Lg) : Stg q (nxP q P l) (payq (runR 9 60 (lits x l, g)).2.1) ∧ S18 q (payq (runR 9 60 (lits x l, g)).2.1) ∧ (runR 9 60 (lits x l, g)).2.1.high = hiP q P l ∧ (runR 9 60 (lits x l, g)).2.1.holder = (fin (wiP q P) 9 l).holder := by
  have e := like_run hx h18 l g
  have f := forg_f e
  have kp : ∀ f i, (f < 13 ∨ 17 < f) → (runR 9 60 (lits x l, g)).2.1.1 f i = x.1 f i := fun f i hf => by
    rw [(run_k (s := 9) (f := f) (i := i) (by omega) 60 (lits x l, g)).1]
    show (if f = 17 ∧ i = 0 then 9 else if f = 16 ∧ i = 0 then 0 else if f = 15 ∧ i = 0 then 0 else if f = 14 ∧ i = 0 then 0 else if f = 13 ∧ i = 0 then l else x.1 f i) = _
    rw [if_neg (by omega), if_neg (by omega), if_neg (by omega), if_neg (by omega), if_neg (by omega)]
  have k2 := (run_k (s := 9) (f := 0) (i := 0) (by omega) 60 (lits x l, g)).2
  generalize (runR 9 60 (lits x l, g)).2.1 = y at *
  refine ⟨⟨fun f i h1 h2 h3 => ?_, ?_, fun i => ?_⟩, fun f hf => ?_, f.2.2.2.2.2.1, f.2.2.2.2.2.2.1⟩
  · rw [(payq_k y i h2).1, kp f i (by omega)]
    exact hx.1 f i h1 h2 h3
  · rw [(payq_k y 0 (f := 0) (by omega)).2, k2]
    exact hx.2.1
  · exact payq_purse f.2.2.2.2.2.2.1 f.2.2.2.2.2.1 f.2.2.2.2.2.2.2.2.2 i
  · rw [(payq_k y 0 (by omega : f ≠ 10)).1, kp f 0 (by omega)]
    exact h18 f hf
theorem nx_sell {P : Nat → Nat} {x : HQ} (hx : Stg q P x) (h18 : S18 q x) (l : Nat) : Stg q (nxP q P l) (sellq (fin x 9 l)) ∧ S18 q (sellq (fin x 9 l)) ∧ (fin x 9 l).high = hiP q P l := by
  obtain ⟨⟨a1, a2, a3⟩, a4, a5, a6⟩ := nx_pay hx h18 l lg0
  have a1 : ∀ f i, ¬ (3 ≤ f ∧ f ≤ 5) → f ≠ 10 → ¬ (13 ≤ f) → (payq (fin x 9 l)).1 f i = q.1 f i := a1
  have a2 : (payq (fin x 9 l)).2 = q.2 := a2
  have a3 : ∀ i, (payq (fin x 9 l)).purse i = nxP q P l i := a3
  have a4 : S18 q (payq (fin x 9 l)) := a4
  have a5 : (fin x 9 l).high = hiP q P l := a5
  generalize fin x 9 l = y at *
  refine ⟨⟨fun f i h1 h2 h3 => ?_, ?_, fun i => ?_⟩, fun f hf => ?_, a5⟩
  · rw [(sellq_k y i h1 h2 (by omega)).1, ← (payq_k y i h2).1]; exact a1 f i h1 h2 h3
  · rw [(sellq_k y 0 (f := 0) (by omega) (by omega) (by omega)).2, ← (payq_k y 0 (f := 0) (by omega)).2]; exact a2
  · rw [sellq_p]; exact a3 i
  · rw [(sellq_k y 0 (by omega) (by omega) (by omega)).1, ← (payq_k y 0 (by omega : f ≠ 10)).1]; exact a4 f hf
/-! orders by number -/
theorem ff_lt {u N : Nat} : ∀ (n p f : Nat), ffOk u N n p f = true → ff u n p f < N := by
  intro n
  induction n with
  | zero => intro p f h; exact absurd h (by unfold ffOk; decide)
  | succ n ih =>
    intro p f h
    unfold ffOk at h
    rw [Bool.and_eq_true, decide_eq_true_eq] at h
    obtain ⟨h1, h2⟩ := h
    unfold ff
    by_cases z : u / 2 ^ f % 2 = 1
    · rw [if_pos z] at h2 ⊢; exact ih p (f + 1) h2
    · rw [if_neg z] at h2 ⊢
      by_cases y : p = 0
      · rw [if_pos y]; exact h1
      · rw [if_neg y] at h2 ⊢; exact ih (p - 1) (f + 1) h2
def wrO (p2 : Int32) (u : Nat) (o : Int32) (i : Nat) (R : Int32 → Int32 → Int32 → Int32 → Mem → Option Mem) (f : Nat) (σ : Mem) : Option Mem := R p2 (nI (u ||| 2 ^ f)) o (nI (i + 1)) (pI σ 115 i (gI σ 114 f))
theorem ff_step {u N i p f : Nat} {p2 : Int32} {R : Int32 → Int32 → Int32 → Int32 → Mem → Option Mem} (hN : N ≤ 5) (hu : u < 32) (hi : i < 5) (hf : f < N) (hp : p ≤ 1000) (rec2 : Int32 → Int32 → Mem → Option Mem) : F_X10_findOrder_89 94 p2 (nI u) (nI i) R rec2 (nI p) (nI f) σ = (if u / 2 ^ f % 2 = 1 then rec2 (nI p) (nI (f + 1)) σ else if p = 0 then wrO p2 u (nI 1) i R f σ else rec2 (nI (p - 1)) (nI (f + 1)) σ) ∧ ∀ p4 : Int32, F_X10_findOrder_89x1 94 p2 (nI u) p4 (nI i) R rec2 (nI p) (nI f) σ = (if u / 2 ^ f % 2 = 1 then rec2 (nI p) (nI (f + 1)) σ else if p = 0 then wrO p2 u p4 i R f σ else rec2 (nI (p - 1)) (nI (f + 1)) σ) := by
  have B := bit_and u hu f (by omega)
  have O := bit_or u hu f (by omega)
  have i1 : ixo (94 + 20) (nI f) = some f := ixo_114 (by omega)
  have i2 : ixo (94 + 21) (nI i) = some i := ixo_115 (by omega)
  have s0 : nI p - (0 : Int32) = nI p := by rw [nI_lit 0, nI_subE (Nat.zero_le p)]; rfl
  have f1 : nI f + (1 : Int32) = nI (f + 1) := nI_addE f 1
  have e1 : nI i + (1 : Int32) = nI (i + 1) := nI_addE i 1
  have bc : u / 2 ^ f % 2 = 0 ∨ u / 2 ^ f % 2 = 1 := by omega
  have n01 : ¬ (nI 0 = (1 : Int32)) := by decide
  have n11 : nI 1 = (1 : Int32) := rfl
  constructor
  · unfold F_X10_findOrder_89
    rw [B]
    rcases bc with z | z
    · rw [z, if_neg n01, if_neg n01, if_neg (by decide : ¬ (0 : Nat) = 1)]
      by_cases y : p = 0
      · subst y
        rw [if_pos (by rw [nI_lit 0, nI_leE (by omega) (by omega)]; omega), i1, bd1_s, i2, bd1_s, bd1_s, O, e1, if_pos rfl]
        rfl
      · rw [if_neg (by rw [nI_lit 0, nI_leE (by omega) (by omega)]; omega), if_neg y, f1, nI_lit 1, nI_subE (by omega)]
    · rw [z, if_pos n11, if_pos n11, if_pos rfl, s0, f1]
  · intro p4
    unfold F_X10_findOrder_89x1
    rw [B]
    rcases bc with z | z
    · rw [z, if_neg n01, if_neg n01, if_neg (by decide : ¬ (0 : Nat) = 1)]
      by_cases y : p = 0
      · subst y
        rw [if_pos (by rw [nI_lit 0, nI_leE (by omega) (by omega)]; omega), i1, bd1_s, i2, bd1_s, bd1_s, O, e1, if_pos rfl]
        rfl
      · rw [if_neg (by rw [nI_lit 0, nI_leE (by omega) (by omega)]; omega), if_neg y, f1, nI_lit 1, nI_subE (by omega)]
    · rw [z, if_pos n11, if_pos n11, if_pos rfl, s0, f1]
theorem ff_loop {u N i : Nat} {p2 p4 : Int32} {R : Int32 → Int32 → Int32 → Int32 → Mem → Option Mem} (hN : N ≤ 5) (hu : u < 32) (hi : i < 5) : ∀ (n p f fuel : Nat), ffOk u N n p f = true → n ≤ fuel → p ≤ 1000 → iterF (F_X10_findOrder_89 94 p2 (nI u) (nI i) R) (fun _ _ _ => none) fuel (nI p) (nI f) σ = wrO p2 u (nI 1) i R (ff u n p f) σ ∧ iterF (F_X10_findOrder_89x1 94 p2 (nI u) p4 (nI i) R) (fun _ _ _ => none) fuel (nI p) (nI f) σ = wrO p2 u p4 i R (ff u n p f) σ := by
  intro n
  induction n with
  | zero => intro p f fuel h; exact absurd h (by unfold ffOk; decide)
  | succ n ih =>
    intro p f fuel h hf hp
    obtain ⟨k, rfl⟩ : ∃ k, fuel = k + 1 := ⟨fuel - 1, by omega⟩
    unfold ffOk at h
    rw [Bool.and_eq_true, decide_eq_true_eq] at h
    obtain ⟨h1, h2⟩ := h
    obtain ⟨S1, S2⟩ := ff_step (σ := σ) (p2 := p2) (R := R) hN hu hi h1 hp (iterF (F_X10_findOrder_89 94 p2 (nI u) (nI i) R) (fun _ _ _ => none) k)
    obtain ⟨-, S2⟩ := ff_step (σ := σ) (p2 := p2) (R := R) hN hu hi h1 hp (iterF (F_X10_findOrder_89x1 94 p2 (nI u) p4 (nI i) R) (fun _ _ _ => none) k)
    have S2 := S2 p4
    have g1 : iterF (F_X10_findOrder_89 94 p2 (nI u) (nI i) R) (fun _ _ _ => none) (k + 1) (nI p) (nI f) σ = F_X10_findOrder_89 94 p2 (nI u) (nI i) R (iterF (F_X10_findOrder_89 94 p2 (nI u) (nI i) R) (fun _ _ _ => none) k) (nI p) (nI f) σ := rfl
    have g2 : iterF (F_X10_findOrder_89x1 94 p2 (nI u) p4 (nI i) R) (fun _ _ _ => none) (k + 1) (nI p) (nI f) σ = F_X10_findOrder_89x1 94 p2 (nI u) p4 (nI i) R (iterF (F_X10_findOrder_89x1 94 p2 (nI u) p4 (nI i) R) (fun _ _ _ => none) k) (nI p) (nI f) σ := rfl
    rw [g1, g2, S1, S2]
    unfold ff
    by_cases z : u / 2 ^ f % 2 = 1
    · rw [if_pos z] at h2
      rw [if_pos z, if_pos z, if_pos z]; exact ih p (f + 1) k h2 (by omega) hp
    · rw [if_neg z] at h2
      rw [if_neg z, if_neg z, if_neg z]
      by_cases y : p = 0
      · rw [if_pos y, if_pos y, if_pos y]; exact ⟨rfl, rfl⟩
      · rw [if_neg y] at h2
        rw [if_neg y, if_neg y, if_neg y]; exact ih (p - 1) (f + 1) k h2 (by omega) (by omega)
theorem fo_loop {N : Nat} {F : Nat → Nat} (hN : N ≤ 5) : ∀ (d i k u o : Nat) (σ : Mem) (fuel : Nat), i + d = N → d < fuel → foOk N d i k u o = true → k ≤ 1000 → gI σ 94 42 = nI N → (∀ f, f < N → gI σ 114 f = nI (F f)) → ∃ σ', iterF (F_X10_findOrder_35 94) (fun _ _ _ _ _ => none) fuel (nI k) (nI u) (nI o) (nI i) σ = some σ' ∧ (∀ j, j < d → gI σ' 115 (i + j) = nI (F ((foR N d i k u o).getD j 0))) ∧ (∀ j, j < i → gI σ' 115 j = gI σ 115 j) ∧ Fr (fun c _ => c = 115) σ σ' := by
  intro d
  induction d with
  | zero =>
    intro i k u o σ fuel hi hf h hk e1 e2
    obtain ⟨f, rfl⟩ : ∃ f, fuel = f + 1 := ⟨fuel - 1, by omega⟩
    refine ⟨σ, ?_, fun j hj => absurd hj (Nat.not_lt_zero j), fun j _ => rfl, Fr_rfl _ _⟩
    show F_X10_findOrder_35 94 _ _ _ _ _ _ = _
    unfold F_X10_findOrder_35
    rw [e1, if_pos (by rw [nI_leE (by omega) (by omega)]; omega)]
  | succ d ih =>
    intro i k u o σ fuel hi hf h hk e1 e2
    obtain ⟨f, rfl⟩ : ∃ f, fuel = f + 1 := ⟨fuel - 1, by omega⟩
    unfold foOk at h
    rw [Bool.and_eq_true, Bool.and_eq_true, Bool.and_eq_true, Bool.and_eq_true, decide_eq_true_eq, decide_eq_true_eq, decide_eq_true_eq] at h
    obtain ⟨⟨⟨⟨h1, h2⟩, h3⟩, h4⟩, h5⟩ := h
    have kd' : k / o ≤ k := Nat.div_le_self k o
    have km : k % o ≤ k := Nat.mod_le k o
    have fl := ff_lt _ _ _ h4
    have i2 := e2 _ fl
    obtain ⟨σ', r1, r2, r3, r4⟩ := ih (i + 1) (k % o) (u ||| 2 ^ ff u 6 (k / o) 0) (nxO N i o) (pI σ 115 i (nI (F (ff u 6 (k / o) 0)))) f (by omega) (by omega) h5 (by omega) ((gI_ne _ _ (by omega)).trans e1) (fun g hg => (gI_ne _ _ (by omega)).trans (e2 g hg))
    refine ⟨σ', Eq.trans ?_ r1, fun j hj => ?_, fun j hj => ?_, Fr_tr (Fr_pI _ (Fr_rfl _ _) rfl) r4⟩
    · show F_X10_findOrder_35 94 (iterF (F_X10_findOrder_35 94) (fun _ _ _ _ _ => none) f) _ _ _ _ _ = _
      generalize iterF (F_X10_findOrder_35 94) (fun _ _ _ _ _ => none) f = R
      have no : ¬ (nI o = (0 : Int32)) := by rw [nI_lit 0, nI_eqE (by omega) (by omega)]; omega
      have eN : nI N - (1 : Int32) - nI i = nI (N - 1 - i) := by rw [nI_lit 1, nI_subE (by omega), nI_subE (by omega)]
      have er : nI k - nI k / nI o * nI o = nI (k % o) := nI_remE (by omega) (by omega) (by omega)
      have ed : nI k / nI o = nI (k / o) := nI_divE (by omega) (by omega) (by omega)
      unfold F_X10_findOrder_35
      rw [e1, if_neg (by rw [nI_leE (by omega) (by omega)]; omega), grd_t no, grd_t no, eN, er, ed]
      by_cases z : N - 1 - i ≤ 1
      · have L := (ff_loop (σ := σ) (p2 := nI (k % o)) (p4 := nI 1) (R := R) hN h3 (by omega : i < 5) 6 (k / o) 0 FU h4 (by show 6 ≤ 1000; omega) (by omega)).1
        have nx : nxO N i o = 1 := if_pos z
        rw [if_pos (by rw [nI_lit 1, nI_leE (by omega) (by omega)]; exact z)]
        refine Eq.trans L ?_
        unfold wrO
        rw [nx, i2]
      · have nx : nxO N i o = o / (N - 1 - i) := if_neg z
        have L := (ff_loop (σ := σ) (p2 := nI (k % o)) (p4 := nI (nxO N i o)) (R := R) hN h3 (by omega : i < 5) 6 (k / o) 0 FU h4 (by show 6 ≤ 1000; omega) (by omega)).2
        rw [if_neg (by rw [nI_lit 1, nI_leE (by omega) (by omega)]; exact z), grd_t (by rw [nI_lit 0, nI_eqE (by omega) (by omega)]; omega), nI_divE (by omega) (by omega) (by omega), ← nx]
        refine Eq.trans L ?_
        unfold wrO
        rw [i2]
    · cases j with
      | zero =>
        rw [Nat.add_zero, r3 i (by omega), gI_eq _ _ ⟨rfl, rfl⟩]
        rfl
      | succ j =>
        have := r2 j (by omega)
        have e3 : i + 1 + j = i + (j + 1) := by omega
        rw [e3] at this
        exact this
    · rw [r3 j (by omega), gI_ne _ _ (by omega)]
theorem fc_loop {N k : Nat} (hN : N ≤ 5) (e1 : gI σ 94 42 = nI N) : ∀ (d i o fuel : Nat), d = N - i → i ≤ 6 → d < fuel → iterF (F_X10_findOrder_10 94 (nI k)) (fun _ _ _ => none) fuel (nI o) (nI i) σ = iterF (F_X10_findOrder_35 94) (fun _ _ _ _ _ => none) FU (nI k) (nI 0) (nI (fcR d i o)) (nI 0) σ := by
  intro d
  induction d with
  | zero =>
    intro i o fuel hi h6 hf
    obtain ⟨f, rfl⟩ : ∃ f, fuel = f + 1 := ⟨fuel - 1, by omega⟩
    show F_X10_findOrder_10 94 _ _ _ _ _ = _
    unfold F_X10_findOrder_10
    rw [e1, if_pos (by rw [nI_leE (by omega) (by omega)]; omega)]
    rfl
  | succ d ih =>
    intro i o fuel hi h6 hf
    obtain ⟨f, rfl⟩ : ∃ f, fuel = f + 1 := ⟨fuel - 1, by omega⟩
    refine Eq.trans ?_ (ih (i + 1) (o * i) f (by omega) (by omega) (by omega))
    show F_X10_findOrder_10 94 _ _ _ _ _ = _
    unfold F_X10_findOrder_10
    rw [e1, if_neg (by rw [nI_leE (by omega) (by omega)]; omega), nI_mulE, nI_lit 1, nI_addE]
theorem chk_p {N k : Nat} (h : chk N k = true) : foOk N N 0 k 0 (fcR (N - 2) 2 1) = true ∧ (∀ j, j < N → pmF N k j < N) ∧ (∀ i, i < N → ∀ j, j < N → i = j ∨ pmF N k i ≠ pmF N k j) ∧ (match find1 (pmF N k) (N - 1) with
    | none => k + 1 = fac N
    | some p => k + 1 < fac N ∧ p + 1 < N ∧ (∀ j, j < p → pmF N (k + 1) j = pmF N k j) ∧ (∀ j, j < N → stepA N p (pmF N k) j = pmF N (k + 1) j)) := by
  unfold chk at h
  rw [Bool.and_eq_true, Bool.and_eq_true, Bool.and_eq_true, Bool.and_eq_true] at h
  obtain ⟨⟨⟨⟨h1, -⟩, h2⟩, h3⟩, h4⟩ := h
  refine ⟨h1, fun j hj => ?_, fun i hi j hj => ?_, ?_⟩
  · rw [List.all_eq_true] at h2
    exact of_decide_eq_true (h2 j (List.mem_range.mpr hj))
  · rw [List.all_eq_true] at h3
    have := h3 i (List.mem_range.mpr hi)
    rw [List.all_eq_true] at this
    exact of_decide_eq_true (this j (List.mem_range.mpr hj))
  · cases e : find1 (pmF N k) (N - 1) with
    | none =>
      rw [e] at h4
      exact of_decide_eq_true h4
    | some p =>
      rw [e] at h4
      simp only [Bool.and_eq_true, decide_eq_true_eq, List.all_eq_true, List.mem_range] at h4
      exact ⟨h4.1.1.1, h4.1.1.2, h4.1.2, h4.2⟩
theorem md_find {N k : Nat} {F : Nat → Nat} (hN : N ≤ 5) (hk : k < 120) (h : chk N k = true) (e1 : gI σ 94 42 = nI N) (e2 : ∀ f, f < N → gI σ 114 f = nI (F f)) : ∃ σ', f_X10_findOrder 94 (nI k) σ = some σ' ∧ (∀ j, j < N → gI σ' 115 j = nI (F (pmF N k j))) ∧ Fr (fun c _ => c = 115) σ σ' := by
  obtain ⟨σ', r1, r2, r3, r4⟩ := fo_loop hN N 0 k 0 (fcR (N - 2) 2 1) σ FU (by omega) (FU_lt (by omega)) (chk_p h).1 (by omega) e1 e2
  refine ⟨σ', ?_, fun j hj => ?_, r4⟩
  · exact (fc_loop (k := k) hN e1 (N - 2) 2 1 FU rfl (by omega) (FU_lt (by omega))).trans r1
  · have := r2 j hj
    rw [Nat.zero_add] at this
    exact this
end
