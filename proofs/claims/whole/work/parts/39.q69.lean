def Cst (q : HQ) (B : Nat → Nat) (i : Nat) (st : HQ) (σ : Mem) : Prop := CH 49 st σ ∧ Stg q (playN q B i).1 st ∧ S18 q st ∧ st.Okx
def Tabl (q : HQ) (B : Nat → Nat) (i : Nat) (σ : Mem) : Prop := ∀ j, j ≤ i → gI σ 73 j = nI (playN q B j).2 ∧ ∀ b, b < q.m → gI σ (67 + j) b = nI ((playN q B j).1 b)
def FPl (k i : Nat) : Prop := FH 49 k i ∨ (67 ≤ k ∧ k ≤ 72) ∨ (k = 73 ∧ i ≠ 0)
def FO (k i : Nat) : Prop := FPl k i ∨ k = 48 ∨ k = 64 ∨ k = 65
section
variable {q : HQ} {σ : Mem} {h o b v l s N : Nat} {B : Nat → Nat}
theorem stg_n {P : Nat → Nat} {x : HQ} (hx : Stg q P x) : x.n = q.n ∧ x.m = q.m := ⟨hx.1 0 0 (by omega) (by omega) (by omega), hx.1 6 0 (by omega) (by omega) (by omega)⟩
theorem cl_play (ok : q.Okx) (hN : N ≤ 5) (hB : ∀ j, j < N → B j < q.n) {k : Nat} (R : Int32 → Int32 → Mem → Option Mem) : ∀ (d i : Nat) (st : HQ) (σ : Mem) (fuel : Nat), i + d = N → d < fuel → Cst q B i st σ → Tabl q B i σ → (∀ j, j < N → gI σ 64 j = nI (B j)) → ∃ st' σ' rec, Cst q B N st' σ' ∧ Tabl q B N σ' ∧ Fr FPl σ σ' ∧ iterF (F_X8_findBestOrder_57 48 (nI N) (nI k) R) (fun _ _ => none) fuel (nI i) σ = F_X8_findBestOrder_57 48 (nI N) (nI k) R rec (nI N) σ' := by
  intro d
  induction d with
  | zero =>
    intro i st σ fuel hi hf C T O
    obtain ⟨f, rfl⟩ : ∃ f, fuel = f + 1 := ⟨fuel - 1, by omega⟩
    have : i = N := by omega
    subst this
    exact ⟨st, σ, _, C, T, Fr_rfl _ _, rfl⟩
  | succ d ih =>
    intro i st σ fuel hi hf C T O
    obtain ⟨f, rfl⟩ : ∃ f, fuel = f + 1 := ⟨fuel - 1, by omega⟩
    have hn := ok.1.1
    obtain ⟨C, S, S8, okst⟩ := C
    obtain ⟨sn, sm⟩ := stg_n S
    have hl : B i < st.n := by rw [sn]; exact hB i (by omega)
    have hl5 := hB i (by omega)
    obtain ⟨σ1, b1, b2, b3⟩ := cl_stageN okst hl C
    have RO := run_ok (s := 9) okst hl
    have b2 : CH 49 (sellq (fin st 9 (B i))) σ1 := b2
    obtain ⟨p1, p2, p3⟩ := nx_sell S S8 (B i)
    have fo := fin_ok (s := 9) okst hl
    have wp := (cl_wp (fin st 9 (B i)) fo.2.2.1 (by rw [fo.2.2.2.2]; exact hl) fo.2.2.2.1 b2).2
    rw [p3] at wp
    have okS : (sellq (fin st 9 (B i))).Okx := okx (sellq_ok RO.1)
    have e73 : gI σ1 73 i = nI (playN q B i).2 := (b3.1 _ _ (by unfold FH; omega)).trans (T i (Nat.le_refl i)).1
    have e64 : gI σ1 64 i = nI (B i) := (b3.1 _ _ (by unfold FH; omega)).trans (O i (by omega))
    obtain ⟨σ2, s1, s2, s3⟩ := save_loop (σ := pI σ1 73 (i + 1) (nI (playN q B (i + 1)).2)) (r := i + 1) (by omega) 6 0 _ FU (by omega) (FU_lt (by omega)) (Fr_rfl _ _) (fun j hj => absurd hj (Nat.not_lt_zero j))
    have F2 : Fr FPl σ σ2 := Fr_tr (Fr_mono b3 fun k i c => .inl c) (Fr_tr (Fr_pI _ (Fr_rfl _ _) (.inr (.inr ⟨rfl, by omega⟩))) (Fr_mono s2 fun c j e => .inr (.inl (by omega))))
    have g2 : ∀ c j, c ≠ 67 + (i + 1) → ¬ (c = 73 ∧ j = i + 1) → gI σ2 c j = gI σ1 c j := fun c j h1 h2 => (s2.1 c j h1).trans (gI_ne _ _ h2)
    have C2 : CH 49 (sellq (fin st 9 (B i))) σ2 := by
      have e : ∀ c j, 49 ≤ c → c < 64 → gI σ2 c j = gI σ1 c j := fun c j h1 h2 => g2 c j (by omega) (by omega)
      exact ⟨CHs_fr b2.1 (fun j => e _ _ (by omega) (by omega)), CHd_fr b2.2.1 (fun j => e _ _ (by omega) (by omega)), CHl_fr okS.1.1 b2.2.2.1 (fun j c hj => e _ _ (by omega) (by omega)), CHb_fr okS.2.1.1 b2.2.2.2 (fun j c hj => e _ _ (by omega) (by omega))⟩
    have sm2 : (sellq (fin st 9 (B i))).m = q.m := (stg_n p1).2
    have T2 : Tabl q B (i + 1) σ2 := fun j hj => by
      by_cases e : j = i + 1
      · subst e
        refine ⟨(s2.1 _ _ (by omega)).trans (gI_eq _ _ ⟨rfl, rfl⟩), fun b hb => ?_⟩
        have hm := ok.2.1.1
        rw [s3 b (by omega), gI_ne _ _ (by omega)]
        have w := (b2.2.2.2 b (by rw [sm2]; exact hb)).2.2.2
        have e58 : 49 + 9 + b = 58 + b := by omega
        rw [e58] at w
        rw [w, p1.2.2 b]
        rfl
      · obtain ⟨t1, t2⟩ := T j (by omega)
        refine ⟨?_, fun b hb => ?_⟩
        · rw [g2 _ _ (by omega) (by omega), b3.1 _ _ (by unfold FH; omega)]; exact t1
        · rw [g2 _ _ (by omega) (by omega), b3.1 _ _ (by unfold FH; omega)]; exact t2 b hb
    have O2 : ∀ j, j < N → gI σ2 64 j = nI (B j) := fun j hj => by rw [g2 _ _ (by omega) (by omega), b3.1 _ _ (by unfold FH; omega)]; exact O j hj
    obtain ⟨st', σ', rec, r1, r2, r3, r4⟩ := ih (i + 1) (sellq (fin st 9 (B i))) σ2 f (by omega) (by omega) ⟨C2, p1, p2, okS⟩ T2 O2
    refine ⟨st', σ', rec, r1, r2, Fr_tr F2 r3, Eq.trans ?_ r4⟩
    show F_X8_findBestOrder_57 48 (nI N) (nI k) R _ _ _ = _
    generalize iterF (F_X8_findBestOrder_57 48 (nI N) (nI k) R) (fun _ _ => none) f = R2
    have i1 : ixo 64 (nI i) = some i := ixo_64 (by omega)
    have i2 : ixo 73 (nI i) = some i := ixo_73 (by omega)
    have i3 : ixo 73 (nI (i + 1)) = some (i + 1) := ixo_73 (by omega)
    have i4 : ixo 66 (nI (i + 1)) = some (i + 1) := ixo_66 (by omega)
    have s1 : f_X8_savePurses 48 (67 + (i + 1)) (pI σ1 73 (i + 1) (nI (playN q B (i + 1)).2)) = some σ2 := s1
    have es : nI (playN q B i).2 + nI (hiP q (playN q B i).1 (B i)) = nI (playN q B (i + 1)).2 := nI_addE _ _
    unfold F_X8_findBestOrder_57
    rw [if_neg (by rw [nI_leE (by omega) (by omega)]; omega), nI_lit 1, nI_lit 60, nI_addE]
    simp only [Nat.reduceAdd, i1, bd1_s, O i (by omega), cl_alight, b1, bd2_s, i2, e64, wp, i3, e73, es, i4, s1]
theorem wi_load {P : Nat → Nat} {r : Nat} {st : HQ} (hr : r < 6) (okst : st.Okx) (C : CH 49 st σ) (S0 : ∃ P0, Stg q P0 st) (S8 : S18 q st) (hP : ∀ b, b < q.m → P b ≤ 9999) (e : ∀ b, b < q.m → gI σ (67 + r) b = nI (P b)) : ∃ σ', f_X8_loadPurses 48 (67 + r) σ = some σ' ∧ CH 49 (wiP st P) σ' ∧ Stg q P (wiP st P) ∧ S18 q (wiP st P) ∧ (wiP st P).Okx ∧ Fr (FH 49) σ σ' := by
  obtain ⟨P0, S⟩ := S0
  obtain ⟨sn, sm⟩ := stg_n S
  have hm := okst.2.1.1
  have hn := okst.1.1
  obtain ⟨σ1, a1, a2, a3⟩ := load_loop (σ := σ) hr 6 0 σ FU (by omega) (FU_lt (by omega)) (Fr_rfl _ _) (fun j hj => absurd hj (Nat.not_lt_zero j))
  refine ⟨σ1, a1, ?_, ⟨fun f i h1 h2 h3 => ?_, S.2.1, fun i => ?_⟩, fun f hf => ?_, wiP_ok okst (fun b hb => hP b (by rw [← sm]; exact hb)), Fr_mono a2 fun k i c => by unfold FH; omega⟩
  · obtain ⟨cs, cd, cl, cb⟩ := C
    refine ⟨CHs_c cs ⟨rfl, rfl, rfl, rfl, rfl, rfl, rfl, rfl, rfl⟩ (fun i => a2.1 _ _ (by omega)), CHd_c cd (fun _ => rfl) (fun i => a2.1 _ _ (by omega)), CHl_c cl hn rfl (fun _ => ⟨rfl, rfl, rfl, rfl, rfl⟩) (fun j i hj => a2.1 _ _ (by omega)), fun b hb => ?_⟩
    have hb : b < st.m := hb
    obtain ⟨w1, w2, w3, w4⟩ := cb b hb
    have e58 : 49 + 9 + b = 58 + b := by omega
    rw [e58] at w1 w2 w3 ⊢
    refine ⟨(a2.1 _ _ (by omega)).trans w1, (a2.1 _ _ (by omega)).trans w2, (a2.1 _ _ (by omega)).trans w3, ?_⟩
    have : (wiP st P).purse b = P b := by show (if (10 : Nat) = 10 then P b else st.1 10 b) = P b; rw [if_pos rfl]
    rw [this, a3 b (by omega)]
    exact e b (by rw [← sm]; exact hb)
  · show (if f = 10 then P i else st.1 f i) = _
    rw [if_neg h2]
    exact S.1 f i h1 h2 h3
  · show (if (10 : Nat) = 10 then P i else st.1 10 i) = P i
    rw [if_pos rfl]
  · show (if f = 10 then P 0 else st.1 f 0) = _
    rw [if_neg (by omega)]
    exact S8 f hf
/-- how best stands after the orders below k -/
def Bst (q : HQ) (k : Nat) (x : Nat × Nat) (σ : Mem) : Prop := (k = 0 ∧ gI σ 48 1 = -nI 3) ∨ (1 ≤ k ∧ x.1 < k ∧ x.2 ≤ 49995 ∧ gI σ 48 1 = nI x.1 ∧ gI σ 48 2 = nI x.2 ∧ ∀ j, j < (frS q).1 → gI σ 65 j = nI (ordA q x.1 j))
def nxB (q : HQ) (k : Nat) (x : Nat × Nat) : Nat × Nat := if k = 0 then (0, totP q 0) else if x.2 < totP q k then (k, totP q k) else x
theorem cl_weighO (ok : q.Okx) {k : Nat} {x : Nat × Nat} (hk : k < fac (frS q).1) (hN1 : 1 ≤ (frS q).1) (W : Bst q k x σ) (O : ∀ j, j < (frS q).1 → gI σ 64 j = nI (ordA q k j)) : ∃ σ1, f_X8_weighGreatest 48 (nI k) (nI (totP q k)) σ = some σ1 ∧ ((gI σ1 48 1 = nI k ∧ ∃ σ2, cpo σ1 64 (nI 0) 65 (nI 0) (nI (frS q).1) = some σ2 ∧ Bst q (k + 1) (nxB q k x) σ2 ∧ Fr (fun k _ => k = 48 ∨ k = 65) σ σ2) ∨ (¬ gI σ1 48 1 = nI k ∧ Bst q (k + 1) (nxB q k x) σ1 ∧ Fr (fun k _ => k = 48 ∨ k = 65) σ σ1)) := by
  have hn := ok.1.1
  have hN := (frS_ok q).1
  have tl := totP_le ok hk
  have f120 := fac_le (frS q).1 (by omega)
  have up : ∃ σ2, cpo (pI (pI σ 48 1 (nI k)) 48 2 (nI (totP q k))) 64 (nI 0) 65 (nI 0) (nI (frS q).1) = some σ2 ∧ gI σ2 48 1 = nI k ∧ gI σ2 48 2 = nI (totP q k) ∧ (∀ j, j < (frS q).1 → gI σ2 65 j = nI (ordA q k j)) ∧ Fr (fun k _ => k = 48 ∨ k = 65) σ σ2 := by
    have c : cpo (pI (pI σ 48 1 (nI k)) 48 2 (nI (totP q k))) 64 (nI 0) 65 (nI 0) (nI (frS q).1) = some (pC (pI (pI σ 48 1 (nI k)) 48 2 (nI (totP q k))) 65 (va_cpy ((pI (pI σ 48 1 (nI k)) 48 2 (nI (totP q k))).1 64) ((pI (pI σ 48 1 (nI k)) 48 2 (nI (totP q k))).1 65) 0 0 (frS q).1)) := by
      have a1 : al 64 = 5 := by decide
      have a2 : al 65 = 5 := by decide
      unfold cpo
      rw [a1, a2, nI_tn (by omega), nI_tn (by omega), if_neg]
      rw [nI_lit 0, nI_ltE (by omega) (by omega), nI_ltE (by omega) (by omega)]
      omega
    refine ⟨_, c, ?_, ?_, fun j hj => ?_, ⟨fun c j n => ?_, rfl⟩⟩
    · rw [gI_pC, if_neg (by omega)]; simp (disch := omega) only [gI_eq, gI_ne, gL_pI, gI_pL]
    · rw [gI_pC, if_neg (by omega)]; simp (disch := omega) only [gI_eq, gI_ne, gL_pI, gI_pL]
    · rw [gI_pC, if_pos rfl]
      unfold va_cpy
      rw [if_pos (by omega)]
      have e0 : 0 + (j - 0) = j := by omega
      rw [e0]
      show gI (pI (pI σ 48 1 (nI k)) 48 2 (nI (totP q k))) 64 j = _
      rw [gI_ne _ _ (by omega), gI_ne _ _ (by omega)]
      exact O j hj
    · rw [gI_pC, if_neg (by omega), gI_ne _ _ (by omega), gI_ne _ _ (by omega)]
  obtain ⟨σ2, u1, u2, u3, u4, u5⟩ := up
  rcases W with ⟨rfl, w1⟩ | ⟨w0, w1, w2, w3, w4, w5⟩
  · refine ⟨pI (pI σ 48 1 (nI 0)) 48 2 (nI (totP q 0)), ?_, .inl ⟨by simp (disch := omega) only [gI_eq, gI_ne, gL_pI, gI_pL], σ2, u1, .inr ⟨by omega, ?_, ?_, ?_, ?_, ?_⟩, u5⟩⟩
    · unfold f_X8_weighGreatest
      rw [if_pos (by rw [w1]; rfl), bd1_s, bd1_s]
    · show 0 < 0 + 1; omega
    · exact tl
    · exact u2
    · exact u3
    · exact u4
  · have e0 : k ≠ 0 := by omega
    by_cases z : x.2 < totP q k
    · have en : nxB q k x = (k, totP q k) := by unfold nxB; rw [if_neg e0, if_pos z]
      rw [en]
      refine ⟨pI (pI σ 48 1 (nI k)) 48 2 (nI (totP q k)), ?_, .inl ⟨by simp (disch := omega) only [gI_eq, gI_ne, gL_pI, gI_pL], σ2, u1, .inr ⟨by omega, ?_, tl, u2, u3, u4⟩, u5⟩⟩
      · simp (disch := omega) only [f_X8_weighGreatest, nI_lit, nI_addE, nI_mulE, nI_ltE, nI_leE, nI_eqE, nI_eqN, nI_Neq, nI_ltN, nI_Nlt, nI_leN, nI_Nle, nI_NeN, nI_subE, bd1_s, bd2_s, onrN, onrS, grd_t, grd_T, gI_eq, gI_ne, gL_pI, gI_pL, ltT, ltF, leT, leF, eqT, eqF, if_true, if_false, true_or, or_true, ite_true, ite_false, and_true, true_and, and_false, false_and, not_false_eq_true, not_true_eq_false, ↓reduceIte, in_eq, Nat.reduceAdd, Nat.reduceMul, Nat.zero_add, cE_f, cE_t, mE_f, mE_t, within_ok, ne_eq, w3, w4]
      · show k < k + 1; omega
    · have en : nxB q k x = x := by unfold nxB; rw [if_neg e0, if_neg z]
      rw [en]
      refine ⟨σ, ?_, .inr ⟨?_, .inr ⟨by omega, by omega, w2, w3, w4, w5⟩, Fr_rfl _ _⟩⟩
      · simp (disch := omega) only [f_X8_weighGreatest, nI_lit, nI_addE, nI_mulE, nI_ltE, nI_leE, nI_eqE, nI_eqN, nI_Neq, nI_ltN, nI_Nlt, nI_leN, nI_Nle, nI_NeN, nI_subE, bd1_s, bd2_s, onrN, onrS, grd_t, grd_T, gI_eq, gI_ne, gL_pI, gI_pL, ltT, ltF, leT, leF, eqT, eqF, if_true, if_false, true_or, or_true, ite_true, ite_false, and_true, true_and, and_false, false_and, not_false_eq_true, not_true_eq_false, ↓reduceIte, in_eq, Nat.reduceAdd, Nat.reduceMul, Nat.zero_add, cE_f, cE_t, mE_f, mE_t, within_ok, ne_eq, w3, w4]
      · rw [w3, nI_eqE (by omega) (by omega)]; omega
theorem bst_fr {k : Nat} {x : Nat × Nat} {σ' : Mem} (W : Bst q k x σ) (e : ∀ c j, (c = 48 ∨ c = 65) → gI σ' c j = gI σ c j) : Bst q k x σ' := by
  rcases W with ⟨w0, w1⟩ | ⟨w0, w1, w2, w3, w4, w5⟩
  · exact .inl ⟨w0, (e _ _ (by omega)).trans w1⟩
  · exact .inr ⟨w0, w1, w2, (e _ _ (by omega)).trans w3, (e _ _ (by omega)).trans w4, fun j hj => (e _ _ (by omega)).trans (w5 j hj)⟩
theorem CH49_fr {x : HQ} {σ' : Mem} (ok : x.Okx) (C : CH 49 x σ) (e : ∀ c j, 49 ≤ c → c < 64 → gI σ' c j = gI σ c j) : CH 49 x σ' :=
  ⟨CHs_fr C.1 (fun j => e _ _ (by omega) (by omega)), CHd_fr C.2.1 (fun j => e _ _ (by omega) (by omega)), CHl_fr ok.1.1 C.2.2.1 (fun j c hj => e _ _ (by omega) (by omega)), CHb_fr ok.2.1.1 C.2.2.2 (fun j c hj => e _ _ (by omega) (by omega))⟩
theorem cl_one (ok : q.Okx) (hN1 : 1 ≤ (frS q).1) (R : Int32 → Int32 → Mem → Option Mem) {k p : Nat} {x : Nat × Nat} {st : HQ} (hk : k < fac (frS q).1) (C : CH 49 st σ) (S : ∃ P0, Stg q P0 st) (S8 : S18 q st) (okst : st.Okx) (hp : p < (frS q).1) (T : Tabl q (ordA q k) p σ) (O : ∀ j, j < (frS q).1 → gI σ 64 j = nI (ordA q k j)) (W : Bst q k x σ) : ∃ st2 σ2, CH 49 st2 σ2 ∧ (∃ P0, Stg q P0 st2) ∧ S18 q st2 ∧ st2.Okx ∧ Bst q (k + 1) (nxB q k x) σ2 ∧ Fr FO σ σ2 ∧ ((k + 1 = fac (frS q).1 ∧ F_X8_findBestOrder_33 48 (nI (frS q).1) R (nI p) (nI k) σ = R (-nI 3) (nI (k + 1)) σ2) ∨ ∃ p', p' < (frS q).1 ∧ k + 1 < fac (frS q).1 ∧ Tabl q (ordA q (k + 1)) p' σ2 ∧ (∀ j, j < (frS q).1 → gI σ2 64 j = nI (ordA q (k + 1) j)) ∧ F_X8_findBestOrder_33 48 (nI (frS q).1) R (nI p) (nI k) σ = R (nI p') (nI (k + 1)) σ2) := by
  have hn := ok.1.1
  have hN := (frS_ok q).1
  have f120 := fac_le (frS q).1 (by omega)
  have hB := ordA_lt ok.1 hk
  obtain ⟨ck, ck2⟩ := chk_q ok.1 hk
  obtain ⟨-, hA, -, hM⟩ := chk_p ck
  have PL := playN_le (A := ordA q k) ok p (fun j hj => hB j (by omega))
  obtain ⟨σ1, a1, a2, a3, a4, a5, a6⟩ := wi_load (q := q) (P := (playN q (ordA q k) p).1) (r := p) (by omega) okst C S S8 PL.1 (T p (Nat.le_refl p)).2
  have g1 : ∀ c j, ¬ (49 ≤ c ∧ c < 64) → gI σ1 c j = gI σ c j := fun c j n => a6.1 c j (by unfold FH; omega)
  have T1 : Tabl q (ordA q k) p σ1 := fun j hj => ⟨(g1 _ _ (by omega)).trans (T j hj).1, fun b hb => (g1 _ _ (by omega)).trans ((T j hj).2 b hb)⟩
  obtain ⟨st', σ', rec, ⟨b1, b2, b3, b4⟩, b5, b6, b7⟩ := cl_play (B := ordA q k) ok (by omega : (frS q).1 ≤ 5) hB (k := k) R ((frS q).1 - p) p (wiP st (playN q (ordA q k) p).1) σ1 FU (by omega) (FU_lt (by omega)) ⟨a2, a3, a4, a5⟩ T1 (fun j hj => (g1 _ _ (by omega)).trans (O j hj))
  have g2 : ∀ c j, c = 48 ∨ c = 64 ∨ c = 65 → gI σ' c j = gI σ c j := fun c j n => (b6.1 c j (by unfold FPl FH; omega)).trans (g1 c j (by omega))
  have O2 : ∀ j, j < (frS q).1 → gI σ' 64 j = nI (ordA q k j) := fun j hj => (g2 _ _ (by omega)).trans (O j hj)
  have W2 : Bst q k x σ' := bst_fr W fun c j e => g2 c j (by omega)
  have e73 : gI σ' 73 (frS q).1 = nI (totP q k) := (b5 _ (Nat.le_refl _)).1
  obtain ⟨σ3, c1, c2⟩ := cl_weighO ok hk hN1 W2 O2
  have F2 : Fr FO σ σ' := Fr_tr (Fr_mono a6 fun k i c => .inl (.inl c)) (Fr_mono b6 fun k i c => .inl c)
  have key : ∃ τ, Bst q (k + 1) (nxB q k x) τ ∧ Fr (fun k _ => k = 48 ∨ k = 65) σ' τ ∧ F_X8_findBestOrder_33 48 (nI (frS q).1) R (nI p) (nI k) σ = bd2 (f_X8_stepOrder 48 (nI (frS q).1) τ) fun r σ29 => R r (nI (k + 1)) σ29 := by
    have i1 : ixo 66 (nI p) = some p := ixo_66 (by omega)
    have i2 : ixo 73 (nI (frS q).1) = some (frS q).1 := ixo_73 (by omega)
    have a1 : f_X8_loadPurses 48 (67 + p) σ = some σ1 := a1
    have top : F_X8_findBestOrder_33 48 (nI (frS q).1) R (nI p) (nI k) σ = F_X8_findBestOrder_57 48 (nI (frS q).1) (nI k) R rec (nI (frS q).1) σ' := by
      refine Eq.trans ?_ b7
      unfold F_X8_findBestOrder_33
      rw [nI_lit 120, if_neg (by rw [nI_leE (by omega) (by omega)]; omega), nI_lit 0, if_neg (by rw [nI_ltE (by omega) (by omega)]; omega)]
      simp only [Nat.reduceAdd, i1, bd1_s, a1]
    have h57 : F_X8_findBestOrder_57 48 (nI (frS q).1) (nI k) R rec (nI (frS q).1) σ' = if gI σ3 48 1 = nI k then bd1 (cpo σ3 64 (nI 0) 65 (nI 0) (nI (frS q).1)) (fun σ27 => bd2 (f_X8_stepOrder 48 (nI (frS q).1) σ27) fun r σ29 => R r (nI (k + 1)) σ29) else bd2 (f_X8_stepOrder 48 (nI (frS q).1) σ3) fun r σ29 => R r (nI (k + 1)) σ29 := by
      unfold F_X8_findBestOrder_57
      rw [if_pos (by rw [nI_leE (by omega) (by omega)]; omega)]
      simp only [Nat.reduceAdd, i2, bd1_s, e73, c1]
      rw [nI_lit 1, nI_lit 0, nI_addE]
    rcases c2 with ⟨d1, τ, d2, d3, d4⟩ | ⟨d1, d3, d4⟩
    · refine ⟨τ, d3, d4, ?_⟩
      rw [top, h57, if_pos d1, d2, bd1_s]
    · refine ⟨σ3, d3, d4, ?_⟩
      rw [top, h57, if_neg d1]
  obtain ⟨τ, k1, k2, k3⟩ := key
  have gτ : ∀ c j, ¬ (c = 48 ∨ c = 65) → gI τ c j = gI σ' c j := k2.1
  have Cτ : CH 49 st' τ := CH49_fr b4 b1 fun c j h1 h2 => gτ c j (by omega)
  have Oτ : OA (frS q).1 (frS q).2 (pmF (frS q).1 k) τ := fun j hj => (gτ _ _ (by omega)).trans (O2 j hj)
  have F3 : Fr FO σ τ := Fr_tr F2 (Fr_mono k2 fun k i c => by unfold FO; omega)
  have fl : ∀ j, j < (frS q).1 → (frS q).2 j < 5 := fun j hj => by have := (frS_ok q).2.1 j hj; omega
  rcases cl_next (F := (frS q).2) (A := pmF (frS q).1 k) (by omega : (frS q).1 ≤ 5) hN1 fl (frS_ok q).2.2 hA Oτ with ⟨n1, n2⟩ | ⟨p', σ4, n1, n2, n3, n4, n5⟩
  · rw [n1] at hM
    refine ⟨st', τ, Cτ, ⟨_, b2⟩, b3, b4, k1, F3, .inl ⟨hM, ?_⟩⟩
    rw [k3, n2, bd2_s]
  · rw [n1] at hM
    obtain ⟨m1, m2, m3, m4⟩ := hM
    have g4 : ∀ c j, c ≠ 64 → gI σ4 c j = gI τ c j := n5.1
    refine ⟨st', σ4, CH49_fr b4 Cτ fun c j h1 h2 => g4 c j (by omega), ⟨_, b2⟩, b3, b4, bst_fr k1 fun c j e => g4 c j (by omega), Fr_tr F3 (Fr_mono n5 fun k i c => by unfold FO; omega), .inr ⟨p', by omega, m1, fun j hj => ?_, fun j hj => ?_, ?_⟩⟩
    · have eq : playN q (ordA q (k + 1)) j = playN q (ordA q k) j := playN_c j (fun i hi => by unfold ordA; rw [m3 i (by omega)])
      rw [eq]
      obtain ⟨t1, t2⟩ := b5 j (by omega)
      refine ⟨?_, fun b hb => ?_⟩
      · rw [g4 _ _ (by omega), gτ _ _ (by omega)]; exact t1
      · rw [g4 _ _ (by omega), gτ _ _ (by omega)]; exact t2 b hb
    · rw [n4 j hj, m4 j hj]
      rfl
    · rw [k3, n3, bd2_s]
theorem cl_orders (ok : q.Okx) (hN1 : 1 ≤ (frS q).1) : ∀ (d k p : Nat) (x : Nat × Nat) (st : HQ) (σ : Mem) (fuel : Nat), k + d + 1 = fac (frS q).1 → d + 1 < fuel → CH 49 st σ → (∃ P0, Stg q P0 st) → S18 q st → st.Okx → p < (frS q).1 → Tabl q (ordA q k) p σ → (∀ j, j < (frS q).1 → gI σ 64 j = nI (ordA q k j)) → Bst q k x σ → ∃ σ' y, y = bestG (totP q) d (k + 1) (nxB q k x) ∧ iterF (F_X8_findBestOrder_33 48 (nI (frS q).1)) (fun _ _ _ => none) fuel (nI p) (nI k) σ = some σ' ∧ gI σ' 48 2 = nI y.2 ∧ (∀ j, j < (frS q).1 → gI σ' 65 j = nI (ordA q y.1 j)) ∧ Fr FO σ σ' := by
  have hn := ok.1.1
  have hN := (frS_ok q).1
  have f120 := fac_le (frS q).1 (by omega)
  intro d
  induction d with
  | zero =>
    intro k p x st σ fuel hd hf C S S8 okst hp T O W
    obtain ⟨f, rfl⟩ : ∃ f, fuel = f + 2 := ⟨fuel - 2, by omega⟩
    obtain ⟨st2, σ2, a1, a2, a3, a4, a5, a6, a7⟩ := cl_one ok hN1 (iterF (F_X8_findBestOrder_33 48 (nI (frS q).1)) (fun _ _ _ => none) (f + 1)) (by omega : k < fac (frS q).1) C S S8 okst hp T O W
    rcases a7 with ⟨-, a8⟩ | ⟨p', -, a8, -⟩
    · rcases a5 with ⟨w0, -⟩ | ⟨w0, w1, w2, w3, w4, w5⟩
      · omega
      · refine ⟨σ2, nxB q k x, rfl, a8.trans ?_, w4, w5, a6⟩
        show F_X8_findBestOrder_33 48 (nI (frS q).1) (iterF (F_X8_findBestOrder_33 48 (nI (frS q).1)) (fun _ _ _ => none) f) (-nI 3) (nI (k + 1)) σ2 = some σ2
        unfold F_X8_findBestOrder_33
        by_cases z : (120 : Int32) ≤ nI (k + 1)
        · rw [if_pos z]
        · rw [if_neg z, if_pos (by decide)]
    · omega
  | succ d ih =>
    intro k p x st σ fuel hd hf C S S8 okst hp T O W
    obtain ⟨f, rfl⟩ : ∃ f, fuel = f + 1 := ⟨fuel - 1, by omega⟩
    obtain ⟨st2, σ2, a1, a2, a3, a4, a5, a6, a7⟩ := cl_one ok hN1 (iterF (F_X8_findBestOrder_33 48 (nI (frS q).1)) (fun _ _ _ => none) f) (by omega : k < fac (frS q).1) C S S8 okst hp T O W
    rcases a7 with ⟨a8, -⟩ | ⟨p', h1, h2, h3, h4, h5⟩
    · omega
    · obtain ⟨σ', y, r1, r2, r3, r4, r5⟩ := ih (k + 1) p' (nxB q k x) st2 σ2 f (by omega) (by omega) a1 a2 a3 a4 h1 h3 h4 a5
      refine ⟨σ', y, ?_, h5.trans r2, r3, r4, Fr_tr a6 r5⟩
      rw [r1]
      have e : nxB q (k + 1) (nxB q k x) = if (nxB q k x).2 < totP q (k + 1) then (k + 1, totP q (k + 1)) else nxB q k x := by
        generalize nxB q k x = X
        show (if k + 1 = 0 then (0, totP q 0) else if X.2 < totP q (k + 1) then (k + 1, totP q (k + 1)) else X) = _
        rw [if_neg (by omega)]
      rw [e]
      rfl
theorem cl_best (ok : q.Okx) (hN1 : 1 ≤ (frS q).1) (C : CH 1 q σ) (z73 : gI σ 73 0 = 0) : ∃ σ', f_X8_findBestOrder 48 1 σ = some σ' ∧ gI σ' 48 2 = nI (bstP q).2 ∧ (∀ j, j < (frS q).1 → gI σ' 65 j = nI (ordA q (bstP q).1 j)) ∧ Fr FO σ σ' := by
  have hn := ok.1.1
  have hm := ok.2.1.1
  have hN := (frS_ok q).1
  have f120 := fac_le (frS q).1 (by omega)
  have C0 : CH 1 q (pI (pI σ 48 1 (-nI 3)) 48 2 (nI 0)) := CH1_fs ok C (Fr_pI _ (Fr_pI _ (Fr_rfl _ _) (by unfold FS; omega)) (by unfold FS; omega))
  obtain ⟨σ1, a1, a2, a3⟩ := cl_copy49 ok C0
  obtain ⟨σ2, b1, b2, b3⟩ := save_loop (σ := σ1) (r := 0) (by omega) 6 0 σ1 FU (by omega) (FU_lt (by omega)) (Fr_rfl _ _) (fun j hj => absurd hj (Nat.not_lt_zero j))
  have g2 : ∀ c j, ¬ (49 ≤ c ∧ c < 64) → c ≠ 67 → c ≠ 48 → gI σ2 c j = gI σ c j := fun c j h1 h2 h3 => by
    rw [b2.1 c j (by omega), a3.1 c j (by unfold FH; omega), gI_ne _ _ (by omega), gI_ne _ _ (by omega)]
  have C2 : CH 1 q σ2 := by
    have e : ∀ k i, 1 ≤ k → k < 1 + 15 → gI σ2 k i = gI σ k i := fun k i h1 h2 => g2 k i (by omega) (by omega) (by omega)
    exact ⟨CHs_fr C.1 (fun i => e _ _ (by omega) (by omega)), CHd_fr C.2.1 (fun i => e _ _ (by omega) (by omega)), CHl_fr ok.1.1 C.2.2.1 (fun j i hj => e _ _ (by omega) (by omega)), CHb_fr ok.2.1.1 C.2.2.2 (fun j i hj => e _ _ (by omega) (by omega))⟩
  obtain ⟨σ3, c1, c2, c3⟩ := cl_list (σ := σ2) ok.1 C2.1.1 C2.2.2.1 5 0 (0, fun _ => 0) σ2 FU (by omega) (FU_lt (by omega)) (Nat.le_refl 0) (Fr_rfl _ _) (fun j hj => absurd hj (Nat.not_lt_zero j))
  have c1 : f_X8_listUnsold 48 1 σ2 = some (nI (frS q).1, σ3) := c1
  have c3 : ∀ j, j < (frS q).1 → gI σ3 64 j = nI ((frS q).2 j) := c3
  have g3 : ∀ c j, c ≠ 64 → gI σ3 c j = gI σ2 c j := c2.1
  have F3 : Fr FO σ σ3 := Fr_tr (Fr_pI _ (Fr_pI _ (Fr_rfl _ _) (.inr (.inl rfl))) (.inr (.inl rfl))) (Fr_tr (Fr_mono a3 fun k i c => .inl (.inl c)) (Fr_tr (Fr_mono b2 fun k i c => .inl (.inr (.inl (by omega)))) (Fr_mono c2 fun k i c => .inr (.inr (.inl c)))))
  have C49 : CH 49 q σ3 := CH49_fr ok (CH49_fr ok a2 fun c j h1 h2 => b2.1 c j (by omega)) fun c j h1 h2 => g3 c j (by omega)
  have T0 : Tabl q (ordA q 0) 0 σ3 := fun j hj => by
    have : j = 0 := by omega
    subst this
    refine ⟨?_, fun b hb => ?_⟩
    · rw [g3 _ _ (by omega), g2 _ _ (by omega) (by omega) (by omega)]; exact z73
    · have := b3 b (by omega)
      rw [g3 _ _ (by omega), this]
      have w := (a2.2.2.2 b hb).2.2.2
      have e58 : 49 + 9 + b = 58 + b := by omega
      rw [e58] at w
      exact w
  have O0 : ∀ j, j < (frS q).1 → gI σ3 64 j = nI (ordA q 0 j) := fun j hj => by
    rw [c3 j hj]
    unfold ordA
    rw [pm0 _ (by omega) j hj]
  have W0 : Bst q 0 (0, 0) σ3 := .inl ⟨rfl, by
    rw [g3 _ _ (by omega), b2.1 _ _ (by omega), a3.1 _ _ (by unfold FH; omega), gI_ne _ _ (by omega)]
    exact gI_eq _ _ ⟨rfl, rfl⟩⟩
  obtain ⟨σ4, y, r1, r2, r3, r4, r5⟩ := cl_orders ok hN1 (fac (frS q).1 - 1) 0 0 (0, 0) q σ3 FU (by omega) (FU_lt (by omega)) C49 ⟨q.purse, fun _ _ _ _ _ => rfl, rfl, fun _ => rfl⟩ (fun _ _ => rfl) ok (by omega) T0 O0 W0
  have ey : y = bstP q := r1
  rw [ey] at r3 r4
  refine ⟨σ4, ?_, r3, r4, Fr_tr F3 r5⟩
  have i0 : ixo 66 (nI 0) = some 0 := ixo_66 (by omega)
  have b1 : f_X8_savePurses 48 67 σ1 = some σ2 := b1
  unfold f_X8_findBestOrder
  rw [forget_eq, bd1_s]
  simp only [Nat.reduceAdd, a1, bd1_s, nI_lit, i0, Nat.add_zero, b1, c1, bd2_s]
  exact r2
theorem sold_free : ∀ (d i : Nat) (x : Nat × (Nat → Nat)) (v : Int32), (∀ j, i ≤ j → j < i + d → q.sold j ≤ 1) → x.1 ≤ (frR q d i x).1 ∧ (frR q d i x).1 ≤ x.1 + d ∧ (List.range' i d).foldl (fun v i => v + tSold q i) v = v + nI (d + x.1 - (frR q d i x).1) := by
  intro d
  induction d with
  | zero =>
    intro i x v _
    refine ⟨Nat.le_refl _, Nat.le_refl _, ?_⟩
    show v = v + nI (0 + x.1 - x.1)
    have : 0 + x.1 - x.1 = 0 := by omega
    rw [this]
    exact (Int32.add_zero v).symm
  | succ d ih =>
    intro i x v hs
    have s1 := hs i (Nat.le_refl i) (by omega)
    rw [List.range'_succ]
    show _ ∧ _ ∧ (List.range' (i + 1) d).foldl (fun v i => v + tSold q i) (v + tSold q i) = _
    unfold frR
    by_cases z : q.sold i = 0
    · rw [if_pos z]
      obtain ⟨h1, h2, h3⟩ := ih (i + 1) (x.1 + 1, fun j => if j = x.1 then i else x.2 j) (v + tSold q i) (fun j a b => hs j (by omega) (by omega))
      have h1 : x.1 + 1 ≤ _ := h1
      have h2 : _ ≤ x.1 + 1 + d := h2
      rw [h3]
      refine ⟨by omega, by omega, ?_⟩
      have t0 : tSold q i = nI 0 := if_neg (by omega)
      rw [t0, Int32.add_assoc, nI_addE]
      congr 2
      show 0 + (d + (x.1 + 1) - _) = _
      omega
    · rw [if_neg z]
      obtain ⟨h1, h2, h3⟩ := ih (i + 1) x (v + tSold q i) (fun j a b => hs j (by omega) (by omega))
      rw [h3]
      refine ⟨h1, by omega, ?_⟩
      have t1 : tSold q i = nI 1 := if_pos (by omega)
      rw [t1, Int32.add_assoc, nI_addE]
      congr 2
      omega
theorem left_eq (ok : q.Okl) : nI q.n - sumI (tSold q) q.n = nI (frS q).1 := by
  have hn := ok.1
  obtain ⟨h1, h2, h3⟩ := sold_free (q := q) q.n 0 (0, fun _ => 0) (nI 0) (fun j _ hj => (ok.2 j (by omega)).2.2.1)
  have h2 : (frS q).1 ≤ 0 + q.n := h2
  have e : sumI (tSold q) q.n = nI 0 + nI (q.n + 0 - (frS q).1) := h3
  rw [e, nI_addE, nI_subE (by omega)]
  congr 1
  omega
theorem FO_WG {k i : Nat} (c : FO k i) : WG k i := by unfold FO FPl FH at c; unfold WG WH; omega
theorem FB_WG {k i : Nat} (c : FB k i) : WG k i := by unfold FB FT at c; unfold WG WH; omega
theorem op_order (I : Inv q σ) (a1 : Int32) : OpOk (f_X9_order 0 a1) (f_X10_order 94 a1) σ := by
  obtain ⟨⟨⟨hn, hol⟩, hob, hoc⟩, ⟨cs, cd, cl, cb⟩, ⟨ms, mr, md, ml, mb⟩, r0, r1⟩ := id I
  obtain ⟨c1, c3, c5, c6, c7, c8⟩ := id cs
  obtain ⟨m0, m8, m7, m14⟩ := id ms
  have hm := hob.1
  have okX := okx I.1
  have SL := cl_soldLots hn ⟨hn, hol⟩ c1 cl
  have LE := left_eq (q := q) ⟨hn, hol⟩
  have hN := (frS_ok q).1
  have main : ∀ w : Nat, (w = 0 ∨ (10 ≤ w ∧ w ≤ 14)) → ∃ r σ1 σ2, F_X9_order_17 0 (nI w) σ = some (r, σ1) ∧ F_X10_order_17 94 (nI w) σ1 = some (r, σ2) ∧ Inv q σ2 := by
    intro w hw
    by_cases z : (frS q).1 = 0
    · obtain ⟨σ2, u1, u2, u3, u4, u5, u6, u7, u8, u9⟩ := md_best okX I.2.2.1 I.2.2.2.2.2.2.2.2.2.2.2 r0.2 r0.1
      refine ⟨-nI 3, σ, σ2, ?_, ?_, inv_try I (Fr_mono u9 fun k i c => FB_WG c) (CH_fr I.1 I.2.1 fun k i h1 h2 => u9.1 k i (by unfold FB FT; omega)) u2 u5 u4 u3⟩
      · unfold F_X9_order_17
        simp only [Nat.reduceAdd, SL, bd2_s, c1, LE, z]
        rw [if_pos z00]
        rfl
      · unfold F_X10_order_17
        rw [u1, bd1_s, u6, z, if_pos z00]
        rfl
    · obtain ⟨σ1, t1, t2, t3, t4⟩ := cl_best okX (by omega) I.2.1 I.2.2.2.2.2.2.2.2.2.2.1.2
      have M1 : MH 0 q σ1 := MH_fr I.2.2.1 fun k i c => t4.1 k i (by unfold FO FPl FH; omega)
      have G1 : RG σ1 := RG_fr I.2.2.2.2.2.2.2.2.2.2.2 fun k i c => t4.1 k i (by unfold FO FPl FH; omega)
      obtain ⟨σ2, u1, u2, u3, u4, u5, u6, u7, u8, u9⟩ := md_best okX M1 G1 ((t4.1 _ _ (by unfold FO FPl FH; omega)).trans r0.2) ((t4.1 _ _ (by unfold FO FPl FH; omega)).trans r0.1)
      have C1 : CH 1 q σ1 := CH_fr I.1 I.2.1 fun k i h1 h2 => t4.1 k i (by unfold FO FPl FH; omega)
      have J : Inv q σ2 := inv_try I (Fr_tr (Fr_mono t4 fun k i c => FO_WG c) (Fr_mono u9 fun k i c => FB_WG c)) (CH_fr I.1 C1 fun k i h1 h2 => u9.1 k i (by unfold FB FT; omega)) u2 u5 u4 u3
      have nz : ¬ (nI (frS q).1 = (0 : Int32)) := by rw [nI_lit 0, nI_eqE (by omega) (by omega)]; exact z
      by_cases w0 : w = 0
      · subst w0
        refine ⟨nI (bstP q).2, σ1, σ2, ?_, ?_, J⟩
        · unfold F_X9_order_17
          simp only [Nat.reduceAdd, SL, bd2_s, c1, LE]
          have lt : nI 0 - (10 : Int32) < nI (frS q).1 := by
            rw [nI_lit 10, Int32.lt_iff_toInt_lt, nI_subI (by omega) (by omega), nI_toInt (by omega)]; omega
          rw [if_neg nz, if_pos lt, t1, bd1_s, if_pos z00, t2]
        · unfold F_X10_order_17
          rw [u1, bd1_s, u6, if_neg nz, if_pos z00, u7]
      · have w10 : 10 ≤ w := by omega
        have nw : ¬ (nI w = (0 : Int32)) := by rw [nI_lit 0, nI_eqE (by omega) (by omega)]; exact w0
        have es : nI w - (10 : Int32) = nI (w - 10) := by rw [nI_lit 10, nI_subE w10]
        by_cases g : w - 10 < (frS q).1
        · refine ⟨nI (ordA q (bstP q).1 (w - 10)), σ1, σ2, ?_, ?_, J⟩
          · have i1 : ixo 65 (nI (w - 10)) = some (w - 10) := ixo_65 (by omega)
            have LB : f_X8_lotInBestOrder 48 (nI (w - 10)) σ1 = some (nI (ordA q (bstP q).1 (w - 10)), σ1) := by
              simp (disch := omega) only [f_X8_lotInBestOrder, nI_lit, nI_addE, nI_mulE, nI_ltE, nI_leE, nI_eqE, nI_eqN, nI_Neq, nI_ltN, nI_Nlt, nI_leN, nI_Nle, nI_NeN, nI_subE, bd1_s, bd2_s, onrN, onrS, grd_t, grd_T, gI_eq, gI_ne, gL_pI, gI_pL, ltT, ltF, leT, leF, eqT, eqF, if_true, if_false, true_or, or_true, ite_true, ite_false, and_true, true_and, and_false, false_and, not_false_eq_true, not_true_eq_false, ↓reduceIte, in_eq, Nat.reduceAdd, Nat.reduceMul, Nat.zero_add, cE_f, cE_t, mE_f, mE_t, within_ok, ne_eq, i1, t3 _ g]
            unfold F_X9_order_17
            simp only [Nat.reduceAdd, SL, bd2_s, c1, LE, es]
            rw [if_neg nz, if_pos (by rw [nI_ltE (by omega) (by omega)]; exact g), t1, bd1_s, if_neg nw, LB, bd2_s]
          · have i1 : ixo 116 (nI (w - 10)) = some (w - 10) := ixo_116 (by omega)
            unfold F_X10_order_17
            rw [u1, bd1_s, u6, if_neg nz, if_neg nw, es, if_neg (by rw [nI_leE (by omega) (by omega)]; omega)]
            simp only [Nat.reduceAdd, i1, bd1_s, u8 _ g]
        · obtain ⟨σ3, v1, v2, v3, v4, v5, v6, v7, v8, v9⟩ := md_best okX I.2.2.1 I.2.2.2.2.2.2.2.2.2.2.2 r0.2 r0.1
          refine ⟨-nI 3, σ, σ3, ?_, ?_, inv_try I (Fr_mono v9 fun k i c => FB_WG c) (CH_fr I.1 I.2.1 fun k i h1 h2 => v9.1 k i (by unfold FB FT; omega)) v2 v5 v4 v3⟩
          · unfold F_X9_order_17
            simp only [Nat.reduceAdd, SL, bd2_s, c1, LE, es]
            rw [if_neg nz, if_neg (by rw [nI_ltE (by omega) (by omega)]; exact g)]
            rfl
          · unfold F_X10_order_17
            rw [v1, bd1_s, v6, if_neg nz, if_neg nw, es, if_pos (by rw [nI_leE (by omega) (by omega)]; omega)]
            rfl
  by_cases e0 : a1 = (0 : Int32)
  · subst e0
    obtain ⟨r, σ1, σ2, m1, m2, m3⟩ := main 0 (.inl rfl)
    refine ⟨r, σ1, σ2, q, ?_, ?_, m3⟩
    · unfold f_X9_order
      rw [if_pos rfl]
      exact m1
    · unfold f_X10_order
      rw [if_pos rfl]
      exact m2
  · rcases (arg a1 10 14 (by omega) (by omega)).symm with b | ⟨w, hw1, hw2, rfl⟩
    · refine ⟨-nI 1, σ, σ, q, ?_, ?_, I⟩
      · unfold f_X9_order
        rw [if_neg e0, nI_lit 10, nI_lit 14, within_no _ b, bd2_s, if_pos z00]
        rfl
      · unfold f_X10_order
        rw [if_neg e0, nI_lit 10, nI_lit 14, in_eq, within_no _ b, bd2_s, if_pos z00]
        rfl
    · obtain ⟨r, σ1, σ2, m1, m2, m3⟩ := main w (.inr ⟨hw1, hw2⟩)
      refine ⟨r, σ1, σ2, q, ?_, ?_, m3⟩
      · unfold f_X9_order
        rw [if_neg e0, nI_lit 10, nI_lit 14, within_ok _ hw1 hw2 (by decide), bd2_s, if_neg (by rw [nI_lit 0, nI10]; exact id)]
        exact m1
      · unfold f_X10_order
        rw [if_neg e0, nI_lit 10, nI_lit 14, in_eq, within_ok _ hw1 hw2 (by decide), bd2_s, if_neg (by rw [nI_lit 0, nI10]; exact id)]
        exact m2
end
