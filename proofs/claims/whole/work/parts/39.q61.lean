def actV (i k : Nat) (x : Int32) (n a : Nat) : Int32 := if i = 0 then kalV k x (nI n) else if i = 1 then herV k x (nI n) (nI a) else if i = 2 then shaV k x n a else telV k x n a
def actB (i k n a : Nat) (t : List Nat) : List Nat := if i = 0 then kalB 0 k t else if i = 1 then herB k t else if i = 2 then shaB k n a t else telB k n a t
def actP (i k n a : Nat) : Nat := if i = 2 then quoP n a else if i = 3 then telP k n a else 0
section
variable {q : HQ} {σ σ' : Mem} {h o b v l s : Nat}
theorem act0 (k : Nat) (x : Int32) (n a : Nat) (t : List Nat) : actV 0 k x n a = kalV k x (nI n) ∧ actB 0 k n a t = kalB 0 k t ∧ actP 0 k n a = 0 := ⟨if_pos rfl, if_pos rfl, by unfold actP; rw [if_neg (by omega), if_neg (by omega)]⟩
theorem act1 (k : Nat) (x : Int32) (n a : Nat) (t : List Nat) : actV 1 k x n a = herV k x (nI n) (nI a) ∧ actB 1 k n a t = herB k t ∧ actP 1 k n a = 0 := ⟨by unfold actV; rw [if_neg (by omega), if_pos rfl], by unfold actB; rw [if_neg (by omega), if_pos rfl], by unfold actP; rw [if_neg (by omega), if_neg (by omega)]⟩
theorem act2 (k : Nat) (x : Int32) (n a : Nat) (t : List Nat) : actV 2 k x n a = shaV k x n a ∧ actB 2 k n a t = shaB k n a t ∧ actP 2 k n a = quoP n a := ⟨by unfold actV; rw [if_neg (by omega), if_neg (by omega), if_pos rfl], by unfold actB; rw [if_neg (by omega), if_neg (by omega), if_pos rfl], if_pos rfl⟩
theorem act3 (k : Nat) (x : Int32) (n a : Nat) (t : List Nat) : actV 3 k x n a = telV k x n a ∧ actB 3 k n a t = telB k n a t ∧ actP 3 k n a = telP k n a := ⟨by unfold actV; rw [if_neg (by omega), if_neg (by omega), if_neg (by omega)], by unfold actB; rw [if_neg (by omega), if_neg (by omega), if_neg (by omega)], by unfold actP; rw [if_neg (by omega), if_pos rfl]⟩
theorem aC {i k n a : Nat} {t : List Nat} (hi : i ≤ 3) (hk : k ≤ 5) (hn : n ≤ 9) (ha : a ≤ 9) (T : TC 0 t k n a σ) (x : Int32) : ∃ w σ', f_X1_answerTo 80 (nI i) x σ = some (w, σ') ∧ (actP i k n a = 0 → w = actV i k x n a) ∧ TC (actP i k n a) (actB i k n a t) k n a σ' ∧ Fr WC σ σ' := by
  have y := T.2.2.2.1
  have hi' : i = 0 ∨ i = 1 ∨ i = 2 ∨ i = 3 := by omega
  rcases hi' with rfl | rfl | rfl | rfl
  · obtain ⟨e1, e2, e3⟩ := act0 k x n a t
    rw [e1, e2, e3]
    obtain ⟨σ1, a1, a2, a3⟩ := cC (f := 4) (e := 0) (by omega) hk (by omega) T x
    have a1 : f_X1_calls 8 80 (nI k) x (nI 0) σ = _ := a1
    refine ⟨_, σ1, ?_, fun _ => rfl, a2, a3⟩
    simp (disch := omega) only [f_X1_answerTo, nI_lit, nI_eqE, bd1_s, bd2_s, onrN, onrS, grd_t, grd_T, ltT, ltF, leT, leF, eqT, eqF, ↓reduceIte, y, a1]
  · obtain ⟨e1, e2, e3⟩ := act1 k x n a t
    rw [e1, e2, e3]
    obtain ⟨σ1, a1, a2, a3⟩ := hC (e := 0) (by omega) hk T x
    refine ⟨_, σ1, ?_, fun _ => rfl, a2, a3⟩
    simp (disch := omega) only [f_X1_answerTo, nI_lit, nI_eqE, bd1_s, bd2_s, onrN, onrS, grd_t, grd_T, ltT, ltF, leT, leF, eqT, eqF, ↓reduceIte, y, a1]
  · obtain ⟨e1, e2, e3⟩ := act2 k x n a t
    rw [e1, e2, e3]
    obtain ⟨w, σ1, a1, a2, a3, a4⟩ := sC (e := 0) (by omega) hk hn ha T x
    refine ⟨w, σ1, ?_, a2, a3, a4⟩
    simp (disch := omega) only [f_X1_answerTo, nI_lit, nI_eqE, bd1_s, bd2_s, onrN, onrS, grd_t, grd_T, ltT, ltF, leT, leF, eqT, eqF, ↓reduceIte, y, a1]
  · obtain ⟨e1, e2, e3⟩ := act3 k x n a t
    rw [e1, e2, e3]
    obtain ⟨w, σ1, a1, a2, a3, a4⟩ := tC (e := 0) (by omega) hk hn ha T x
    refine ⟨w, σ1, ?_, a2, a3, a4⟩
    simp (disch := omega) only [f_X1_answerTo, nI_lit, nI_eqE, bd1_s, bd2_s, onrN, onrS, grd_t, grd_T, ltT, ltF, leT, leF, eqT, eqF, ↓reduceIte, y, a1]
theorem actP_le (i k n a : Nat) : actP i k n a ≤ 1 := by
  have := quoP_le n a
  unfold actP telP
  repeat' split
  all_goals omega
/-- what an act may write -/
def WDM (k i : Nat) : Prop := k = 124 ∨ (k = 94 ∧ (i = 52 ∨ i = 53 ∨ i = 54 ∨ i = 56 ∨ i = 57))
def WD (k i : Nat) : Prop := (k = 80 ∧ i ≠ 0) ∨ k = 81 ∨ k = 124 ∨ (k = 94 ∧ (i = 52 ∨ i = 53 ∨ i = 54 ∨ i = 56 ∨ i = 57))
theorem R1_deed (r : R1 σ) (f : Fr WD σ σ') (x : RD σ') : R1 σ' := by
  obtain ⟨x1, x2, x3, x4, x5, x6, x7, x8⟩ := r
  exact ⟨RT_fr x1 fun k i c => f.1 k i (by unfold WD; omega), RR_fr x2 fun k i c => f.1 k i (by unfold WD; omega), x, RS_fr x4 (fun k i c => f.1 k i (by unfold WD; omega)) f.2, RH_fr x5 fun k i c => f.1 k i (by unfold WD; omega), RK_fr x6 fun k i c => f.1 k i (by unfold WD; omega), RF_fr x7 fun k i c => f.1 k i (by unfold WD; omega), RG_fr x8 fun k i c => f.1 k i (by unfold WD; omega)⟩
theorem inv_deed (I : Inv q σ) (f : Fr WD σ σ') (x : RD σ') : Inv q σ' := inv_fr I (fun k i c => f.1 k i (by unfold WD; omega)) (R1_deed I.2.2.2.2 f x)
theorem act_zero (I : Inv q σ) : Inv q (pI (pI (pI σ 80 1 (nI 0)) 80 2 (nI 0)) 94 56 (nI 0)) :=
  inv_deed I (Fr_pI _ (Fr_pI _ (Fr_pI _ (Fr_rfl _ _) (by unfold WD; omega)) (by unfold WD; omega)) (by unfold WD; omega)) ⟨0, Nat.zero_le _, by simp (disch := omega) only [gI_eq, gI_ne, gL_pI, gI_pL], by simp (disch := omega) only [gI_eq, gI_ne, gL_pI, gI_pL], fun j hj => absurd hj (Nat.not_lt_zero j)⟩
theorem act21_no {s a2 a3 w0 : Int32} (h : (a2 < nI 0 ∨ (¬ a2 < nI 0 ∧ nI 3 < a2)) ∨ (w0 < nI 0 ∨ (¬ w0 < nI 0 ∧ nI 5 < w0))) : F_X10_act_21x1 94 s a2 a3 w0 σ = some (nI 0, σ) := by
  unfold F_X10_act_21x1
  by_cases g : a2 < nI 0 ∨ (¬ a2 < nI 0 ∧ nI 3 < a2)
  · simp only [nI_lit, in_eq, within_no _ g, bd2_s, if_true]
  · have g2 := h.resolve_left g
    have g3 : f_X9_within a2 (nI 0) (nI 3) σ = some (nI 1, σ) := by
      unfold f_X9_within
      rw [if_neg (fun c => g (.inl c)), if_neg (fun c => g (.inr ⟨fun c' => g (.inl c'), c⟩))]
      rfl
    simp only [nI_lit, in_eq, g3, within_no _ g2, bd2_s, nI10, if_false, if_true]
theorem act21_no0 {s a2 a3 : Int32} : F_X10_act_21 94 s a2 a3 σ = some (nI 0, σ) := by
  have h : (-nI 1 < nI 0 ∨ (¬ -nI 1 < nI 0 ∧ nI 5 < -nI 1)) := .inl (by rw [nI_Nlt (by omega) (by omega) (by omega)]; trivial)
  unfold F_X10_act_21
  by_cases g : a2 < nI 0 ∨ (¬ a2 < nI 0 ∧ nI 3 < a2)
  · simp only [nI_lit, in_eq, within_no _ g, bd2_s, if_true]
  · have g3 : f_X9_within a2 (nI 0) (nI 3) σ = some (nI 1, σ) := by
      unfold f_X9_within
      rw [if_neg (fun c => g (.inl c)), if_neg (fun c => g (.inr ⟨fun c' => g (.inl c'), c⟩))]
      rfl
    simp only [nI_lit, in_eq, g3, within_no _ h, bd2_s, nI10, if_false, if_true]
theorem z00 : nI 0 = (0 : Int32) := rfl
theorem clear80 : f_X1_clear 80 σ = some (pI (pI σ 80 1 (nI 0)) 80 2 (nI 0)) := rfl
theorem aM {i k n a s : Nat} (hi : i ≤ 3) (hk : k ≤ 5) (hn : n ≤ 5) (ha : a ≤ 9) (hs : s < 4) (e1 : gI σ 122 s = nI n) (e2 : gI σ 102 n = nI a) (e3 : gI σ 94 56 = nI 0) (x : Int32) : ∃ σ', F_X10_act_21x1 94 (nI s) (nI i) x (nI k) σ = some (if actP i k n a = 0 then actV i k x n a else -nI 15, σ') ∧ TM (actP i k n a) (actB i k n a []) k n a σ' ∧ Fr WDM σ σ' := by
  have i1 : ixo 122 (nI s) = some s := ixo_122 (by omega)
  have i2 : ixo 102 (nI n) = some n := ixo_102 (by omega)
  have T : TM 0 [] k n a (pI (pI (pI (pI σ 94 52 (nI k)) 94 53 (nI n)) 94 54 (nI a)) 94 57 (nI 0)) := by
    refine ⟨Nat.zero_le _, ?_, ?_, ?_, ?_, ?_, fun j hj => absurd hj (Nat.not_lt_zero j)⟩
    · simp (disch := omega) only [gI_eq, gI_ne, gL_pI, gI_pL]; exact e3
    · simp (disch := omega) only [gI_eq, gI_ne, gL_pI, gI_pL]
    · simp (disch := omega) only [gI_eq, gI_ne, gL_pI, gI_pL]
    · simp (disch := omega) only [gI_eq, gI_ne, gL_pI, gI_pL]
    · simp (disch := omega) only [gI_eq, gI_ne, gL_pI, gI_pL]
  have F0 : Fr WDM σ (pI (pI (pI (pI σ 94 52 (nI k)) 94 53 (nI n)) 94 54 (nI a)) 94 57 (nI 0)) := Fr_pI _ (Fr_pI _ (Fr_pI _ (Fr_pI _ (Fr_rfl _ _) (by unfold WDM; omega)) (by unfold WDM; omega)) (by unfold WDM; omega)) (by unfold WDM; omega)
  have mono : ∀ {τ τ' : Mem}, Fr WM τ τ' → Fr WDM τ τ' := fun f => Fr_mono f fun k i c => by unfold WM at c; unfold WDM; omega
  have hi' : i = 0 ∨ i = 1 ∨ i = 2 ∨ i = 3 := by omega
  rcases hi' with rfl | rfl | rfl | rfl
  · obtain ⟨g1, g2, g3⟩ := act0 k x n a []
    rw [g1, g2, g3, if_pos rfl]
    obtain ⟨σ1, a1, a2, a3⟩ := cM hk T x
    have z := a2.2.2.1
    refine ⟨σ1, ?_, a2, Fr_tr F0 (mono a3)⟩
    simp (disch := omega) only [F_X10_act_21x1, nI_lit, in_eq, within_ok, nI_eqE, bd1_s, bd2_s, onrN, onrS, grd_t, grd_T, gI_eq, gI_ne, gL_pI, gI_pL, ltT, ltF, leT, leF, eqT, eqF, ↓reduceIte, Nat.reduceAdd, i1, i2, e1, e2, a1, z]
  · obtain ⟨g1, g2, g3⟩ := act1 k x n a []
    rw [g1, g2, g3, if_pos rfl]
    obtain ⟨σ1, a1, a2, a3⟩ := hM hk T x
    have z := a2.2.2.1
    refine ⟨σ1, ?_, a2, Fr_tr F0 (mono a3)⟩
    simp (disch := omega) only [F_X10_act_21x1, nI_lit, in_eq, within_ok, nI_eqE, bd1_s, bd2_s, onrN, onrS, grd_t, grd_T, gI_eq, gI_ne, gL_pI, gI_pL, ltT, ltF, leT, leF, eqT, eqF, ↓reduceIte, Nat.reduceAdd, i1, i2, e1, e2, a1, z]
  · obtain ⟨g1, g2, g3⟩ := act2 k x n a []
    rw [g1, g2, g3]
    obtain ⟨w, σ1, a1, a2, a3, a4⟩ := sM hk (by omega) ha T x
    have z := a3.2.2.1
    have pl := quoP_le n a
    refine ⟨σ1, ?_, a3, Fr_tr F0 (mono a4)⟩
    by_cases e : quoP n a = 0
    · rw [e] at z
      rw [if_pos e, ← a2 e]
      simp (disch := omega) only [F_X10_act_21x1, nI_lit, in_eq, within_ok, nI_eqE, bd1_s, bd2_s, onrN, onrS, grd_t, grd_T, gI_eq, gI_ne, gL_pI, gI_pL, ltT, ltF, leT, leF, eqT, eqF, ↓reduceIte, Nat.reduceAdd, i1, i2, e1, e2, a1, z]
    · have z1 : quoP n a = 1 := by omega
      rw [z1] at z
      rw [if_neg e]
      simp (disch := omega) only [F_X10_act_21x1, nI_lit, in_eq, within_ok, nI_eqE, bd1_s, bd2_s, onrN, onrS, grd_t, grd_T, gI_eq, gI_ne, gL_pI, gI_pL, ltT, ltF, leT, leF, eqT, eqF, ↓reduceIte, Nat.reduceAdd, i1, i2, e1, e2, a1, z]
  · obtain ⟨g1, g2, g3⟩ := act3 k x n a []
    rw [g1, g2, g3]
    obtain ⟨w, σ1, a1, a2, a3, a4⟩ := tM hk (by omega) ha T x
    have z := a3.2.2.1
    have pl : telP k n a ≤ 1 := by have := actP_le 3 k n a; rw [g3] at this; exact this
    refine ⟨σ1, ?_, a3, Fr_tr F0 (mono a4)⟩
    by_cases e : telP k n a = 0
    · rw [e] at z
      rw [if_pos e, ← a2 e]
      simp (disch := omega) only [F_X10_act_21x1, nI_lit, in_eq, within_ok, nI_eqE, bd1_s, bd2_s, onrN, onrS, grd_t, grd_T, gI_eq, gI_ne, gL_pI, gI_pL, ltT, ltF, leT, leF, eqT, eqF, ↓reduceIte, Nat.reduceAdd, i1, i2, e1, e2, a1, z]
    · have z1 : telP k n a = 1 := by omega
      rw [z1] at z
      rw [if_neg e]
      simp (disch := omega) only [F_X10_act_21x1, nI_lit, in_eq, within_ok, nI_eqE, bd1_s, bd2_s, onrN, onrS, grd_t, grd_T, gI_eq, gI_ne, gL_pI, gI_pL, ltT, ltF, leT, leF, eqT, eqF, ↓reduceIte, Nat.reduceAdd, i1, i2, e1, e2, a1, z]
theorem op_act (I : Inv q σ) (a1 a2 a3 : Int32) : OpOk (f_X9_act 0 a1 a2 a3) (f_X10_act 94 a1 a2 a3) σ := by
  have Z := act_zero I
  obtain ⟨τ, eτ⟩ : ∃ τ, τ = pI (pI σ 80 1 (nI 0)) 80 2 (nI 0) := ⟨_, rfl⟩
  have Fτ : Fr WD σ τ := by rw [eτ]; exact Fr_pI _ (Fr_pI _ (Fr_rfl _ _) (by unfold WD; omega)) (by unfold WD; omega)
  rw [← eτ] at Z
  have ecl : f_X1_clear (0 + 80) σ = some τ := by rw [eτ]; rfl
  have emd : ∀ x, f_X10_act 94 a1 a2 a3 τ = some (x, pI τ 94 56 (nI 0)) ↔ f_X10_act 94 a1 a2 a3 τ = some (x, pI τ 94 56 (nI 0)) := fun x => Iff.rfl
  rcases (arg a1 0 3 (by omega) (by omega)).symm with b | ⟨s, -, hs, rfl⟩
  · refine ⟨nI 0, τ, pI τ 94 56 (nI 0), q, ?_, ?_, Z⟩
    · unfold f_X9_act
      rw [ecl, bd1_s, shelfAt_no b, bd2_s, onrN]
      rfl
    · unfold f_X10_act
      rw [bd1_s, isShelf_no b, bd2_s, if_pos z00]
      exact act21_no0
  have hs4 : s < 4 := by omega
  have ks := kd_shelf hs4
  have stC : ∀ r, (bd2 (f_X6_holdsRow (90 + s) τ) fun r10 σ8 => if r10 = (0 : Int32) then bd2 (f_X9_within a2 (0 : Int32) (3 : Int32) σ8) fun r14 σ12 => if r14 = (0 : Int32) then some ((0 : Int32), σ12) else bd2 (f_X2_bidderAt (0 + 1) (gI σ12 (90 + s) 0) σ12) fun r18 σ16 => onr r18 (some ((0 : Int32), σ16)) fun q19 => grd (kd q19 = 0) <| bd2 (f_X1_doneBy (0 + 80) q19 (gI σ16 (90 + s) 0) a2 a3 σ16) fun r23 σ21 => some (r23, σ21) else some ((0 : Int32), σ8)) = r → f_X9_act 0 (nI s) a2 a3 σ = r := fun r h => by
    unfold f_X9_act
    rw [ecl, bd1_s, shelfAt_ok hs4, bd2_s, onrS, grd_t ks]
    exact h
  have stM : ∀ w r, f_X10_kindOn 94 (nI s) (pI τ 94 56 (nI 0)) = some (w, pI τ 94 56 (nI 0)) → F_X10_act_21x1 94 (nI s) a2 a3 w (pI τ 94 56 (nI 0)) = r → f_X10_act 94 (nI s) a2 a3 τ = r := fun w r h1 h2 => by
    unfold f_X10_act
    rw [bd1_s, isShelf_ok hs, bd2_s, if_neg (by rw [nI_lit 0, nI10]; exact id)]
    show bd2 (f_X10_kindOn 94 (nI s) (pI τ 94 56 (nI 0))) _ = r
    rw [h1, bd2_s]
    exact h2
  have D := Z.2.2.2.2.2.2.2.2.1 s hs4
  have g90 : ∀ i, gI (pI τ 94 56 (nI 0)) (90 + s) i = gI τ (90 + s) i := fun i => gI_ne _ _ (by omega)
  obtain ⟨-, ⟨⟨k1, k3, -⟩, -, -, kb⟩, ⟨⟨-, m8, -, -⟩, -, -, -, mb⟩, -, -⟩ := id Z
  have k3 : gI τ 1 3 = nI q.m := by rw [gI_ne _ _ (by omega)] at k3; exact k3
  have hm := I.1.2.1.1
  have neg1 : (-nI 1 < nI 0 ∨ (¬ -nI 1 < nI 0 ∧ nI 5 < -nI 1)) := .inl (by rw [nI_Nlt (by omega) (by omega) (by omega)]; trivial)
  have n9 : (nI 9 < nI 0 ∨ (¬ nI 9 < nI 0 ∧ nI 5 < nI 9)) := .inr ⟨by rw [nI_ltE (by omega) (by omega)]; omega, by rw [nI_ltE (by omega) (by omega)]; omega⟩
  rcases D with ⟨e1, e2, e3⟩ | ⟨b, hb, e1, e2, e3, e4⟩ | ⟨t, n, ht, hn', e1, e2, e3, e4, e5⟩
  · rw [g90] at e1 e2
    refine ⟨nI 0, τ, pI τ 94 56 (nI 0), q, stC _ ?_, stM _ _ (kindOn_A hs4 e3) (act21_no (.inr neg1)), Z⟩
    rw [holds_no e2, bd2_s, if_pos z00]
    rcases (arg a2 0 3 (by omega) (by omega)).symm with b | ⟨i, -, hi, rfl⟩
    · rw [nI_lit 0, nI_lit 3, within_no _ b, bd2_s, if_pos rfl]
    · rw [nI_lit 0, nI_lit 3, within_ok _ (Nat.zero_le i) hi (by decide), bd2_s, if_neg (by rw [nI10]; exact id), e1]
      have : f_X2_bidderAt (0 + 1) (-9) τ = some (none, τ) := bidAt_no k3 (bad9 (by omega))
      rw [this, bd2_s, onrN]
  · rw [g90] at e1 e2
    rcases (arg a2 0 3 (by omega) (by omega)).symm with bb | ⟨i, -, hi, rfl⟩
    · by_cases g : b < q.m
      · refine ⟨nI 0, τ, pI τ 94 56 (nI 0), q, stC _ ?_, stM _ _ (kindOn_B hs4 hm m8 g mb e3 e4) (act21_no (.inl bb)), Z⟩
        rw [holds_no e2, bd2_s, if_pos z00, nI_lit 0, nI_lit 3, within_no _ bb, bd2_s, if_pos rfl]
      · refine ⟨nI 0, τ, pI τ 94 56 (nI 0), q, stC _ ?_, stM _ _ (kindOn_B0 hs4 m8 (by omega) hb e3 e4) (act21_no (.inl bb)), Z⟩
        rw [holds_no e2, bd2_s, if_pos z00, nI_lit 0, nI_lit 3, within_no _ bb, bd2_s, if_pos rfl]
    · have pre : ∀ r, (bd2 (f_X2_bidderAt (0 + 1) (nI b) τ) fun r18 σ16 => onr r18 (some ((0 : Int32), σ16)) fun q19 => grd (kd q19 = 0) <| bd2 (f_X1_doneBy (0 + 80) q19 (gI σ16 (90 + s) 0) (nI i) a3 σ16) fun r23 σ21 => some (r23, σ21)) = r → f_X9_act 0 (nI s) (nI i) a3 σ = r := fun r h => by
        refine stC _ ?_
        rw [holds_no e2, bd2_s, if_pos z00, nI_lit 0, nI_lit 3, within_ok _ (Nat.zero_le i) hi (by decide), bd2_s, if_neg (by rw [nI10]; exact id), e1]
        exact h
      by_cases g : b < q.m
      · have ob := I.1.2.1.2 b g
        obtain ⟨v1, v2, v3⟩ := mb b g
        obtain ⟨w1, w2, w3, w4⟩ := kb b g
        have kdb := kd_bid (h := 1) (i := b) (.inl rfl) (by omega)
        simp only [Nat.reduceAdd] at kdb
        rw [gI_ne _ _ (by omega)] at w1 w2
        have w1 : gI τ (10 + b) 0 = nI (q.kind b) := w1
        have w2 : gI τ (10 + b) 1 = nI (q.a b) := w2
        have T : TC 0 [] (q.kind b) b (q.a b) (pI (pI (pI τ 80 3 (nI (q.kind b))) 80 4 (nI b)) 80 5 (nI (q.a b))) := by
          refine ⟨Nat.zero_le _, ?_, ?_, ?_, ?_, ?_, fun j hj => absurd hj (Nat.not_lt_zero j)⟩
          · rw [eτ]; simp (disch := omega) only [gI_eq, gI_ne, gL_pI, gI_pL]; rfl
          · rw [eτ]; simp (disch := omega) only [gI_eq, gI_ne, gL_pI, gI_pL]
          · simp (disch := omega) only [gI_eq, gI_ne, gL_pI, gI_pL]
          · simp (disch := omega) only [gI_eq, gI_ne, gL_pI, gI_pL]
          · simp (disch := omega) only [gI_eq, gI_ne, gL_pI, gI_pL]
        obtain ⟨w, σ1, c1, c2, c3, c4⟩ := aC hi ob.1 (by omega) ob.2.1 T a3
        have F1 : Fr WD σ σ1 := Fr_tr Fτ (Fr_tr (Fr_pI _ (Fr_pI _ (Fr_pI _ (Fr_rfl _ _) (by unfold WD; omega)) (by unfold WD; omega)) (by unfold WD; omega)) (Fr_mono c4 fun k i c => by unfold WC at c; unfold WD; omega))
        have pl := actP_le i (q.kind b) b (q.a b)
        have I1 : ∀ k j, ¬ WD k j → gI (pI σ1 94 56 (nI 0)) k j = gI σ k j := fun k j c => by rw [gI_ne _ _ (by unfold WD at c; omega)]; exact F1.1 k j c
        have T1 : ∀ k j, ¬ WD k j → gI (pI τ 94 56 (nI 0)) k j = gI σ k j := fun k j c => by rw [gI_ne _ _ (by unfold WD at c; omega)]; exact Fτ.1 k j c
        have eq1 : ∀ k j, ¬ WD k j → gI (pI σ1 94 56 (nI 0)) k j = gI (pI τ 94 56 (nI 0)) k j := fun k j c => (I1 k j c).trans (T1 k j c).symm
        have M8 : gI (pI σ1 94 56 (nI 0)) 94 8 = nI q.m := (eq1 _ _ (by unfold WD; omega)).trans m8
        have E3 : gI (pI σ1 94 56 (nI 0)) 121 s = 0 := (eq1 _ _ (by unfold WD; omega)).trans e3
        have E4 : gI (pI σ1 94 56 (nI 0)) 122 s = nI b := (eq1 _ _ (by unfold WD; omega)).trans e4
        have V2 : gI (pI σ1 94 56 (nI 0)) 102 b = nI (q.a b) := (eq1 _ _ (by unfold WD; omega)).trans v2
        have MB : MHb q (pI σ1 94 56 (nI 0)) := MHb_c mb rfl (fun _ => ⟨rfl, rfl, rfl⟩) (fun k j h1 h2 => eq1 _ _ (by unfold WD; omega))
        obtain ⟨σ2, d1, d2, d3⟩ := aM hi ob.1 (by omega : b ≤ 5) ob.2.1 hs4 E4 V2 (gI_eq _ _ ⟨rfl, rfl⟩) a3
        have F2 : Fr WD σ σ2 := Fr_tr F1 (Fr_tr (Fr_pI _ (Fr_rfl _ _) (by unfold WD; omega)) (Fr_mono d3 fun k i c => by unfold WDM at c; unfold WD; omega))
        refine ⟨if actP i (q.kind b) b (q.a b) = 0 then actV i (q.kind b) a3 b (q.a b) else -nI 15, σ1, σ2, q, pre _ ?_, ?_, inv_deed I F2 ?_⟩
        · have : f_X2_bidderAt (0 + 1) (nI b) τ = some (some (10 + b), τ) := bidAt_ok (.inl rfl) k3 hm g
          have D1 : f_X1_doneBy (0 + 80) (10 + b) (gI τ (90 + s) 0) (nI i) a3 τ = some (if actP i (q.kind b) b (q.a b) = 0 then actV i (q.kind b) a3 b (q.a b) else -nI 15, σ1) := by
            have z := c3.2.2.1
            rw [e1]
            by_cases e : actP i (q.kind b) b (q.a b) = 0
            · rw [e] at z
              rw [if_pos e, ← c2 e]
              simp (disch := omega) only [f_X1_doneBy, nI_lit, nI_eqE, bd1_s, bd2_s, onrN, onrS, grd_t, grd_T, gI_eq, gI_ne, gL_pI, gI_pL, ltT, ltF, leT, leF, eqT, eqF, ↓reduceIte, Nat.reduceAdd, w1, w2, c1, z]
            · have z1 : actP i (q.kind b) b (q.a b) = 1 := by omega
              rw [z1] at z
              rw [if_neg e]
              simp (disch := omega) only [f_X1_doneBy, nI_lit, nI_eqE, bd1_s, bd2_s, onrN, onrS, grd_t, grd_T, gI_eq, gI_ne, gL_pI, gI_pL, ltT, ltF, leT, leF, eqT, eqF, ↓reduceIte, Nat.reduceAdd, w1, w2, c1, z]
          rw [this, bd2_s, onrS, grd_t kdb, D1, bd2_s]
        · have K := kindOn_B hs4 hm M8 g MB E3 E4
          unfold f_X10_act
          rw [bd1_s, isShelf_ok hs, bd2_s, if_neg (by rw [nI_lit 0, nI10]; exact id)]
          show bd2 (f_X10_kindOn 94 (nI s) (pI σ1 94 56 (nI 0))) _ = _
          rw [K, bd2_s]
          exact d1
        · obtain ⟨l0, l1, -, -, -, -, l6⟩ := c3
          obtain ⟨n0, n1, -, -, -, -, n6⟩ := d2
          have G : ∀ k j, (k = 80 ∨ k = 81) → gI σ2 k j = gI σ1 k j := fun k j c => by
            have h1 : gI (pI σ1 94 56 (nI 0)) k j = gI σ1 k j := gI_ne _ _ (by omega)
            rw [← h1]
            exact d3.1 k j (by unfold WDM; omega)
          refine ⟨_, l0, (G _ _ (by omega)).trans l1, n1, fun j hj => ?_⟩
          rw [G _ _ (by omega), l6 j hj, n6 j hj]
      · refine ⟨nI 0, τ, pI τ 94 56 (nI 0), q, pre _ ?_, stM _ _ (kindOn_B0 hs4 m8 (by omega) hb e3 e4) (act21_no (.inr neg1)), Z⟩
        have : f_X2_bidderAt (0 + 1) (nI b) τ = some (none, τ) := bidAt_no k3 (badge (by omega : q.m ≤ b) (by omega))
        rw [this, bd2_s, onrN]
        rfl
  · rw [g90] at e1
    refine ⟨nI 0, τ, pI τ 94 56 (nI 0), q, stC _ ?_, stM _ _ (kindOn_C hs4 e3) (act21_no (.inr n9)), Z⟩
    rw [holds_yes ht e1, bd2_s, if_neg (by rw [nI_lit 0, nI10]; exact id)]
    rfl
end
