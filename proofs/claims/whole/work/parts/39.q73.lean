/-! the text of a hall: ours reads it all into the draft -/
def d0 (z : Int32) : HQ := (fun f _ => if f = 12 then 5 else if f = 13 then 9 else if f = 17 then 9 else 0, z)
section
variable {q d : HQ} {σ σ' : Mem} {T : Tp} {lo hi p b e w v k a : Nat} {x : Nat × Nat}
theorem cl_nk (h : v < 6) : f_X7_nameOfKind (nI v) σ = some (nk v, σ) := by
  have c : v = 0 ∨ v = 1 ∨ v = 2 ∨ v = 3 ∨ v = 4 ∨ v = 5 := by omega
  rcases c with rfl | rfl | rfl | rfl | rfl | rfl <;> (simp (disch := omega) only [f_X7_nameOfKind, nI_lit, nI_addE, nI_mulE, nI_ltE, nI_leE, nI_eqE, nI_eqN, nI_Neq, nI_ltN, nI_Nlt, nI_leN, nI_Nle, nI_NeN, nI_subE, bd1_s, bd2_s, onrN, onrS, grd_t, grd_T, gI_eq, gI_ne, gL_pI, gI_pL, ltT, ltF, leT, leF, eqT, eqF, if_true, if_false, true_or, or_true, ite_true, ite_false, and_true, true_and, and_false, false_and, not_false_eq_true, not_true_eq_false, ↓reduceIte, in_eq, Nat.reduceAdd, Nat.reduceMul, Nat.zero_add, cE_f, cE_t, mE_f, mE_t, within_ok, ne_eq]; try rfl)
theorem cl_kindR (K : KT T σ) (hb : b ≤ T.2) : ∀ (d v fuel : Nat), v + d = 6 → d < fuel → iterF (F_X7_kindNamed_2 46 (nI b) (nI (rwE T 97 122 b))) (fun _ _ => none) fuel (nI v) σ = some (if kNR (cdn T b) d v = 9 then -nI 3 else nI (kNR (cdn T b) d v), σ) := by
  intro d
  induction d with
  | zero =>
    intro v fuel hv hf
    obtain ⟨f, rfl⟩ : ∃ f, fuel = f + 1 := ⟨fuel - 1, by omega⟩
    show F_X7_kindNamed_2 46 (nI b) (nI (rwE T 97 122 b)) _ _ _ = some (if (9 : Nat) = 9 then -nI 3 else nI 9, σ)
    unfold F_X7_kindNamed_2
    rw [if_pos (by rw [nI_lit 6, nI_leE (by omega) (by omega)]; omega), if_pos rfl]
    rfl
  | succ d ih =>
    intro v fuel hv hf
    obtain ⟨f, rfl⟩ : ∃ f, fuel = f + 1 := ⟨fuel - 1, by omega⟩
    have r := ih (v + 1) f (by omega) (by omega)
    have kn : nk v < 12 := by unfold nk; by_cases c : v = 0 <;> simp only [c, if_true, if_false] <;> omega
    show F_X7_kindNamed_2 46 (nI b) (nI (rwE T 97 122 b)) _ _ _ = _
    generalize iterF (F_X7_kindNamed_2 46 (nI b) (nI (rwE T 97 122 b))) (fun _ _ => none) f = R at r
    unfold F_X7_kindNamed_2
    rw [if_neg (by rw [nI_lit 6, nI_leE (by omega) (by omega)]; omega), cl_nk (by omega), bd2_s, grd_t kn, cl_isName K kn hb, bd2_s]
    by_cases g : cdn T b = cod (nk v)
    · have ek : kNR (cdn T b) (d + 1) v = v := if_pos g
      rw [if_pos g, if_neg (by rw [nI_lit 0, nI10]; exact id), ek, if_neg (by omega)]
    · have ek : kNR (cdn T b) (d + 1) v = kNR (cdn T b) d (v + 1) := if_neg g
      rw [if_neg g, if_pos z00, ek, nI_lit 1, nI_addE, r]
theorem cl_kind (K : KT T σ) (hb : b ≤ T.2) : f_X7_kindNamed 46 (nI b) (nI (rwE T 97 122 b)) σ = some (if kNR (cdn T b) 6 0 = 9 then -nI 3 else nI (kNR (cdn T b) 6 0), σ) := cl_kindR K hb 6 0 FU (by omega) (FU_lt (by omega))
theorem kNR_le (c : Nat) : ∀ (d v : Nat), v + d = 6 → kNR c d v ≤ 5 ∨ kNR c d v = 9 := by
  intro d
  induction d with
  | zero => intro v _; exact .inr rfl
  | succ d ih =>
    intro v hv
    by_cases g : c = cod (nk v)
    · have ek : kNR c (d + 1) v = v := if_pos g
      omega
    · have ek : kNR c (d + 1) v = kNR c d (v + 1) := if_neg g
      rw [ek]
      exact ih (v + 1) (by omega)
theorem cl_ent (S : CS T (b, 1) σ) (D : Dr d) (C : CH 31 d σ) : ∃ σ', f_X7_readEntry 46 31 σ = some σ' ∧ CS T (sEnt T b d).1 σ' ∧ CH 31 (sEnt T b d).2 σ' ∧ Dr (sEnt T b d).2 ∧ Fr FD σ σ' := by
  obtain ⟨K, hb, S⟩ := S
  have hb : b ≤ T.2 := hb
  rcases S with ⟨-, e2, e3⟩ | ⟨c, -⟩
  rotate_left
  · exact absurd (show (1 : Nat) = 0 from c) (by decide)
  have e2 : gI σ 46 2 = nI b := e2
  have s := rw_spec (T := T) (lo := 97) (hi := 122) hb
  have S4 := CS_at K s.2.1 e3
  have K4 := S4.1
  have F4 : Fr (fun k _ => k = 46) σ (pI σ 46 2 (nI (rwE T 97 122 b))) := Fr_pI _ (Fr_rfl _ _) rfl
  have C4 := CH_46 D C F4
  have n10 : ¬ nI 1 = (0 : Int32) := by rw [nI_lit 0, nI10]; exact id
  have top : f_X7_readEntry 46 31 σ = bd2 (f_X7_kindNamed 46 (nI b) (nI (rwE T 97 122 b)) (pI σ 46 2 (nI (rwE T 97 122 b)))) fun r8 σ6 =>
      bd2 (f_X7_isName 46 (nI b) (nI (rwE T 97 122 b)) 6 σ6) fun r11 σ9 =>
      if r11 = (0 : Int32) then
        if r8 = (-3 : Int32) then
          bd2 (f_X7_isName 46 (nI b) (nI (rwE T 97 122 b)) 10 σ9) fun r16 σ14 =>
          if r16 = (0 : Int32) then
            bd2 (f_X7_isName 46 (nI b) (nI (rwE T 97 122 b)) 11 σ14) fun r20 σ18 =>
            if r20 = (0 : Int32) then some (pI σ18 46 3 (nI b))
            else bd1 (f_X7_readStep 46 31 σ18) fun σ24 => some σ24
          else bd1 (f_X7_readDraught 46 31 σ14) fun σ26 => some σ26
        else bd1 (f_X7_readBidder 46 31 (nI b) r8 σ9) fun σ28 => some σ28
      else bd1 (f_X7_readLot 46 31 (nI b) σ9) fun σ30 => some σ30 := by
    unfold f_X7_readEntry
    rw [nI_lit 97, nI_lit 122, cl_row K (by omega) (by omega) hb e2, bd2_s, bd1_s, e2]
    rfl
  rw [top, cl_kind K4 hb, bd2_s, cl_isName K4 (by omega) hb, bd2_s, cl_isName K4 (by omega) hb]
  clear top
  unfold sEnt
  by_cases c6 : cdn T b = cod 6
  · obtain ⟨σ5, a1, a2, a3, a4, a5⟩ := cl_lot S4 hb D C4
    rw [if_pos c6, if_neg n10, if_pos c6, a1, bd1_s]
    exact ⟨σ5, rfl, a2, a3, a4, Fr_tr (FD_46 F4) a5⟩
  rw [if_neg c6, if_pos z00, if_neg c6]
  have kl := kNR_le (cdn T b) 6 0 (by omega)
  by_cases k9 : kNR (cdn T b) 6 0 = 9
  rotate_left
  · obtain ⟨σ5, a1, a2, a3, a4, a5⟩ := cl_bid S4 hb (show kNR (cdn T b) 6 0 ≤ 5 by omega) D C4
    have nn : ¬ nI (kNR (cdn T b) 6 0) = (-3 : Int32) := by
      show ¬ nI (kNR (cdn T b) 6 0) = -nI 3
      rw [nI_eqN (by omega) (by omega) (by omega)]
      exact id
    rw [if_neg k9, if_neg nn, if_pos k9, a1, bd1_s]
    exact ⟨σ5, rfl, a2, a3, a4, Fr_tr (FD_46 F4) a5⟩
  rw [if_pos k9, if_pos (show -nI 3 = (-3 : Int32) from rfl), if_neg (show ¬ (kNR (cdn T b) 6 0 ≠ 9) from fun c => c k9), bd2_s]
  by_cases c10 : cdn T b = cod 10
  · obtain ⟨σ5, a1, a2, a3, a4, a5⟩ := cl_drt S4 D C4
    rw [if_pos c10, if_neg n10, if_pos c10, a1, bd1_s]
    exact ⟨σ5, rfl, a2, a3, a4, Fr_tr (FD_46 F4) a5⟩
  rw [if_neg c10, if_pos z00, if_neg c10, cl_isName K4 (by omega) hb, bd2_s]
  by_cases c11 : cdn T b = cod 11
  · obtain ⟨σ5, a1, a2, a3, a4, a5⟩ := cl_st S4 D C4
    rw [if_pos c11, if_neg n10, if_pos c11, a1, bd1_s]
    exact ⟨σ5, rfl, a2, a3, a4, Fr_tr (FD_46 F4) a5⟩
  rw [if_neg c11, if_pos z00, if_neg c11]
  have F5 : Fr (fun k _ => k = 46) σ (pI (pI σ 46 2 (nI (rwE T 97 122 b))) 46 3 (nI b)) := Fr_pI _ F4 rfl
  exact ⟨_, rfl, CS_ft K4 hb s.2.1 (gI_eq _ _ ⟨rfl, rfl⟩), CH_46 D C F5, D, FD_46 F5⟩
theorem cl_skS (S : CS T x σ) : ∃ σ', f_X7_skipBlanks 46 σ = some σ' ∧ CS T (if x.2 = 0 then x else (sk T x.1, 1)) σ' ∧ Fr (fun k _ => k = 46) σ σ' := by
  obtain ⟨K, hp, S⟩ := S
  rcases S with ⟨x2, e2, e3⟩ | ⟨x2, e3, p, hq, e4⟩
  · refine ⟨_, cl_skip K hp e2, ?_, Fr_pI _ (Fr_rfl _ _) rfl⟩
    rw [if_neg (by omega)]
    exact CS_at K (rw_spec (T := T) (lo := 32) (hi := 32) hp).2.1 e3
  · refine ⟨_, cl_skip K hq e4, ?_, Fr_pI _ (Fr_rfl _ _) rfl⟩
    rw [if_pos x2]
    exact ⟨KT_fr K fun k i c => gI_ne _ _ (by omega), hp, .inr ⟨x2, (gI_ne _ _ (by omega)).trans e3, sk T p, (rw_spec (T := T) (lo := 32) (hi := 32) hq).2.1, gI_eq _ _ ⟨rfl, rfl⟩⟩⟩
theorem CS_r (S : CS T x σ) : gI σ 46 3 = if x.2 = 0 then nI x.1 else -nI 3 := by
  obtain ⟨K, hp, S⟩ := S
  rcases S with ⟨x2, e2, e3⟩ | ⟨x2, e3, -⟩
  · rw [if_neg (by omega)]; exact e3
  · rw [if_pos x2]; exact e3
theorem cl_all : ∀ (f v : Nat) (s : (Nat × Nat) × HQ) (σ : Mem) (fuel : Nat), v + f = T.2 → f < fuel → CS T s.1 σ → Dr s.2 → CH 31 s.2 σ → ∃ σ', iterF (F_X7_readInto_17 46 31) (fun _ _ => none) fuel (nI v) σ = some (if (sAll T f s).1.2 = 0 then nI (sAll T f s).1.1 else -nI 3, σ') ∧ CS T (sAll T f s).1 σ' ∧ Dr (sAll T f s).2 ∧ CH 31 (sAll T f s).2 σ' ∧ Fr FD σ σ' := by
  intro f
  induction f with
  | zero =>
    intro v s σ fuel hv hf S D C
    obtain ⟨g, rfl⟩ : ∃ g, fuel = g + 1 := ⟨fuel - 1, by omega⟩
    have k0 := S.1.1
    refine ⟨σ, ?_, S, D, C, Fr_rfl _ _⟩
    show F_X7_readInto_17 46 31 _ _ _ = some (if s.1.2 = 0 then nI s.1.1 else -nI 3, σ)
    unfold F_X7_readInto_17
    rw [if_pos (by rw [S.1.2.1, nI_leE (by omega) (by omega)]; omega), CS_r S]
  | succ f ih =>
    intro v s σ fuel hv hf S D C
    obtain ⟨g, rfl⟩ : ∃ g, fuel = g + 1 := ⟨fuel - 1, by omega⟩
    have k0 := S.1.1
    have hi : iterF (F_X7_readInto_17 46 31) (fun _ _ => none) (g + 1) (nI v) σ = if nI T.2 ≤ gI σ 46 2 then some (gI σ 46 3, σ) else if gI σ 46 3 = (-3 : Int32) then bd1 (f_X7_readEntry 46 31 σ) fun σ10 => bd1 (f_X7_skipBlanks 46 σ10) fun σ12 => iterF (F_X7_readInto_17 46 31) (fun _ _ => none) g (nI (v + 1)) σ12 else some (gI σ 46 3, σ) := by
      show F_X7_readInto_17 46 31 _ _ _ = _
      generalize iterF (F_X7_readInto_17 46 31) (fun _ _ => none) g = R
      unfold F_X7_readInto_17
      rw [if_neg (by rw [S.1.2.1, nI_leE (by omega) (by omega)]; omega), S.1.2.1, nI_lit 1, nI_addE]
    rcases CS_if S with ⟨z, y⟩ | ⟨z, y⟩
    · have es : sAll T (f + 1) s = s := if_pos z
      rw [es]
      refine ⟨σ, ?_, S, D, C, Fr_rfl _ _⟩
      rw [hi, if_neg y, CS_r S]
      by_cases c : nI T.2 ≤ gI σ 46 2
      · rw [if_pos c]
      · rw [if_neg c]
    · have z' : ¬ s.1.2 = 0 := by omega
      have e2 : gI σ 46 2 = nI s.1.1 := by
        obtain ⟨-, -, (⟨-, e2, -⟩ | ⟨c, -⟩)⟩ := S
        · exact e2
        · omega
      have hp := S.2.1
      by_cases c : T.2 ≤ s.1.1
      · have es : sAll T (f + 1) s = s := (if_neg z').trans (if_pos c)
        rw [es]
        refine ⟨σ, ?_, S, D, C, Fr_rfl _ _⟩
        rw [hi, if_pos (by rw [e2, nI_leE (by omega) (by omega)]; exact c), CS_r S]
      · have es : sAll T (f + 1) s = sAll T f (sSk T (sEnt T s.1.1 s.2)) := (if_neg z').trans (if_neg c)
        rw [es]
        have S1 : CS T (s.1.1, 1) σ := by
          have e : s.1 = (s.1.1, 1) := by rw [← z]
          rw [← e]
          exact S
        obtain ⟨σ1, a1, a2, a3, a4, a5⟩ := cl_ent S1 D C
        obtain ⟨σ2, b1, b2, b3⟩ := cl_skS a2
        have ef : (sSk T (sEnt T s.1.1 s.2)).1 = if (sEnt T s.1.1 s.2).1.2 = 0 then (sEnt T s.1.1 s.2).1 else (sk T (sEnt T s.1.1 s.2).1.1, 1) := by
          unfold sSk
          by_cases c : (sEnt T s.1.1 s.2).1.2 = 0
          · rw [if_pos c, if_pos c]
          · rw [if_neg c, if_neg c]
        have eg : (sSk T (sEnt T s.1.1 s.2)).2 = (sEnt T s.1.1 s.2).2 := by
          unfold sSk
          by_cases c : (sEnt T s.1.1 s.2).1.2 = 0
          · rw [if_pos c]
          · rw [if_neg c]
        obtain ⟨σ3, r1, r2, r3, r4, r5⟩ := ih (v + 1) (sSk T (sEnt T s.1.1 s.2)) σ2 g (by omega) (by omega) (by rw [ef]; exact b2) (by rw [eg]; exact a4) (by rw [eg]; exact CH_46 a4 a3 b3)
        refine ⟨σ3, ?_, r2, r3, r4, Fr_tr a5 (Fr_tr (FD_46 b3) r5)⟩
        rw [hi, if_neg (by rw [e2, nI_leE (by omega) (by omega)]; exact c), if_pos y, a1, bd1_s, b1, bd1_s]
        exact r1
theorem cl_into (K : KT T σ) (D : Dr d) (C : CH 31 d σ) : ∃ σ', f_X7_readInto 46 31 σ = some (if (sAll T T.2 ((sk T 0, 1), d)).1.2 = 0 then nI (sAll T T.2 ((sk T 0, 1), d)).1.1 else -nI 3, σ') ∧ CS T (sAll T T.2 ((sk T 0, 1), d)).1 σ' ∧ Dr (sAll T T.2 ((sk T 0, 1), d)).2 ∧ CH 31 (sAll T T.2 ((sk T 0, 1), d)).2 σ' ∧ Fr FD σ σ' := by
  have k0 := K.1
  have F1 : Fr (fun k _ => k = 46) σ (pI (pI σ 46 2 (nI 0)) 46 3 (-nI 3)) := Fr_pI _ (Fr_pI _ (Fr_rfl _ _) rfl) rfl
  have S1 : CS T (0, 1) (pI (pI σ 46 2 (nI 0)) 46 3 (-nI 3)) := ⟨KT_fr K fun k i c => by rw [gI_ne _ _ (by omega), gI_ne _ _ (by omega)], Nat.zero_le _, .inl ⟨rfl, by rw [gI_ne _ _ (by omega)]; exact gI_eq _ _ ⟨rfl, rfl⟩, gI_eq _ _ ⟨rfl, rfl⟩⟩⟩
  obtain ⟨σ2, b1, b2, b3⟩ := cl_skS S1
  have b2 : CS T (sk T 0, 1) σ2 := b2
  have F2 := Fr_tr F1 b3
  obtain ⟨σ3, r1, r2, r3, r4, r5⟩ := cl_all T.2 0 ((sk T 0, 1), d) σ2 FU (by omega) (FU_lt (by omega)) b2 D (CH_46 D C F2)
  refine ⟨σ3, ?_, r2, r3, r4, Fr_tr (FD_46 F2) r5⟩
  unfold f_X7_readInto
  rw [bd1_s, bd1_s]
  have b1 : f_X7_skipBlanks 46 (pI (pI σ 46 2 (0 : Int32)) 46 3 (-3 : Int32)) = some σ2 := b1
  rw [b1, bd1_s]
  exact r1
theorem clear_loop : ∀ (d i : Nat) (σ1 : Mem) (fuel : Nat), i + d = 12 → d < fuel → Fr (fun k _ => k = 34) σ σ1 → (∀ j, j < i → gI σ1 34 j = nI 0) → ∃ σ2, iterF (F_X2_clear_12 31) (fun _ _ => none) fuel (nI i) σ1 = some (pI (pI σ2 31 5 (nI 5)) 31 7 (-nI 9)) ∧ Fr (fun k _ => k = 34) σ σ2 ∧ ∀ j, j < 12 → gI σ2 34 j = nI 0 := by
  intro d
  induction d with
  | zero =>
    intro i σ1 fuel hi hf F E
    obtain ⟨f, rfl⟩ : ∃ f, fuel = f + 1 := ⟨fuel - 1, by omega⟩
    refine ⟨σ1, ?_, F, fun j hj => E j (by omega)⟩
    show F_X2_clear_12 31 _ _ _ = _
    unfold F_X2_clear_12
    rw [if_pos (by rw [nI_lit 12, nI_leE (by omega) (by omega)]; omega)]
    rfl
  | succ d ih =>
    intro i σ1 fuel hi hf F E
    obtain ⟨f, rfl⟩ : ∃ f, fuel = f + 1 := ⟨fuel - 1, by omega⟩
    obtain ⟨σ2, r1, r2⟩ := ih (i + 1) (pI σ1 34 i (nI 0)) f (by omega) (by omega) (Fr_pI _ F rfl) (fun j hj => by
      by_cases c : j = i
      · exact gI_eq _ _ ⟨rfl, c⟩
      · rw [gI_ne _ _ (by omega)]; exact E j (by omega))
    refine ⟨σ2, Eq.trans ?_ r1, r2⟩
    have i1 : ixo 34 (nI i) = some i := ixo_34 (by omega)
    show F_X2_clear_12 31 _ _ _ = _
    generalize iterF (F_X2_clear_12 31) (fun _ _ => none) f = R
    unfold F_X2_clear_12
    rw [if_neg (by rw [nI_lit 12, nI_leE (by omega) (by omega)]; omega)]
    simp only [Nat.reduceAdd, i1, bd1_s]
    rw [nI_lit 1, nI_addE]
    rfl
theorem Dr_0 (z : Int32) : Dr (d0 z) := by
  refine ⟨⟨⟨by show (0 : Nat) ≤ 5; omega, fun i hi => absurd (show i < 0 from hi) (by omega)⟩, ⟨by show (0 : Nat) ≤ 6; omega, fun i hi => absurd (show i < 0 from hi) (by omega)⟩, ?_⟩, rfl, fun i hi => absurd (show i < 0 from hi) (by omega)⟩
  refine ⟨fun p _ => by show (0 : Nat) ≤ 3; omega, by show (1 : Nat) ≤ 5 ∧ (5 : Nat) ≤ 20; omega, .inr rfl, Nat.le_refl _, fun h => absurd (show (9 : Nat) < 0 from h) (by omega), by show (0 : Nat) ≤ 9999; omega, .inr ⟨rfl, rfl⟩, fun _ => ⟨rfl, rfl, rfl, rfl⟩⟩
theorem cl_clear (fl : ∀ i, i < 5 → gI σ (35 + i) 2 = 0 ∨ gI σ (35 + i) 2 = 1) : ∃ σ', f_X2_clear 31 σ = some σ' ∧ CH 31 (d0 (gI σ 31 6)) σ' ∧ Fr (FH 31) σ σ' := by
  obtain ⟨σ2, r1, r2, r3⟩ := clear_loop (σ := pI (pI σ 31 1 (nI 0)) 31 3 (nI 0)) 12 0 _ FU (by omega) (FU_lt (by omega)) (Fr_rfl _ _) (fun j hj => absurd hj (Nat.not_lt_zero j))
  have g : ∀ k i, k ≠ 34 → gI σ2 k i = gI (pI (pI σ 31 1 (nI 0)) 31 3 (nI 0)) k i := r2.1
  have F0 : Fr (FH 31) σ (pI (pI σ 31 1 (nI 0)) 31 3 (nI 0)) := Fr_pI _ (Fr_pI _ (Fr_rfl _ _) (by unfold FH; omega)) (by unfold FH; omega)
  have F1 : Fr (FH 31) σ σ2 := Fr_tr F0 (Fr_mono r2 fun k i c => by unfold FH; omega)
  refine ⟨pI (pI σ2 31 5 (nI 5)) 31 7 (-nI 9), ?_, ?_, Fr_pI _ (Fr_pI _ F1 (by unfold FH; omega)) (by unfold FH; omega)⟩
  · unfold f_X2_clear
    rw [bd1_s, bd1_s]
    exact r1
  · refine ⟨⟨?_, ?_, ?_, ?_, ?_, fun c => absurd rfl c⟩, fun j hj => ?_, ⟨fun i hi => absurd (show i < 0 from hi) (by omega), fun i hi => ?_⟩, fun i hi => absurd (show i < 0 from hi) (by omega)⟩
    · simp (disch := omega) only [gI_eq, gI_ne, gL_pI, gI_pL, g]; rfl
    · simp (disch := omega) only [gI_eq, gI_ne, gL_pI, gI_pL, g]; rfl
    · simp (disch := omega) only [gI_eq, gI_ne, gL_pI, gI_pL, g]; rfl
    · simp (disch := omega) only [gI_eq, gI_ne, gL_pI, gI_pL, g]; rfl
    · simp (disch := omega) only [gI_eq, gI_ne, gL_pI, gI_pL, g]; rfl
    · rw [gI_ne _ _ (by omega), gI_ne _ _ (by omega)]
      exact r3 j hj
    · have e35 : 31 + 4 + i = 35 + i := by omega
      rw [gI_ne _ _ (by omega), gI_ne _ _ (by omega), g _ _ (by omega), gI_ne _ _ (by omega), gI_ne _ _ (by omega), e35]
      exact fl i hi
end
