/-! the text of a hall: the model reads it all -/
section
variable {q d : HQ} {σ σ' : Mem} {T : Tp} {lo hi p b e w v k a : Nat} {x : Nat × Nat}
theorem md_kind (K : Tok T b σ) (hb : b ≤ T.2) : f_X10_kindHere 94 σ = some (mE (kNR (cdn T b) 6 0), σ) := by
  have c5 : (33562584 : Int64) = nL (cod 5) := by rw [cod_t.1]; rfl
  have c0 : (237470 : Int64) = nL (cod 0) := by rw [cod_t.2.1]; rfl
  have c1 : (174875589 : Int64) = nL (cod 1) := by rw [cod_t.2.2.1]; rfl
  have c2 : (280258371 : Int64) = nL (cod 2) := by rw [cod_t.2.2.2.1]; rfl
  have c3 : (38567169 : Int64) = nL (cod 3) := by rw [cod_t.2.2.2.2.1]; rfl
  have c4 : (1306021 : Int64) = nL (cod 4) := by rw [cod_t.2.2.2.2.2.1]; rfl
  have ek : kNR (cdn T b) 6 0 = if cdn T b = cod 5 then 0 else if cdn T b = cod 0 then 1 else if cdn T b = cod 1 then 2 else if cdn T b = cod 2 then 3 else if cdn T b = cod 3 then 4 else if cdn T b = cod 4 then 5 else 9 := rfl
  rw [ek]
  unfold f_X10_kindHere
  rw [c5, md_isWord K hb (by omega), bd2_s]
  by_cases h5 : cdn T b = cod 5
  · rw [if_pos h5, if_neg n10, if_pos h5]; rfl
  rw [if_neg h5, if_pos z00, if_neg h5, c0, md_isWord K hb (by omega), bd2_s]
  by_cases h0 : cdn T b = cod 0
  · rw [if_pos h0, if_neg n10, if_pos h0]; rfl
  rw [if_neg h0, if_pos z00, if_neg h0, c1, md_isWord K hb (by omega), bd2_s]
  by_cases h1 : cdn T b = cod 1
  · rw [if_pos h1, if_neg n10, if_pos h1]; rfl
  rw [if_neg h1, if_pos z00, if_neg h1, c2, md_isWord K hb (by omega), bd2_s]
  by_cases h2 : cdn T b = cod 2
  · rw [if_pos h2, if_neg n10, if_pos h2]; rfl
  rw [if_neg h2, if_pos z00, if_neg h2, c3, md_isWord K hb (by omega), bd2_s]
  by_cases h3 : cdn T b = cod 3
  · rw [if_pos h3, if_neg n10, if_pos h3]; rfl
  rw [if_neg h3, if_pos z00, if_neg h3, c4, md_isWord K hb (by omega), bd2_s]
  by_cases h4 : cdn T b = cod 4
  · rw [if_pos h4, if_neg n10, if_pos h4]; rfl
  rw [if_neg h4, if_pos z00, if_neg h4]
  rfl
theorem kNR_nz {c : Nat} (h : kNR c 6 0 ≠ 9) : c ≠ 0 := fun z => by
  rw [z] at h
  exact h (by decide)
theorem md_ent (S : MS T (b, 1) σ) (hs : sk T b = b) (M : MF d σ) (D : Dr d) : ∃ σ', f_X10_wantClause 94 σ = some σ' ∧ MS T (sEnt T b d).1 σ' ∧ ((sEnt T b d).1.2 ≠ 0 → MF (sEnt T b d).2 σ') ∧ Fq FX σ σ' := by
  have hb : b ≤ T.2 := S.2.1
  obtain ⟨K, e22⟩ := MS_tok S hs
  have c6 : (9173 : Int64) = nL (cod 6) := by rw [cod_t.2.2.2.2.2.2.1]; rfl
  have c10 : (1808912405 : Int64) = nL (cod 10) := by rw [cod_t.2.2.2.2.2.2.2.2.2.2.1]; rfl
  have c11 : (388708 : Int64) = nL (cod 11) := by rw [cod_t.2.2.2.2.2.2.2.2.2.2.2]; rfl
  have nz : ∀ w, w < 12 → cod w ≠ 0 := fun w hw => by have := (cod_lt w hw).1; omega
  unfold f_X10_wantClause sEnt
  rw [c6, md_isWord K hb (by omega), bd2_s]
  by_cases h6 : cdn T b = cod 6
  · obtain ⟨σ1, a1, a2⟩ := md_lot S hs (by rw [h6]; exact nz 6 (by omega)) M D
    rw [if_pos h6, if_neg n10, a1, bd1_s, if_pos h6]
    exact ⟨σ1, rfl, a2⟩
  rw [if_neg h6, if_pos z00, if_neg h6, c10, md_isWord K hb (by omega), bd2_s]
  by_cases h10 : cdn T b = cod 10
  · obtain ⟨σ1, a1, a2⟩ := md_dr2 S hs (by rw [h10]; exact nz 10 (by omega)) M
    have k9 : kNR (cdn T b) 6 0 = 9 := by rw [h10]; decide
    rw [if_pos h10, if_neg n10, a1, bd1_s, if_neg (show ¬ (kNR (cdn T b) 6 0 ≠ 9) from fun c => c k9), if_pos h10]
    exact ⟨σ1, rfl, a2⟩
  rw [if_neg h10, if_pos z00, c11, md_isWord K hb (by omega), bd2_s]
  by_cases h11 : cdn T b = cod 11
  · obtain ⟨σ1, a1, a2⟩ := md_st2 S hs (by rw [h11]; exact nz 11 (by omega)) M
    have k9 : kNR (cdn T b) 6 0 = 9 := by rw [h11]; decide
    rw [if_pos h11, if_neg n10, a1, if_neg (show ¬ (kNR (cdn T b) 6 0 ≠ 9) from fun c => c k9), if_neg h10, if_pos h11]
    exact ⟨σ1, rfl, a2⟩
  rw [if_neg h11, if_pos z00, md_kind K hb, bd2_s, md_kind K hb]
  have kl := kNR_le (cdn T b) 6 0 (by omega)
  by_cases k9 : kNR (cdn T b) 6 0 = 9
  · have em : mE (kNR (cdn T b) 6 0) = -nI 1 := by rw [k9]; rfl
    rw [em, if_pos (by decide), bd1_s, if_neg (show ¬ (kNR (cdn T b) 6 0 ≠ 9) from fun c => c k9), if_neg h10, if_neg h11]
    exact ⟨_, rfl, MS_ft S.1 hb K.1, fun c => absurd rfl c, FX_W F22⟩
  · have em : mE (kNR (cdn T b) 6 0) = nI (kNR (cdn T b) 6 0) := if_neg k9
    obtain ⟨σ1, a1, a2⟩ := md_bid (k := kNR (cdn T b) 6 0) S hs (kNR_nz k9) M D
    rw [em, if_neg (by rw [nI_lit 0, nI_ltE (by omega) (by omega)]; omega), bd2_s, a1, bd1_s, if_pos k9]
    exact ⟨σ1, rfl, a2⟩
theorem sk_ge (h : p ≤ T.2) : p ≤ sk T p ∧ sk T p ≤ T.2 := by
  have s := rw_spec (T := T) (lo := 32) (hi := 32) h
  exact ⟨s.1, s.2.1⟩
theorem sNum_ge (hx : x.1 ≤ T.2) (h : (sNum T lo hi x).2 ≠ 0) : x.1 ≤ (sNum T lo hi x).1 ∧ (sNum T lo hi x).1 ≤ T.2 := by
  have g := sNum_nz h
  have s := sk_ge hx
  have r := rw_spec (T := T) (lo := 48) (hi := 57) s.2
  have e : sNum T lo hi x = if sk T x.1 < rwE T 48 57 (sk T x.1) ∧ rwE T 48 57 (sk T x.1) ≤ sk T x.1 + 4 ∧ lo ≤ nuT T (sk T x.1) ∧ nuT T (sk T x.1) ≤ hi then (rwE T 48 57 (sk T x.1), 1) else (sk T x.1, 0) := if_neg g
  rw [e] at h ⊢
  by_cases c : sk T x.1 < rwE T 48 57 (sk T x.1) ∧ rwE T 48 57 (sk T x.1) ≤ sk T x.1 + 4 ∧ lo ≤ nuT T (sk T x.1) ∧ nuT T (sk T x.1) ≤ hi
  · rw [if_pos c]
    show x.1 ≤ rwE T 48 57 (sk T x.1) ∧ rwE T 48 57 (sk T x.1) ≤ T.2
    omega
  · rw [if_neg c] at h
    exact absurd rfl h
theorem sWord_ge (hx : x.1 ≤ T.2) (h : (sWord T w x).2 ≠ 0) : x.1 ≤ (sWord T w x).1 ∧ (sWord T w x).1 ≤ T.2 := by
  have g := sWord_nz h
  have s := sk_ge hx
  have r := rw_spec (T := T) (lo := 97) (hi := 122) s.2
  have e : sWord T w x = if cdn T (sk T x.1) = cod w then (rwE T 97 122 (sk T x.1), 1) else (sk T x.1, 0) := if_neg g
  rw [e] at h ⊢
  by_cases c : cdn T (sk T x.1) = cod w
  · rw [if_pos c]
    show x.1 ≤ rwE T 97 122 (sk T x.1) ∧ rwE T 97 122 (sk T x.1) ≤ T.2
    omega
  · rw [if_neg c] at h
    exact absurd rfl h
theorem sEnd_ge (hx : x.1 ≤ T.2) (h : (sEnd T x).2 ≠ 0) : x.1 ≤ (sEnd T x).1 ∧ (sEnd T x).1 ≤ T.2 := by
  have g := sEnd_nz h
  have s := sk_ge hx
  have e : sEnd T x = if sk T x.1 < T.2 ∧ T.1 (sk T x.1) = 59 then (sk T x.1 + 1, 1) else (sk T x.1, 0) := if_neg g
  rw [e] at h ⊢
  by_cases c : sk T x.1 < T.2 ∧ T.1 (sk T x.1) = 59
  · rw [if_pos c]
    show x.1 ≤ sk T x.1 + 1 ∧ sk T x.1 + 1 ≤ T.2
    omega
  · rw [if_neg c] at h
    exact absurd rfl h
theorem cdn_gt (hb : b ≤ T.2) (h : cdn T b ≠ 0) : b < rwE T 97 122 b := by
  have s := rw_spec (T := T) (lo := 97) (hi := 122) hb
  by_cases c : b < rwE T 97 122 b
  · exact c
  · exfalso
    apply h
    have e0 : rwE T 97 122 b - b = 0 := by omega
    unfold cdn
    rw [e0]
    rfl
theorem sEnt_gt (hb : b ≤ T.2) (h : (sEnt T b d).1.2 ≠ 0) : b < (sEnt T b d).1.1 := by
  have he := (rw_spec (T := T) (lo := 97) (hi := 122) hb).2.1
  have nz : ∀ w, w < 12 → cod w ≠ 0 := fun w hw => by have := (cod_lt w hw).1; omega
  unfold sEnt at h ⊢
  by_cases h6 : cdn T b = cod 6
  · have g := cdn_gt hb (by rw [h6]; exact nz 6 (by omega))
    rw [if_pos h6] at h ⊢
    unfold eLot at h ⊢
    by_cases c : d.n < 5
    · rw [if_pos c] at h ⊢
      have h4 : (lD T (rwE T 97 122 b)).2 ≠ 0 := h
      have h3 := sEnd_nz h4
      have h2 := sNum_nz h3
      have h1 := sWord_nz h2
      have g1 := sNum_ge (x := (rwE T 97 122 b, 1)) he h1
      have g2 := sWord_ge g1.2 h2
      have g3 := sNum_ge g2.2 h3
      have g4 := sEnd_ge g3.2 h4
      have g1 : rwE T 97 122 b ≤ _ := g1.1
      exact Nat.lt_of_lt_of_le g (Nat.le_trans g1 (Nat.le_trans g2.1 (Nat.le_trans g3.1 g4.1)))
    · rw [if_neg c] at h
      exact absurd rfl h
  rw [if_neg h6] at h ⊢
  by_cases k9 : kNR (cdn T b) 6 0 ≠ 9
  · have g := cdn_gt hb (kNR_nz k9)
    rw [if_pos k9] at h ⊢
    unfold eBid at h ⊢
    by_cases c : d.m < 6
    · rw [if_pos c] at h ⊢
      have h6 : (bF T (rwE T 97 122 b)).2 ≠ 0 := h
      have h5 := sEnd_nz h6
      have h4 := sNum_nz h5
      have h3 := sWord_nz h4
      have h2 := sNum_nz h3
      have h1 := sWord_nz h2
      have g1 := sNum_ge (x := (rwE T 97 122 b, 1)) he h1
      have g2 := sWord_ge g1.2 h2
      have g3 := sNum_ge g2.2 h3
      have g4 := sWord_ge g3.2 h4
      have g5 := sNum_ge g4.2 h5
      have g6 := sEnd_ge g5.2 h6
      have g1 : rwE T 97 122 b ≤ _ := g1.1
      exact Nat.lt_of_lt_of_le g (Nat.le_trans g1 (Nat.le_trans g2.1 (Nat.le_trans g3.1 (Nat.le_trans g4.1 (Nat.le_trans g5.1 g6.1)))))
    · rw [if_neg c] at h
      exact absurd rfl h
  rw [if_neg k9] at h ⊢
  by_cases h10 : cdn T b = cod 10
  · have g := cdn_gt hb (by rw [h10]; exact nz 10 (by omega))
    rw [if_pos h10] at h ⊢
    have h3 : (gC T (rwE T 97 122 b)).2 ≠ 0 := h
    have h2 := sEnd_nz h3
    have h1 := sNum_nz h2
    have g1 := sNum_ge (x := (rwE T 97 122 b, 1)) he h1
    have g2 := sNum_ge g1.2 h2
    have g3 := sEnd_ge g2.2 h3
    have g1 : rwE T 97 122 b ≤ _ := g1.1
    exact Nat.lt_of_lt_of_le g (Nat.le_trans g1 (Nat.le_trans g2.1 g3.1))
  rw [if_neg h10] at h ⊢
  by_cases h11 : cdn T b = cod 11
  · have g := cdn_gt hb (by rw [h11]; exact nz 11 (by omega))
    rw [if_pos h11] at h ⊢
    have h3 : (tB T (rwE T 97 122 b)).2 ≠ 0 := h
    have h2 := sEnd_nz h3
    have g1 := sNum_ge (x := (rwE T 97 122 b, 1)) he h2
    have g3 := sEnd_ge g1.2 h3
    have g1 : rwE T 97 122 b ≤ _ := g1.1
    exact Nat.lt_of_lt_of_le g (Nat.le_trans g1 g3.1)
  rw [if_neg h11] at h
  exact absurd rfl h
theorem sEnt_Dr (hb : b ≤ T.2) (D : Dr d) : Dr (sEnt T b d).2 := by
  unfold sEnt
  have kl := kNR_le (cdn T b) 6 0 (by omega)
  have nv : ∀ (lo hi : Nat) (y : Nat × Nat), (sNum T lo hi y).2 ≠ 0 → lo ≤ nuT T (sk T y.1) ∧ nuT T (sk T y.1) ≤ hi := fun lo hi y h => by
    have g := sNum_nz h
    have e : sNum T lo hi y = if sk T y.1 < rwE T 48 57 (sk T y.1) ∧ rwE T 48 57 (sk T y.1) ≤ sk T y.1 + 4 ∧ lo ≤ nuT T (sk T y.1) ∧ nuT T (sk T y.1) ≤ hi then (rwE T 48 57 (sk T y.1), 1) else (sk T y.1, 0) := if_neg g
    rw [e] at h
    by_cases c : sk T y.1 < rwE T 48 57 (sk T y.1) ∧ rwE T 48 57 (sk T y.1) ≤ sk T y.1 + 4 ∧ lo ≤ nuT T (sk T y.1) ∧ nuT T (sk T y.1) ≤ hi
    · exact c.2.2
    · rw [if_neg c] at h
      exact absurd rfl h
  by_cases h6 : cdn T b = cod 6
  · rw [if_pos h6]
    unfold eLot
    by_cases c : d.n < 5
    · rw [if_pos c]
      by_cases z : (lD T (rwE T 97 122 b)).2 = 0
      · simp only [if_pos z]; exact D
      · simp only [if_neg z]
        have h3 := sEnd_nz z
        have h1 := sWord_nz (sNum_nz h3)
        exact Dr_L D c (nv 1 60 (rwE T 97 122 b, 1) h1) (nv 1 99 _ h3)
    · rw [if_neg c]; exact D
  rw [if_neg h6]
  by_cases k9 : kNR (cdn T b) 6 0 ≠ 9
  · rw [if_pos k9]
    unfold eBid
    by_cases c : d.m < 6
    · rw [if_pos c]
      by_cases z : (bF T (rwE T 97 122 b)).2 = 0
      · simp only [if_pos z]; exact D
      · simp only [if_neg z]
        have h5 := sEnd_nz z
        have h3 := sWord_nz (sNum_nz h5)
        have h1 := sWord_nz (sNum_nz h3)
        exact Dr_B D c (by omega) (nv 0 9 (rwE T 97 122 b, 1) h1).2 (nv 0 999 _ h3).2 (nv 0 9999 _ h5).2
    · rw [if_neg c]; exact D
  rw [if_neg k9]
  by_cases h10 : cdn T b = cod 10
  · rw [if_pos h10]
    unfold eDr
    by_cases z : (gC T (rwE T 97 122 b)).2 = 0
    · simp only [if_pos z]; exact D
    · simp only [if_neg z]
      have h2 := sEnd_nz z
      have h1 := sNum_nz h2
      exact Dr_D D (nv 0 11 (rwE T 97 122 b, 1) h1).2 (nv 0 3 _ h2).2
  rw [if_neg h10]
  by_cases h11 : cdn T b = cod 11
  · rw [if_pos h11]
    unfold eSt
    by_cases z : (tB T (rwE T 97 122 b)).2 = 0
    · simp only [if_pos z]; exact D
    · simp only [if_neg z]
      have h2 := sEnd_nz z
      exact Dr_S D (nv 1 20 (rwE T 97 122 b, 1) h2)
  rw [if_neg h11]
  exact D
theorem md_all : ∀ (f : Nat) (s : (Nat × Nat) × HQ) (σ : Mem) (fuel : Nat), T.2 ≤ f + s.1.1 → f < fuel → MS T s.1 σ → (s.1.2 ≠ 0 → MF s.2 σ ∧ sk T s.1.1 = s.1.1) → Dr s.2 → ∃ σ1 R, MS T (sAll T f s).1 σ1 ∧ ((sAll T f s).1.2 ≠ 0 → MF (sAll T f s).2 σ1 ∧ T.2 ≤ (sAll T f s).1.1 ∧ sk T (sAll T f s).1.1 = (sAll T f s).1.1) ∧ Fq FX σ σ1 ∧ iterF (F_X10_hall_50 94) (fun _ => none) fuel σ = F_X10_hall_50 94 R σ1 := by
  intro f
  induction f with
  | zero =>
    intro s σ fuel hv hf S M D
    obtain ⟨g, rfl⟩ : ∃ g, fuel = g + 1 := ⟨fuel - 1, by omega⟩
    exact ⟨σ, _, S, fun c => ⟨(M c).1, by show T.2 ≤ s.1.1; omega, (M c).2⟩, Fq_rfl _ _, rfl⟩
  | succ f ih =>
    intro s σ fuel hv hf S M D
    obtain ⟨g, rfl⟩ : ∃ g, fuel = g + 1 := ⟨fuel - 1, by omega⟩
    by_cases z : s.1.2 = 0
    · have es : sAll T (f + 1) s = s := if_pos z
      rw [es]
      exact ⟨σ, _, S, fun c => absurd z c, Fq_rfl _ _, rfl⟩
    by_cases c : T.2 ≤ s.1.1
    · have es : sAll T (f + 1) s = s := (if_neg z).trans (if_pos c)
      rw [es]
      exact ⟨σ, _, S, fun h => ⟨(M h).1, c, (M h).2⟩, Fq_rfl _ _, rfl⟩
    have es : sAll T (f + 1) s = sAll T f (sSk T (sEnt T s.1.1 s.2)) := (if_neg z).trans (if_neg c)
    rw [es]
    have hb : s.1.1 ≤ T.2 := S.2.1
    have z1 : s.1.2 = 1 := by
      obtain ⟨-, -, (⟨h, -⟩ | ⟨h, -⟩)⟩ := S
      · exact h
      · exact absurd h z
    have S1 : MS T (s.1.1, 1) σ := by
      have e : s.1 = (s.1.1, 1) := by rw [← z1]
      rw [← e]
      exact S
    obtain ⟨M1, hs⟩ := M z
    obtain ⟨K, e22⟩ := MS_tok S1 hs
    obtain ⟨σ1, a1, a2, a3, a4⟩ := md_ent S1 hs M1 D
    have eg : (sSk T (sEnt T s.1.1 s.2)).2 = (sEnt T s.1.1 s.2).2 := by
      unfold sSk
      by_cases c : (sEnt T s.1.1 s.2).1.2 = 0
      · rw [if_pos c]
      · rw [if_neg c]
    have step : iterF (F_X10_hall_50 94) (fun _ => none) (g + 1) σ = iterF (F_X10_hall_50 94) (fun _ => none) g σ1 := by
      show F_X10_hall_50 94 _ σ = _
      generalize iterF (F_X10_hall_50 94) (fun _ => none) g = R
      unfold F_X10_hall_50
      rw [if_neg (by rw [e22]; exact n10), if_neg, a1, bd1_s]
      rw [K.2.1]
      have : tS T s.1.1 ≠ 0 ∧ tS T s.1.1 ≤ 3 := by
        unfold tS
        rw [if_neg c]
        split <;> (try split) <;> omega
      rw [nI_lit 0, nI_eqE (by omega) (by omega)]
      exact this.1
    have D1 : Dr (sSk T (sEnt T s.1.1 s.2)).2 := by rw [eg]; exact sEnt_Dr hb D
    by_cases y : (sEnt T s.1.1 s.2).1.2 = 0
    · have ef : sSk T (sEnt T s.1.1 s.2) = sEnt T s.1.1 s.2 := if_pos y
      have e2 : sAll T f (sSk T (sEnt T s.1.1 s.2)) = sSk T (sEnt T s.1.1 s.2) := by
        rw [ef]
        cases f with
        | zero => rfl
        | succ f => exact if_pos y
      obtain ⟨g, rfl⟩ : ∃ k, g = k + 1 := ⟨g - 1, by omega⟩
      rw [e2, ef]
      exact ⟨σ1, _, a2, fun h => absurd y h, a4, step⟩
    · have ef : sSk T (sEnt T s.1.1 s.2) = ((sk T (sEnt T s.1.1 s.2).1.1, 1), (sEnt T s.1.1 s.2).2) := if_neg y
      have gt := sEnt_gt hb y
      have le := sk_ge a2.2.1
      have S2 : MS T (sk T (sEnt T s.1.1 s.2).1.1, 1) σ1 := by
        obtain ⟨J, hp, (⟨h1, h2, h3⟩ | ⟨h1, -⟩)⟩ := a2
        · refine ⟨J, le.2, .inl ⟨rfl, h2, ?_⟩⟩
          show Tok T (sk T (sk T (sEnt T s.1.1 s.2).1.1)) σ1
          rw [sk_sk hp]
          exact h3
        · exact absurd h1 y
      obtain ⟨σ2, R, r1, r2, r3, r4⟩ := ih (sSk T (sEnt T s.1.1 s.2)) σ1 g (by rw [ef]; show T.2 ≤ f + sk T (sEnt T s.1.1 s.2).1.1; omega) (by omega) (by rw [ef]; exact S2) (fun _ => by rw [ef]; exact ⟨a3 y, sk_sk a2.2.1⟩) D1
      exact ⟨σ2, R, r1, r2, Fq_tr a4 r3, step.trans r4⟩
end
