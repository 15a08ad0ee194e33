/-! the text of a hall: ours reads a number, a word, an end -/
def sNum (T : Tp) (lo hi : Nat) (x : Nat × Nat) : Nat × Nat := if x.2 = 0 then x else if sk T x.1 < rwE T 48 57 (sk T x.1) ∧ rwE T 48 57 (sk T x.1) ≤ sk T x.1 + 4 ∧ lo ≤ nuT T (sk T x.1) ∧ nuT T (sk T x.1) ≤ hi then (rwE T 48 57 (sk T x.1), 1) else (sk T x.1, 0)
def sWord (T : Tp) (w : Nat) (x : Nat × Nat) : Nat × Nat := if x.2 = 0 then x else if cdn T (sk T x.1) = cod w then (rwE T 97 122 (sk T x.1), 1) else (sk T x.1, 0)
def sEnd (T : Tp) (x : Nat × Nat) : Nat × Nat := if x.2 = 0 then x else if sk T x.1 < T.2 ∧ T.1 (sk T x.1) = 59 then (sk T x.1 + 1, 1) else (sk T x.1, 0)
/-- where ours reads -/
def CS (T : Tp) (x : Nat × Nat) (σ : Mem) : Prop := KT T σ ∧ x.1 ≤ T.2 ∧ ((x.2 = 1 ∧ gI σ 46 2 = nI x.1 ∧ gI σ 46 3 = -nI 3) ∨ (x.2 = 0 ∧ gI σ 46 3 = nI x.1 ∧ ∃ p, p ≤ T.2 ∧ gI σ 46 2 = nI p))
section
variable {q : HQ} {σ σ' : Mem} {T : Tp} {lo hi p b w : Nat} {x : Nat × Nat}
theorem sNum_nz (h : (sNum T lo hi x).2 ≠ 0) : x.2 ≠ 0 := fun c => by
  have e : sNum T lo hi x = x := if_pos c
  rw [e] at h
  exact h c
theorem sWord_nz (h : (sWord T w x).2 ≠ 0) : x.2 ≠ 0 := fun c => by
  have e : sWord T w x = x := if_pos c
  rw [e] at h
  exact h c
theorem sEnd_nz (h : (sEnd T x).2 ≠ 0) : x.2 ≠ 0 := fun c => by
  have e : sEnd T x = x := if_pos c
  rw [e] at h
  exact h c
theorem CS_at (K : KT T σ) (hp : p ≤ T.2) (e3 : gI σ 46 3 = -nI 3) : CS T (p, 1) (pI σ 46 2 (nI p)) := ⟨KT_fr K fun k i c => gI_ne _ _ (by omega), hp, .inl ⟨rfl, gI_eq _ _ ⟨rfl, rfl⟩, (gI_ne _ _ (by omega)).trans e3⟩⟩
theorem CS_ft (K : KT T σ) (hp : p ≤ T.2) {r : Nat} (hr : r ≤ T.2) (e2 : gI σ 46 2 = nI r) : CS T (p, 0) (pI σ 46 3 (nI p)) := ⟨KT_fr K fun k i c => gI_ne _ _ (by omega), hp, .inr ⟨rfl, gI_eq _ _ ⟨rfl, rfl⟩, r, hr, (gI_ne _ _ (by omega)).trans e2⟩⟩
theorem ft_no (K : KT T σ) (hp : p ≤ T.2) (e3 : gI σ 46 3 = nI p) : ¬ gI σ 46 3 = (-3 : Int32) := by
  have := K.1
  show ¬ gI σ 46 3 = -nI 3
  rw [e3, nI_eqN (by omega) (by omega) (by omega)]
  exact id
theorem cl_numR (K : KT T σ) (e2 : gI σ 46 2 = nI b) (hb : b ≤ T.2) {m : Nat} (hm : (m = rwE T 48 57 b - b ∧ m ≤ 4) ∨ (m = 4 ∧ 4 ≤ rwE T 48 57 b - b)) : ∀ (d i fuel : Nat), i + d = m → d < fuel → iterF (F_X7_readNumber_33 46 (nI lo) (nI hi) (nI (rwE T 48 57 b))) (fun _ _ _ => none) fuel (nI (nuR (fun i => T.1 (b + i)) i)) (nI (b + i)) σ = F_X7_readNumber_74 46 (nI lo) (nI hi) (nI (rwE T 48 57 b)) (nI (nuR (fun i => T.1 (b + i)) m)) σ := by
  have s := rw_spec (T := T) (lo := 48) (hi := 57) hb
  have k0 := K.1
  generalize rwE T 48 57 b = e at *
  intro d
  induction d with
  | zero =>
    intro i fuel hi' hf
    obtain ⟨f, rfl⟩ : ∃ f, fuel = f + 1 := ⟨fuel - 1, by omega⟩
    have : i = m := by omega
    subst this
    show F_X7_readNumber_33 46 (nI lo) (nI hi) (nI e) _ _ _ _ = _
    unfold F_X7_readNumber_33
    by_cases g : e ≤ b + i
    · rw [if_pos (by rw [nI_leE (by omega) (by omega)]; exact g)]
    · rw [if_neg (by rw [nI_leE (by omega) (by omega)]; exact g), if_pos (by rw [e2, nI_lit 4, nI_addE, nI_leE (by omega) (by omega)]; omega)]
  | succ d ih =>
    intro i fuel hi' hf
    obtain ⟨f, rfl⟩ : ∃ f, fuel = f + 1 := ⟨fuel - 1, by omega⟩
    have r := ih (i + 1) f (by omega) (by omega)
    refine Eq.trans ?_ r
    show F_X7_readNumber_33 46 (nI lo) (nI hi) (nI e) _ _ _ _ = _
    generalize iterF (F_X7_readNumber_33 46 (nI lo) (nI hi) (nI e)) (fun _ _ _ => none) f = R
    have i1 : ixo 47 (nI (b + i)) = some (b + i) := ixo_47 (by omega)
    obtain ⟨t1, t2⟩ := K.2.2 (b + i) (by omega)
    have t3 := s.2.2.1 (b + i) (by omega) (by omega)
    have t4 : bI (T.1 (b + i)) = nI (T.1 (b + i)) := if_pos (by omega)
    have en : nuR (fun i => T.1 (b + i)) (i + 1) = nuR (fun i => T.1 (b + i)) i * 10 + (T.1 (b + i) - 48) := by
      show 10 * nuR (fun i => T.1 (b + i)) i + (T.1 (b + i) - 48) = _
      omega
    unfold F_X7_readNumber_33
    rw [if_neg (by rw [nI_leE (by omega) (by omega)]; omega), if_neg (by rw [e2, nI_lit 4, nI_addE, nI_leE (by omega) (by omega)]; omega)]
    simp only [Nat.reduceAdd, i1, bd1_s, t2, t4]
    rw [nI_lit 10, nI_lit 48, nI_lit 1, nI_mulE, nI_subE t3.1, nI_addE, nI_addE, en]
    rfl
theorem nuT_le (hb : b ≤ T.2) (h4 : rwE T 48 57 b ≤ b + 4) : nuT T b ≤ 9999 := by
  have s := rw_spec (T := T) (lo := 48) (hi := 57) hb
  exact nu_4 (by omega) fun i hi => s.2.2.1 (b + i) (by omega) (by omega)
theorem cl_num (S : CS T x σ) (hh : hi ≤ 9999) (hl : lo ≤ hi) : ∃ r σ', f_X7_readNumber 46 (nI lo) (nI hi) σ = some (r, σ') ∧ CS T (sNum T lo hi x) σ' ∧ ((sNum T lo hi x).2 ≠ 0 → r = nI (nuT T (sk T x.1)) ∧ lo ≤ nuT T (sk T x.1) ∧ nuT T (sk T x.1) ≤ hi) ∧ Fr (fun k _ => k = 46) σ σ' := by
  obtain ⟨K, hp, S⟩ := S
  have k0 := K.1
  rcases S with ⟨x2, e2, e3⟩ | ⟨x2, e3, e4⟩
  rotate_left
  · have es : sNum T lo hi x = x := if_pos x2
    rw [es]
    refine ⟨nI lo, σ, ?_, ⟨K, hp, .inr ⟨x2, e3, e4⟩⟩, fun c => absurd x2 c, Fr_rfl _ _⟩
    unfold f_X7_readNumber
    rw [if_neg (ft_no K hp e3)]
  have hb : sk T x.1 ≤ T.2 := (rw_spec (T := T) (lo := 32) (hi := 32) hp).2.1
  have sx : sNum T lo hi x = if sk T x.1 < rwE T 48 57 (sk T x.1) ∧ rwE T 48 57 (sk T x.1) ≤ sk T x.1 + 4 ∧ lo ≤ nuT T (sk T x.1) ∧ nuT T (sk T x.1) ≤ hi then (rwE T 48 57 (sk T x.1), 1) else (sk T x.1, 0) := if_neg (by omega)
  have a1 := cl_skip K hp e2
  rw [sx]
  generalize sk T x.1 = b at *
  obtain ⟨K2, -, h2⟩ := CS_at K hb e3
  rcases h2 with ⟨-, q2, q3⟩ | ⟨h2, -⟩
  rotate_left
  · exact absurd (show (1 : Nat) = 0 from h2) (by decide)
  have q2 : gI (pI σ 46 2 (nI b)) 46 2 = nI b := q2
  have F2 : Fr (fun k _ => k = 46) σ (pI σ 46 2 (nI b)) := Fr_pI _ (Fr_rfl _ _) rfl
  have top : f_X7_readNumber 46 (nI lo) (nI hi) σ = iterF (F_X7_readNumber_33 46 (nI lo) (nI hi) (nI (rwE T 48 57 b))) (fun _ _ _ => none) FU (0 : Int32) (gI (pI σ 46 2 (nI b)) 46 2) (pI σ 46 2 (nI b)) := by
    unfold f_X7_readNumber
    rw [if_pos (show gI σ 46 3 = (-3 : Int32) from e3), a1, bd1_s, nI_lit 48, nI_lit 57, cl_row K2 (by omega) (by omega) hb q2, bd2_s]
  rw [top]
  generalize pI σ 46 2 (nI b) = σ2 at *
  have s := rw_spec (T := T) (lo := 48) (hi := 57) hb
  have lp : ∀ m, (m = rwE T 48 57 b - b ∧ m ≤ 4) ∨ (m = 4 ∧ 4 ≤ rwE T 48 57 b - b) → iterF (F_X7_readNumber_33 46 (nI lo) (nI hi) (nI (rwE T 48 57 b))) (fun _ _ _ => none) FU (0 : Int32) (gI σ2 46 2) σ2 = F_X7_readNumber_74 46 (nI lo) (nI hi) (nI (rwE T 48 57 b)) (nI (nuR (fun i => T.1 (b + i)) m)) σ2 := fun m hm => by
    rw [q2]
    exact cl_numR K2 q2 hb hm m 0 FU (by omega) (FU_lt (by omega))
  have e4 : nI b + (4 : Int32) = nI (b + 4) := nI_addE b 4
  by_cases g1 : b < rwE T 48 57 b
  · by_cases g2 : rwE T 48 57 b ≤ b + 4
    · have l9 := nuT_le hb g2
      rw [lp _ (.inl ⟨rfl, by omega⟩)]
      unfold F_X7_readNumber_74
      rw [q2, if_neg (by rw [nI_leE (by omega) (by omega)]; omega), e4, if_neg (by rw [nI_ltE (by omega) (by omega)]; omega)]
      by_cases g3 : lo ≤ nuT T b ∧ nuT T b ≤ hi
      · have w : f_X9_within (nI (nuR (fun i => T.1 (b + i)) (rwE T 48 57 b - b))) (nI lo) (nI hi) σ2 = some (nI 1, σ2) := within_ok _ g3.1 g3.2 (by omega)
        rw [w, bd2_s, if_neg (by rw [nI_lit 0, nI10]; exact id), bd1_s, if_pos ⟨g1, g2, g3⟩]
        exact ⟨_, _, rfl, CS_at K2 s.2.1 q3, fun _ => ⟨rfl, g3⟩, Fr_pI _ F2 rfl⟩
      · have w : f_X9_within (nI (nuR (fun i => T.1 (b + i)) (rwE T 48 57 b - b))) (nI lo) (nI hi) σ2 = some (nI 0, σ2) := within_no _ (by
          show nI (nuT T b) < nI lo ∨ (¬ nI (nuT T b) < nI lo ∧ nI hi < nI (nuT T b))
          rw [nI_ltE (by omega) (by omega), nI_ltE (by omega) (by omega)]
          omega)
        rw [w, bd2_s, if_pos z00, bd1_s, q2, if_neg (fun c => g3 c.2.2)]
        exact ⟨_, _, rfl, CS_ft K2 hb hb q2, fun c => absurd rfl c, Fr_pI _ F2 rfl⟩
    · rw [lp 4 (.inr ⟨rfl, by omega⟩)]
      unfold F_X7_readNumber_74
      rw [q2, if_neg (by rw [nI_leE (by omega) (by omega)]; omega), e4, if_pos (by rw [nI_ltE (by omega) (by omega)]; omega), bd1_s, if_neg (fun c => g2 c.2.1)]
      exact ⟨_, _, rfl, CS_ft K2 hb hb q2, fun c => absurd rfl c, Fr_pI _ F2 rfl⟩
  · rw [lp 0 (.inl ⟨by omega, by omega⟩)]
    unfold F_X7_readNumber_74
    rw [q2, if_pos (by rw [nI_leE (by omega) (by omega)]; omega), bd1_s, if_neg (fun c => g1 c.1)]
    exact ⟨_, _, rfl, CS_ft K2 hb hb q2, fun c => absurd rfl c, Fr_pI _ F2 rfl⟩
theorem cl_word (S : CS T x σ) (hw : w < 12) : ∃ σ', f_X7_readName 46 w σ = some σ' ∧ CS T (sWord T w x) σ' ∧ Fr (fun k _ => k = 46) σ σ' := by
  obtain ⟨K, hp, S⟩ := S
  have k0 := K.1
  rcases S with ⟨x2, e2, e3⟩ | ⟨x2, e3, e4⟩
  rotate_left
  · have es : sWord T w x = x := if_pos x2
    rw [es]
    refine ⟨σ, ?_, ⟨K, hp, .inr ⟨x2, e3, e4⟩⟩, Fr_rfl _ _⟩
    unfold f_X7_readName
    rw [if_neg (ft_no K hp e3)]
  have hb : sk T x.1 ≤ T.2 := (rw_spec (T := T) (lo := 32) (hi := 32) hp).2.1
  have sx : sWord T w x = if cdn T (sk T x.1) = cod w then (rwE T 97 122 (sk T x.1), 1) else (sk T x.1, 0) := if_neg (by omega)
  have a1 := cl_skip K hp e2
  rw [sx]
  generalize sk T x.1 = b at *
  obtain ⟨K2, -, h2⟩ := CS_at K hb e3
  rcases h2 with ⟨-, q2, q3⟩ | ⟨h2, -⟩
  rotate_left
  · exact absurd (show (1 : Nat) = 0 from h2) (by decide)
  have q2 : gI (pI σ 46 2 (nI b)) 46 2 = nI b := q2
  have F2 : Fr (fun k _ => k = 46) σ (pI σ 46 2 (nI b)) := Fr_pI _ (Fr_rfl _ _) rfl
  unfold f_X7_readName
  rw [if_pos (show gI σ 46 3 = (-3 : Int32) from e3), a1, bd1_s, nI_lit 97, nI_lit 122, cl_row K2 (by omega) (by omega) hb q2, bd2_s, q2, cl_isName K2 hw hb, bd2_s]
  have s := rw_spec (T := T) (lo := 97) (hi := 122) hb
  by_cases g : cdn T b = cod w
  · rw [if_pos g, if_neg (by rw [nI_lit 0, nI10]; exact id), bd1_s, if_pos g]
    exact ⟨_, rfl, CS_at K2 s.2.1 q3, Fr_pI _ F2 rfl⟩
  · rw [if_neg g, if_pos z00, bd1_s, if_neg g]
    exact ⟨_, rfl, CS_ft K2 hb hb q2, Fr_pI _ F2 rfl⟩
theorem cl_end (S : CS T x σ) : ∃ σ', f_X7_readEndMark 46 σ = some σ' ∧ CS T (sEnd T x) σ' ∧ Fr (fun k _ => k = 46) σ σ' := by
  obtain ⟨K, hp, S⟩ := S
  have k0 := K.1
  rcases S with ⟨x2, e2, e3⟩ | ⟨x2, e3, e4⟩
  rotate_left
  · have es : sEnd T x = x := if_pos x2
    rw [es]
    refine ⟨σ, ?_, ⟨K, hp, .inr ⟨x2, e3, e4⟩⟩, Fr_rfl _ _⟩
    unfold f_X7_readEndMark
    rw [if_neg (ft_no K hp e3)]
  have hb : sk T x.1 ≤ T.2 := (rw_spec (T := T) (lo := 32) (hi := 32) hp).2.1
  have sx : sEnd T x = if sk T x.1 < T.2 ∧ T.1 (sk T x.1) = 59 then (sk T x.1 + 1, 1) else (sk T x.1, 0) := if_neg (by omega)
  have a1 := cl_skip K hp e2
  rw [sx]
  generalize sk T x.1 = b at *
  obtain ⟨K2, -, h2⟩ := CS_at K hb e3
  rcases h2 with ⟨-, q2, q3⟩ | ⟨h2, -⟩
  rotate_left
  · exact absurd (show (1 : Nat) = 0 from h2) (by decide)
  have q2 : gI (pI σ 46 2 (nI b)) 46 2 = nI b := q2
  have F2 : Fr (fun k _ => k = 46) σ (pI σ 46 2 (nI b)) := Fr_pI _ (Fr_rfl _ _) rfl
  unfold f_X7_readEndMark
  rw [if_pos (show gI σ 46 3 = (-3 : Int32) from e3), a1, bd1_s]
  generalize pI σ 46 2 (nI b) = σ2 at *
  by_cases g : b < T.2
  · have i1 : ixo 47 (nI b) = some b := ixo_47 (by omega)
    obtain ⟨t1, t2⟩ := K2.2.2 b g
    rw [if_neg (by rw [K2.2.1, q2, nI_leE (by omega) (by omega)]; omega), q2]
    simp only [Nat.reduceAdd, i1, bd1_s, t2]
    rw [nI_lit 59]
    by_cases z : T.1 b = 59
    · rw [if_pos (by rw [bI_eq t1 (by omega)]; exact z), if_pos ⟨g, z⟩, nI_lit 1, nI_addE]
      exact ⟨_, rfl, CS_at K2 (by omega) q3, Fr_pI _ F2 rfl⟩
    · rw [if_neg (by rw [bI_eq t1 (by omega)]; exact z), if_neg (fun c => z c.2)]
      exact ⟨_, rfl, CS_ft K2 hb hb q2, Fr_pI _ F2 rfl⟩
  · rw [if_pos (by rw [K2.2.1, q2, nI_leE (by omega) (by omega)]; omega), bd1_s, q2, if_neg (fun c => g c.1)]
    exact ⟨_, rfl, CS_ft K2 hb hb q2, Fr_pI _ F2 rfl⟩
end
