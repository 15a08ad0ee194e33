/-! the text of a hall: the model's tokens and wants -/
def FA (k i : Nat) : Prop := k = 94 ∧ 17 ≤ i ∧ i ≤ 21
def FW (k i : Nat) : Prop := k = 94 ∧ 17 ≤ i ∧ i ≤ 22
section
variable {q d : HQ} {σ σ' : Mem} {T : Tp} {lo hi p b e w v k a : Nat} {x : Nat × Nat}
theorem md_ex207 {s : Nat} (hs : s ≤ 3) (h : s ≠ 2) (e17 : gI σ 94 17 = nI s) : iterF (F_X10_advance_207 94) (fun _ => none) FU σ = some σ := by
  show F_X10_advance_207 94 _ σ = _
  unfold F_X10_advance_207
  rw [if_neg (by rw [e17, nI_lit 2, nI_eqE (by omega) (by omega)]; exact h)]
theorem md_ex126 {s : Nat} (hs : s ≤ 3) (h : s ≠ 1) (e17 : gI σ 94 17 = nI s) : iterF (F_X10_advance_126 94) (fun _ => none) FU σ = iterF (F_X10_advance_207 94) (fun _ => none) FU σ := by
  show F_X10_advance_126 94 _ σ = _
  unfold F_X10_advance_126
  rw [if_neg (by rw [e17, nI_lit 1, nI_eqE (by omega) (by omega)]; exact h)]
/-- a token begun -/
def tk0 (s : Nat) (v : Int32) (σ : Mem) : Mem := pI (pL (pI σ 94 17 (nI s)) 94 20 (0 : Int64)) 94 21 v
theorem tk0_17 {s : Nat} {v : Int32} : gI (tk0 s v σ) 94 17 = nI s := by
  unfold tk0
  rw [gI_ne _ _ (by omega), gI_pL]
  exact gI_eq _ _ ⟨rfl, rfl⟩
theorem tk0_21 {s : Nat} {v : Int32} : gI (tk0 s v σ) 94 21 = v := gI_eq _ _ ⟨rfl, rfl⟩
theorem tk0_o {s : Nat} {v : Int32} {k i : Nat} (h : ¬ (k = 94 ∧ (i = 17 ∨ i = 21))) : gI (tk0 s v σ) k i = gI σ k i := by
  unfold tk0
  rw [gI_ne _ _ (by omega), gI_pL, gI_ne _ _ (by omega)]
theorem tk0_L {s : Nat} {v : Int32} : gL (tk0 s v σ) 94 20 = (0 : Int64) := by
  unfold tk0
  rw [gL_pI, gL_pL, if_pos ⟨rfl, rfl⟩]
theorem tk0_Fq {s : Nat} {v : Int32} : Fq FA σ (tk0 s v σ) := Fq_pI _ (Fq_pL _ (Fq_pI _ (Fq_rfl _ _) ⟨rfl, by omega, by omega⟩)) ⟨rfl, by omega, by omega⟩
theorem md_83x3 {v : Int32} : F_X10_advance_83x3 94 94 v σ = some (tk0 0 v σ) := by
  have h : gI (pL (pI σ 94 17 (0 : Int32)) 94 20 (0 : Int64)) 94 17 = nI 0 := by rw [gI_pL]; exact gI_eq _ _ ⟨rfl, rfl⟩
  have h2 : gI (pI (pL (pI σ 94 17 (0 : Int32)) 94 20 (0 : Int64)) 94 21 v) 94 17 = nI 0 := by rw [gI_ne _ _ (by omega)]; exact h
  unfold F_X10_advance_83x3
  rw [bd1_s, bd1_s, if_neg (by rw [h]; decide), bd1_s, if_neg (by rw [h2]; decide), md_ex126 (by omega) (by omega) h2, md_ex207 (by omega) (by omega) h2]
  rfl
theorem md_83x2 {v : Int32} : F_X10_advance_83x2 94 94 v σ = iterF (F_X10_advance_126 94) (fun _ => none) FU (tk0 1 v σ) := by
  have h : gI (pL (pI σ 94 17 (1 : Int32)) 94 20 (0 : Int64)) 94 17 = nI 1 := by rw [gI_pL]; exact gI_eq _ _ ⟨rfl, rfl⟩
  have h2 : gI (pI (pL (pI σ 94 17 (1 : Int32)) 94 20 (0 : Int64)) 94 21 v) 94 17 = nI 1 := by rw [gI_ne _ _ (by omega)]; exact h
  unfold F_X10_advance_83x2
  rw [bd1_s, bd1_s, if_neg (by rw [h]; decide), bd1_s, if_neg (by rw [h2]; decide)]
  rfl
theorem md_83x1 {v : Int32} : F_X10_advance_83x1 94 94 v σ = iterF (F_X10_advance_207 94) (fun _ => none) FU (tk0 2 (nI 0) σ) := by
  have h : gI (pL (pI σ 94 17 (2 : Int32)) 94 20 (0 : Int64)) 94 17 = nI 2 := by rw [gI_pL]; exact gI_eq _ _ ⟨rfl, rfl⟩
  have h2 : gI (pI (pL (pI σ 94 17 (2 : Int32)) 94 20 (0 : Int64)) 94 21 (0 : Int32)) 94 17 = nI 2 := by rw [gI_ne _ _ (by omega)]; exact h
  unfold F_X10_advance_83x1
  rw [bd1_s, bd1_s, if_pos (by rw [h]; rfl), bd1_s, if_neg (by rw [h2]; decide), md_ex126 (by omega) (by omega) h2]
  rfl
theorem md_83 {v : Int32} (e19 : gI σ 94 19 = nI b) : F_X10_advance_83 94 94 v σ = some (pI (tk0 3 v σ) 94 19 (nI (b + 1))) := by
  have h : gI (pL (pI σ 94 17 (3 : Int32)) 94 20 (0 : Int64)) 94 17 = nI 3 := by rw [gI_pL]; exact gI_eq _ _ ⟨rfl, rfl⟩
  have h2 : gI (pI (pL (pI σ 94 17 (3 : Int32)) 94 20 (0 : Int64)) 94 21 v) 94 17 = nI 3 := by rw [gI_ne _ _ (by omega)]; exact h
  have h3 : gI (pI (pL (pI σ 94 17 (3 : Int32)) 94 20 (0 : Int64)) 94 21 v) 94 19 = nI b := by rw [gI_ne _ _ (by omega), gI_pL, gI_ne _ _ (by omega)]; exact e19
  have h4 : gI (pI (pI (pL (pI σ 94 17 (3 : Int32)) 94 20 (0 : Int64)) 94 21 v) 94 19 (nI (b + 1))) 94 17 = nI 3 := by rw [gI_ne _ _ (by omega)]; exact h2
  unfold F_X10_advance_83
  rw [bd1_s, bd1_s, if_neg (by rw [h]; decide), bd1_s, if_pos (by rw [h2]; rfl), h3, nI_lit 1, nI_addE, bd1_s, md_ex126 (by omega) (by omega) h4, md_ex207 (by omega) (by omega) h4]
  rfl
theorem md_adv (J : JT T σ) (hp : p ≤ T.2) (e19 : gI σ 94 19 = nI p) : ∃ σ', f_X10_advance 94 σ = some σ' ∧ Tok T (sk T p) σ' ∧ JT T σ' ∧ Fq FA σ σ' := by
  have j0 := J.1
  have J0 : JT T (pI σ 94 18 (nI p)) := JT_fr J fun k i c => gI_ne _ _ (by omega)
  obtain ⟨σ1, R, r1, r2, r3⟩ := md_blank (T.2 - p) p FU (pI σ 94 18 (nI p)) (by omega) (FU_lt (by omega)) J0 (gI_eq _ _ ⟨rfl, rfl⟩)
  have r1 : gI σ1 94 18 = nI (sk T p) := r1
  have s := rw_spec (T := T) (lo := 32) (hi := 32) hp
  have s2 : sk T p ≤ T.2 := s.2.1
  have s4 : sk T p < T.2 → ¬ (32 ≤ T.1 (sk T p) ∧ T.1 (sk T p) ≤ 32) := s.2.2.2
  have top : f_X10_advance 94 σ = F_X10_advance_8 94 R σ1 := by
    unfold f_X10_advance
    rw [e19, bd1_s, r3]
  have J1 : JT T σ1 := JT_fr J0 fun k i c => r2.1 k i (by omega)
  have F1 : Fq FA σ σ1 := by
    have F0 : Fr FA σ σ1 := Fr_tr (Fr_pI _ (Fr_rfl _ _) ⟨rfl, by omega, by omega⟩) (Fr_mono r2 fun k i c => by unfold FA; omega)
    exact ⟨F0.1, fun k i _ => by unfold gL; rw [F0.2]⟩
  rw [top]
  clear top r3 r2 J0 s
  generalize sk T p = b at *
  have J7 : JT T (pI σ1 94 19 (nI b)) := JT_fr J1 fun k i c => gI_ne _ _ (by omega)
  have F7 : Fq FA σ (pI σ1 94 19 (nI b)) := Fq_pI _ F1 ⟨rfl, by omega, by omega⟩
  have q18 : gI (pI σ1 94 19 (nI b)) 94 18 = nI b := (gI_ne _ _ (by omega)).trans r1
  have q19 : gI (pI σ1 94 19 (nI b)) 94 19 = nI b := gI_eq _ _ ⟨rfl, rfl⟩
  have n32 : ¬ byV T b = (32 : Int32) := by
    unfold byV
    by_cases c : b < T.2
    · have t := (J1.2.2 b c).1
      have := s4 c
      rw [if_pos c, nI_lit 32, nI_eqE (by omega) (by omega)]
      omega
    · rw [if_neg c]
      decide
  have top : F_X10_advance_8 94 R σ1 = if (0 : Int32) ≤ byV T b then
      bd2 (f_X10_isLetter (byV T b) (pI σ1 94 19 (nI b))) fun r15 σ13 =>
      if r15 = (0 : Int32) then
        bd2 (f_X10_isDigit (byV T b) σ13) fun r19 σ17 =>
        if r19 = (0 : Int32) then F_X10_advance_83 94 94 (byV T b) σ17 else F_X10_advance_83x1 94 94 (byV T b) σ17
      else F_X10_advance_83x2 94 94 (byV T b) σ13
    else F_X10_advance_83x3 94 94 (byV T b) (pI σ1 94 19 (nI b)) := by
    unfold F_X10_advance_8
    rw [r1, md_byte J1 (by omega), bd2_s, if_neg n32, r1, bd1_s, q18, md_byte J7 (by omega), bd2_s]
  rw [top]
  clear top
  generalize pI σ1 94 19 (nI b) = σ7 at *
  by_cases c : b < T.2
  rotate_left
  · have ev : byV T b = -nI 1 := if_neg c
    have eS : tS T b = 0 := if_pos (by omega)
    rw [ev, if_neg (by decide), md_83x3]
    refine ⟨_, rfl, ⟨(tk0_o (by omega)).trans q18, by rw [eS]; exact tk0_17, ?_, fun h => ?_, fun h => ?_, fun h => ?_⟩, JT_fr J7 fun k i c => tk0_o (by omega), Fq_tr F7 tk0_Fq⟩
    · have eE : tE T b = b := by unfold tE; rw [eS, if_neg (by omega), if_neg (by omega), if_neg (by omega)]
      rw [eE]
      exact (tk0_o (by omega)).trans q19
    · omega
    · omega
    · omega
  have ev : byV T b = nI (T.1 b) := if_pos c
  have t := (J1.2.2 b c).1
  rw [if_pos (by rw [ev, nI_lit 0, nI_leE (by omega) (by omega)]; omega), md_let J7, bd2_s]
  by_cases g1 : b < T.2 ∧ 97 ≤ T.1 b ∧ T.1 b ≤ 122
  · have eS : tS T b = 1 := (if_neg (by omega)).trans (if_pos g1.2)
    have eE : tE T b = rwE T 97 122 b := if_pos eS
    have s := rw_spec (T := T) (lo := 97) (hi := 122) s2
    rw [if_pos g1, if_neg n10, md_83x2]
    obtain ⟨σ', a1, a2, a3, a4⟩ := md_letters s2 (rwE T 97 122 b - b) 0 FU (tk0 1 (byV T b) σ7) (by omega) (FU_lt (by omega)) (JT_fr J7 fun k i c => tk0_o (by omega)) tk0_17 ((tk0_o (by omega)).trans q18) ((tk0_o (by omega)).trans q19) tk0_L
    have h : ∀ k i, ¬ Fj k i → gI σ' k i = gI (tk0 1 (byV T b) σ7) k i := a4.1
    refine ⟨σ', a1, ⟨?_, ?_, by rw [eE]; exact a2, fun _ => a3, fun h => by omega, fun h => by omega⟩, JT_fr (JT_fr J7 fun k i c => tk0_o (by omega)) fun k i c => h k i (by unfold Fj; omega), Fq_tr F7 (Fq_tr tk0_Fq (Fq_mono a4 fun k i c => by unfold Fj at c; unfold FA; omega))⟩
    · rw [h _ _ (by unfold Fj; omega)]
      exact (tk0_o (by omega)).trans q18
    · rw [h _ _ (by unfold Fj; omega), eS]
      exact tk0_17
  rw [if_neg g1, if_pos z00, md_dig J7, bd2_s]
  by_cases g2 : b < T.2 ∧ 48 ≤ T.1 b ∧ T.1 b ≤ 57
  · have eS : tS T b = 2 := (if_neg (by omega)).trans ((if_neg (by omega)).trans (if_pos g2.2))
    have eE : tE T b = rwE T 48 57 b := (if_neg (by omega)).trans (if_pos eS)
    have s := rw_spec (T := T) (lo := 48) (hi := 57) s2
    rw [if_pos g2, if_neg n10, md_83x1]
    obtain ⟨σ', a1, a2, a3, a4⟩ := md_digits s2 (rwE T 48 57 b - b) 0 FU (tk0 2 (nI 0) σ7) (by omega) (FU_lt (by omega)) (JT_fr J7 fun k i c => tk0_o (by omega)) tk0_17 ((tk0_o (by omega)).trans q18) ((tk0_o (by omega)).trans q19) tk0_21
    have h : ∀ k i, ¬ Fk k i → gI σ' k i = gI (tk0 2 (nI 0) σ7) k i := a4.1
    have a5 : Fq FA (tk0 2 (nI 0) σ7) σ' := ⟨fun k i n => a4.1 k i (by unfold Fk; unfold FA at n; omega), fun k i _ => by unfold gL; rw [a4.2]⟩
    refine ⟨σ', a1, ⟨?_, ?_, by rw [eE]; exact a2, fun h => by omega, fun _ => a3, fun h => by omega⟩, JT_fr (JT_fr J7 fun k i c => tk0_o (by omega)) fun k i c => h k i (by unfold Fk; omega), Fq_tr F7 (Fq_tr tk0_Fq a5)⟩
    · rw [h _ _ (by unfold Fk; omega)]
      exact (tk0_o (by omega)).trans q18
    · rw [h _ _ (by unfold Fk; omega), eS]
      exact tk0_17
  have eS : tS T b = 3 := (if_neg (by omega)).trans ((if_neg (by omega)).trans (if_neg (by omega)))
  have eE : tE T b = b + 1 := (if_neg (by omega)).trans ((if_neg (by omega)).trans (if_pos eS))
  rw [if_neg g2, if_pos z00, md_83 q19, ev]
  refine ⟨_, rfl, ⟨?_, ?_, by rw [eE]; exact gI_eq _ _ ⟨rfl, rfl⟩, fun h => by omega, fun h => by omega, fun _ => ?_⟩, JT_fr J7 fun k i c => by rw [gI_ne _ _ (by omega)]; exact tk0_o (by omega), Fq_tr F7 (Fq_pI _ tk0_Fq ⟨rfl, by omega, by omega⟩)⟩
  · rw [gI_ne _ _ (by omega)]
    exact (tk0_o (by omega)).trans q18
  · rw [gI_ne _ _ (by omega), eS]
    exact tk0_17
  · rw [gI_ne _ _ (by omega)]
    exact tk0_21
/-- where the model reads -/
def MS (T : Tp) (x : Nat × Nat) (σ : Mem) : Prop := JT T σ ∧ x.1 ≤ T.2 ∧ ((x.2 = 1 ∧ gI σ 94 22 = nI 1 ∧ Tok T (sk T x.1) σ) ∨ (x.2 = 0 ∧ gI σ 94 22 = nI 0 ∧ gI σ 94 18 = nI x.1))
theorem Tok_fr (h : Tok T b σ) (e : ∀ i, 17 ≤ i → i ≤ 21 → gI σ' 94 i = gI σ 94 i) (g : gL σ' 94 20 = gL σ 94 20) : Tok T b σ' := by
  obtain ⟨h1, h2, h3, h4, h5, h6⟩ := h
  exact ⟨(e _ (by omega) (by omega)).trans h1, (e _ (by omega) (by omega)).trans h2, (e _ (by omega) (by omega)).trans h3, fun c => g.trans (h4 c), fun c => (e _ (by omega) (by omega)).trans (h5 c), fun c => (e _ (by omega) (by omega)).trans (h6 c)⟩
theorem MS_ft (J : JT T σ) (hb : b ≤ T.2) (e18 : gI σ 94 18 = nI b) : MS T (b, 0) (pI σ 94 22 (nI 0)) := ⟨JT_fr J fun k i c => gI_ne _ _ (by omega), hb, .inr ⟨rfl, gI_eq _ _ ⟨rfl, rfl⟩, (gI_ne _ _ (by omega)).trans e18⟩⟩
theorem MS_ad (J : JT T σ) (hp : p ≤ T.2) (e19 : gI σ 94 19 = nI p) : ∃ σ', f_X10_advance 94 (pI σ 94 22 (nI 1)) = some σ' ∧ MS T (p, 1) σ' ∧ Fq FW σ σ' := by
  obtain ⟨σ', a1, a2, a3, a4⟩ := md_adv (σ := pI σ 94 22 (nI 1)) (JT_fr J fun k i c => gI_ne _ _ (by omega)) hp ((gI_ne _ _ (by omega)).trans e19)
  refine ⟨σ', a1, ⟨a3, hp, .inl ⟨rfl, ?_, a2⟩⟩, Fq_tr (Fq_pI _ (Fq_rfl _ _) ⟨rfl, by omega, by omega⟩) (Fq_mono a4 fun k i c => by unfold FA at c; unfold FW; omega)⟩
  rw [a4.1 _ _ (by unfold FA; omega)]
  exact gI_eq _ _ ⟨rfl, rfl⟩
theorem F22 : Fq FW σ (pI σ 94 22 (nI 0)) := Fq_pI _ (Fq_rfl _ _) ⟨rfl, by omega, by omega⟩
theorem g22 {v : Int32} : gI (pI σ 94 22 v) 94 22 = v := gI_eq _ _ ⟨rfl, rfl⟩
theorem md_num (S : MS T x σ) (hh : hi ≤ 9999) (hlo : lo < 2147483648) : ∃ r σ', f_X10_wantNumber 94 (nI lo) (nI hi) σ = some (r, σ') ∧ MS T (sNum T lo hi x) σ' ∧ ((sNum T lo hi x).2 ≠ 0 → r = nI (nuT T (sk T x.1))) ∧ Fq FW σ σ' := by
  obtain ⟨J, hp, S⟩ := S
  have j0 := J.1
  rcases S with ⟨x2, e22, K⟩ | ⟨x2, e22, e18⟩
  rotate_left
  · have es : sNum T lo hi x = x := if_pos x2
    rw [es]
    refine ⟨gI σ 94 21, pI σ 94 22 (nI 0), ?_, ?_, fun c => absurd x2 c, F22⟩
    · unfold f_X10_wantNumber
      rw [if_pos (by rw [e22]; rfl), bd1_s, if_pos (by rw [g22])]
      rfl
    · have := MS_ft J hp e18
      have ex : x = (x.1, 0) := by rw [← x2]
      rw [ex]
      exact this
  have hb : sk T x.1 ≤ T.2 := (rw_spec (T := T) (lo := 32) (hi := 32) hp).2.1
  have sx : sNum T lo hi x = if sk T x.1 < rwE T 48 57 (sk T x.1) ∧ rwE T 48 57 (sk T x.1) ≤ sk T x.1 + 4 ∧ lo ≤ nuT T (sk T x.1) ∧ nuT T (sk T x.1) ≤ hi then (rwE T 48 57 (sk T x.1), 1) else (sk T x.1, 0) := if_neg (by omega)
  rw [sx]
  generalize sk T x.1 = b at *
  have s := rw_spec (T := T) (lo := 48) (hi := 57) hb
  obtain ⟨k18, k17, k19, k1, k2, k3⟩ := K
  have n22 : ¬ gI σ 94 22 = (0 : Int32) := by rw [e22]; exact n10
  have z22 : gI (pI σ 94 22 (0 : Int32)) 94 22 = (0 : Int32) := g22
  have t3 : tS T b ≤ 3 := by unfold tS; split <;> (try split) <;> (try split) <;> omega
  by_cases g : tS T b = 2
  · have gb : b < T.2 ∧ 48 ≤ T.1 b ∧ T.1 b ≤ 57 := by
      unfold tS at g
      by_cases c1 : T.2 ≤ b
      · rw [if_pos c1] at g; omega
      rw [if_neg c1] at g
      by_cases c2 : 97 ≤ T.1 b ∧ T.1 b ≤ 122
      · rw [if_pos c2] at g; omega
      rw [if_neg c2] at g
      by_cases c3 : 48 ≤ T.1 b ∧ T.1 b ≤ 57
      · exact ⟨by omega, c3⟩
      rw [if_neg c3] at g
      omega
    have gt := rw_gt gb.1 gb.2
    have eE : tE T b = rwE T 48 57 b := (if_neg (by omega)).trans (if_pos g)
    have v := k2 g
    have is2 : gI σ 94 17 = (2 : Int32) := by rw [k17, g]; rfl
    by_cases c : rwE T 48 57 b ≤ b + 4 ∧ lo ≤ nuT T b ∧ nuT T b ≤ hi
    · have v : gI σ 94 21 = nI (nuT T b) := v.trans (if_pos (by omega))
      obtain ⟨σ', a1, a2, a3⟩ := MS_ad J s.2.1 (by rw [k19, eE])
      rw [if_pos ⟨gt, c⟩]
      refine ⟨nI (nuT T b), σ', ?_, a2, fun _ => rfl, a3⟩
      unfold f_X10_wantNumber
      rw [if_neg n22, if_pos is2, v, in_eq, within_ok _ c.2.1 c.2.2 (by omega), bd2_s, if_neg n10, bd1_s, if_neg (by rw [g22]; exact n10)]
      have a1 : f_X10_advance 94 (pI σ 94 22 (1 : Int32)) = some σ' := a1
      rw [a1, bd1_s]
    · rw [if_neg (fun h => c h.2)]
      refine ⟨gI σ 94 21, pI σ 94 22 (nI 0), ?_, MS_ft J hb k18, fun h => absurd rfl h, F22⟩
      have no : f_X9_within (gI σ 94 21) (nI lo) (nI hi) σ = some (nI 0, σ) := by
        by_cases c4 : rwE T 48 57 b - b ≤ 4
        · have v : gI σ 94 21 = nI (nuT T b) := v.trans (if_pos c4)
          have l9 := nuT_le hb (show rwE T 48 57 b ≤ b + 4 by omega)
          by_cases c5 : lo ≤ nuT T b
          · refine within_no _ (.inr ?_)
            rw [v]
            refine ⟨?_, by rw [nI_ltE (by omega) (by omega)]; omega⟩
            rw [nI_ltE (by omega) (by omega)]; omega
          · by_cases c6 : lo < 2147483648
            · refine within_no _ (.inl ?_)
              rw [v, nI_ltE (by omega) (by omega)]; omega
            · exact absurd hlo c6
        · have v : gI σ 94 21 = -nI 1 := v.trans (if_neg c4)
          refine within_no _ (.inl ?_)
          rw [v, nI_Nlt (by omega) (by omega) (by omega)]
          trivial
      unfold f_X10_wantNumber
      rw [if_neg n22, if_pos is2, in_eq, no, bd2_s, if_pos z00, bd1_s, if_pos z22]
      rfl
  · have nb : ¬ b < rwE T 48 57 b := fun h => by
      have t := s.2.2.1 b (Nat.le_refl b) h
      have : tS T b = 2 := (if_neg (by omega)).trans ((if_neg (by omega)).trans (if_pos t))
      exact g this
    rw [if_neg (fun h => nb h.1)]
    refine ⟨gI σ 94 21, pI σ 94 22 (nI 0), ?_, MS_ft J hb k18, fun h => absurd rfl h, F22⟩
    unfold f_X10_wantNumber
    rw [if_neg n22, if_neg (by rw [k17, nI_lit 2, nI_eqE (by omega) (by omega)]; exact g), bd1_s, if_pos z22]
    rfl
theorem cod_lt : ∀ w, w < 12 → 1 ≤ cod w ∧ cod w < 300000000000 := by decide
theorem md_isWord (K : Tok T b σ) (hb : b ≤ T.2) (hw : w < 12) : f_X10_isWord 94 (nL (cod w)) σ = some (nI (if cdn T b = cod w then 1 else 0), σ) := by
  have s := rw_spec (T := T) (lo := 97) (hi := 122) hb
  have cl := cod_lt w hw
  obtain ⟨k18, k17, k19, k1, k2, k3⟩ := K
  have t3 : tS T b ≤ 3 := by unfold tS; split <;> (try split) <;> (try split) <;> omega
  unfold f_X10_isWord
  by_cases g : tS T b = 1
  · rw [if_pos (by rw [k17, g]; rfl)]
    have v := k1 g
    by_cases c : rwE T 97 122 b - b ≤ 8
    · have ec : cdn T b = wdR (fun i => T.1 (b + i)) (rwE T 97 122 b - b) := if_pos c
      have v : gL σ 94 20 = nL (cdn T b) := by rw [ec]; exact v.trans (if_pos c)
      have l8 : cdn T b < 300000000000 := by rw [ec]; exact wd_8 c fun i hi => s.2.2.1 (b + i) (by omega) (by omega)
      by_cases z : cdn T b = cod w
      · rw [if_pos z, if_pos (by rw [lg_cmp_eq, v, z])]
        rfl
      · rw [if_neg z, if_neg (by rw [lg_cmp_eq, v, nL_eq l8 cl.2]; exact z)]
        rfl
    · have ec : cdn T b = 0 := if_neg c
      have v : gL σ 94 20 = -1 := v.trans (if_neg c)
      rw [if_neg (by rw [lg_cmp_eq, v]; exact fun h => nL_N cl.2 h.symm), if_neg (by omega)]
      rfl
  · have nb : ¬ b < rwE T 97 122 b := fun h => by
      have t := s.2.2.1 b (Nat.le_refl b) h
      have : tS T b = 1 := (if_neg (by omega)).trans (if_pos t)
      exact g this
    have e0 : rwE T 97 122 b - b = 0 := by omega
    have ec : cdn T b = 0 := by
      unfold cdn
      rw [e0]
      rfl
    rw [if_neg (by rw [k17, nI_lit 1, nI_eqE (by omega) (by omega)]; exact g), if_neg (by omega)]
    rfl
theorem cdn_tE (hb : b ≤ T.2) (h : cdn T b ≠ 0) : tE T b = rwE T 97 122 b := by
  have s := rw_spec (T := T) (lo := 97) (hi := 122) hb
  by_cases c : b < rwE T 97 122 b
  · have t := s.2.2.1 b (Nat.le_refl b) c
    have : tS T b = 1 := (if_neg (by omega)).trans (if_pos t)
    exact if_pos this
  · exfalso
    apply h
    have e0 : rwE T 97 122 b - b = 0 := by omega
    unfold cdn
    rw [e0]
    rfl
theorem md_word (S : MS T x σ) (hw : w < 12) : ∃ σ', f_X10_wantWord 94 (nL (cod w)) σ = some σ' ∧ MS T (sWord T w x) σ' ∧ Fq FW σ σ' := by
  obtain ⟨J, hp, S⟩ := S
  have j0 := J.1
  have cl := cod_lt w hw
  rcases S with ⟨x2, e22, K⟩ | ⟨x2, e22, e18⟩
  rotate_left
  · have es : sWord T w x = x := if_pos x2
    rw [es]
    refine ⟨pI σ 94 22 (nI 0), ?_, ?_, F22⟩
    · unfold f_X10_wantWord
      rw [if_pos (by rw [e22]; rfl), bd1_s, if_pos (by rw [g22])]
      rfl
    · have := MS_ft J hp e18
      have ex : x = (x.1, 0) := by rw [← x2]
      rw [ex]
      exact this
  have hb : sk T x.1 ≤ T.2 := (rw_spec (T := T) (lo := 32) (hi := 32) hp).2.1
  have sx : sWord T w x = if cdn T (sk T x.1) = cod w then (rwE T 97 122 (sk T x.1), 1) else (sk T x.1, 0) := if_neg (by omega)
  rw [sx]
  generalize sk T x.1 = b at *
  have n22 : ¬ gI σ 94 22 = (0 : Int32) := by rw [e22]; exact n10
  have z22 : gI (pI σ 94 22 (0 : Int32)) 94 22 = (0 : Int32) := g22
  unfold f_X10_wantWord
  rw [if_neg n22, md_isWord K hb hw, bd2_s]
  obtain ⟨k18, k17, k19, k1, k2, k3⟩ := K
  by_cases z : cdn T b = cod w
  · have eE := cdn_tE hb (show cdn T b ≠ 0 by omega)
    obtain ⟨σ', a1, a2, a3⟩ := MS_ad J (rw_spec (T := T) (lo := 97) (hi := 122) hb).2.1 (by rw [k19, eE])
    have a1 : f_X10_advance 94 (pI σ 94 22 (1 : Int32)) = some σ' := a1
    rw [if_pos z, if_neg n10, bd1_s, if_neg (by rw [g22]; exact n10), a1, bd1_s, if_pos z]
    exact ⟨σ', rfl, a2, a3⟩
  · rw [if_neg z, if_pos z00, bd1_s, if_pos z22, if_neg z]
    exact ⟨_, rfl, MS_ft J hb k18, F22⟩
theorem md_end (S : MS T x σ) : ∃ σ', f_X10_wantEnd 94 σ = some σ' ∧ MS T (sEnd T x) σ' ∧ Fq FW σ σ' := by
  obtain ⟨J, hp, S⟩ := S
  have j0 := J.1
  rcases S with ⟨x2, e22, K⟩ | ⟨x2, e22, e18⟩
  rotate_left
  · have es : sEnd T x = x := if_pos x2
    rw [es]
    refine ⟨pI σ 94 22 (nI 0), ?_, ?_, F22⟩
    · unfold f_X10_wantEnd
      rw [if_pos (by rw [e22]; rfl), bd1_s, if_pos (by rw [g22])]
      rfl
    · have := MS_ft J hp e18
      have ex : x = (x.1, 0) := by rw [← x2]
      rw [ex]
      exact this
  have hb : sk T x.1 ≤ T.2 := (rw_spec (T := T) (lo := 32) (hi := 32) hp).2.1
  have sx : sEnd T x = if sk T x.1 < T.2 ∧ T.1 (sk T x.1) = 59 then (sk T x.1 + 1, 1) else (sk T x.1, 0) := if_neg (by omega)
  rw [sx]
  generalize sk T x.1 = b at *
  have n22 : ¬ gI σ 94 22 = (0 : Int32) := by rw [e22]; exact n10
  have z22 : gI (pI σ 94 22 (0 : Int32)) 94 22 = (0 : Int32) := g22
  obtain ⟨k18, k17, k19, k1, k2, k3⟩ := K
  have t3 : tS T b ≤ 3 := by unfold tS; split <;> (try split) <;> (try split) <;> omega
  unfold f_X10_wantEnd
  rw [if_neg n22]
  by_cases z : b < T.2 ∧ T.1 b = 59
  · have eS : tS T b = 3 := (if_neg (by omega)).trans ((if_neg (by omega)).trans (if_neg (by omega)))
    have eE : tE T b = b + 1 := (if_neg (by omega)).trans ((if_neg (by omega)).trans (if_pos eS))
    obtain ⟨σ', a1, a2, a3⟩ := MS_ad J (show b + 1 ≤ T.2 by omega) (by rw [k19, eE])
    have a1 : f_X10_advance 94 (pI σ 94 22 (1 : Int32)) = some σ' := a1
    have mk : f_X10_isMark 94 (59 : Int32) σ = some (1, σ) := by
      unfold f_X10_isMark
      rw [if_pos (by rw [k17, eS]; rfl), if_pos (by rw [k3 eS, z.2]; rfl)]
    have mk : f_X10_isMark 94 (59 : Int32) σ = some (nI 1, σ) := mk
    rw [mk, bd2_s, if_neg n10, bd1_s, if_neg (by rw [g22]; exact n10), a1, bd1_s, if_pos z]
    exact ⟨σ', rfl, a2, a3⟩
  · have mk : f_X10_isMark 94 (59 : Int32) σ = some (0, σ) := by
      unfold f_X10_isMark
      by_cases c : tS T b = 3
      · have hb' : b < T.2 := by
          by_cases c1 : T.2 ≤ b
          · have : tS T b = 0 := if_pos c1
            omega
          · omega
        have t := (J.2.2 b hb').1
        rw [if_pos (by rw [k17, c]; rfl), if_neg (by rw [k3 c, nI_lit 59, nI_eqE (by omega) (by omega)]; omega)]
      · rw [if_neg (by rw [k17, nI_lit 3, nI_eqE (by omega) (by omega)]; exact c)]
    have mk : f_X10_isMark 94 (59 : Int32) σ = some (nI 0, σ) := mk
    rw [mk, bd2_s, if_pos z00, bd1_s, if_pos z22, if_neg z]
    exact ⟨_, rfl, MS_ft J hb k18, F22⟩
end
