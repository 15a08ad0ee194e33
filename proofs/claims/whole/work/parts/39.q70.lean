/-! the text of a hall: plain functions -/
/-- the bytes of a tape and how many -/
abbrev Tp : Type := (Nat → Nat) × Nat
def rwR (T : Tp) (lo hi : Nat) : Nat → Nat → Nat
  | 0, p => p
  | d + 1, p => if lo ≤ T.1 p ∧ T.1 p ≤ hi then rwR T lo hi d (p + 1) else p
def rwE (T : Tp) (lo hi p : Nat) : Nat := rwR T lo hi (T.2 - p) p
def sk (T : Tp) (p : Nat) : Nat := rwE T 32 32 p
def wdR (A : Nat → Nat) : Nat → Nat
  | 0 => 0
  | k + 1 => 27 * wdR A k + (A k - 96)
def nuR (A : Nat → Nat) : Nat → Nat
  | 0 => 0
  | k + 1 => 10 * nuR A k + (A k - 48)
def ch (w i : Nat) : Nat := (sByt w i).toInt.toNat
def cod (w : Nat) : Nat := wdR (ch w) (sLen w)
/-- the number of the word at b; 0 where there is none, or too long a one -/
def cdn (T : Tp) (b : Nat) : Nat := if rwE T 97 122 b - b ≤ 8 then wdR (fun i => T.1 (b + i)) (rwE T 97 122 b - b) else 0
def nuT (T : Tp) (b : Nat) : Nat := nuR (fun i => T.1 (b + i)) (rwE T 48 57 b - b)
section
variable {q : HQ} {σ σ' : Mem} {T : Tp} {lo hi p b w : Nat}
theorem rwR_spec : ∀ (d p : Nat), p + d = T.2 → p ≤ rwR T lo hi d p ∧ rwR T lo hi d p ≤ T.2 ∧ (∀ i, p ≤ i → i < rwR T lo hi d p → lo ≤ T.1 i ∧ T.1 i ≤ hi) ∧ (rwR T lo hi d p < T.2 → ¬ (lo ≤ T.1 (rwR T lo hi d p) ∧ T.1 (rwR T lo hi d p) ≤ hi)) := by
  intro d
  induction d with
  | zero =>
    intro p h
    show p ≤ p ∧ p ≤ T.2 ∧ _ ∧ (p < T.2 → _)
    exact ⟨Nat.le_refl p, by omega, fun i h1 h2 => absurd (show i < p from h2) (by omega), fun c => by omega⟩
  | succ d ih =>
    intro p h
    by_cases g : lo ≤ T.1 p ∧ T.1 p ≤ hi
    · have e : rwR T lo hi (d + 1) p = rwR T lo hi d (p + 1) := if_pos g
      rw [e]
      obtain ⟨h1, h2, h3, h4⟩ := ih (p + 1) (by omega)
      refine ⟨by omega, h2, fun i i1 i2 => ?_, h4⟩
      by_cases c : i = p
      · rw [c]; exact g
      · exact h3 i (by omega) i2
    · have e : rwR T lo hi (d + 1) p = p := if_neg g
      rw [e]
      exact ⟨Nat.le_refl p, by omega, fun i h1 h2 => by omega, fun _ => g⟩
theorem rw_spec (h : p ≤ T.2) : p ≤ rwE T lo hi p ∧ rwE T lo hi p ≤ T.2 ∧ (∀ i, p ≤ i → i < rwE T lo hi p → lo ≤ T.1 i ∧ T.1 i ≤ hi) ∧ (rwE T lo hi p < T.2 → ¬ (lo ≤ T.1 (rwE T lo hi p) ∧ T.1 (rwE T lo hi p) ≤ hi)) := rwR_spec _ p (by omega)
theorem rw_gt (h : p < T.2) (g : lo ≤ T.1 p ∧ T.1 p ≤ hi) : p < rwE T lo hi p := by
  have s := rw_spec (T := T) (lo := lo) (hi := hi) (Nat.le_of_lt h)
  by_cases e : rwE T lo hi p = p
  · have := s.2.2.2 (by omega)
    rw [e] at this
    exact absurd g this
  · omega
theorem rw_stop (h : p ≤ T.2) (g : p < T.2 → ¬ (lo ≤ T.1 p ∧ T.1 p ≤ hi)) : rwE T lo hi p = p := by
  have s := rw_spec (T := T) (lo := lo) (hi := hi) h
  by_cases e : rwE T lo hi p = p
  · exact e
  · exact absurd (s.2.2.1 p (Nat.le_refl p) (by omega)) (g (by omega))
theorem sk_sk (h : p ≤ T.2) : sk T (sk T p) = sk T p := by
  have s := rw_spec (T := T) (lo := 32) (hi := 32) h
  exact rw_stop s.2.1 s.2.2.2
theorem wd_inj (A B : Nat → Nat) : ∀ (k l : Nat), (∀ i, i < k → 97 ≤ A i ∧ A i ≤ 122) → (∀ i, i < l → 97 ≤ B i ∧ B i ≤ 122) → wdR A k = wdR B l → k = l ∧ ∀ i, i < k → A i = B i := by
  intro k
  induction k with
  | zero =>
    intro l hA hB e
    cases l with
    | zero => exact ⟨rfl, fun i hi => absurd hi (Nat.not_lt_zero i)⟩
    | succ l =>
      have := hB l (by omega)
      have e : 0 = 27 * wdR B l + (B l - 96) := e
      omega
  | succ k ih =>
    intro l hA hB e
    have a := hA k (by omega)
    cases l with
    | zero =>
      have e : 27 * wdR A k + (A k - 96) = 0 := e
      omega
    | succ l =>
      have c := hB l (by omega)
      have e : 27 * wdR A k + (A k - 96) = 27 * wdR B l + (B l - 96) := e
      obtain ⟨e1, e2⟩ := ih l (fun i hi => hA i (by omega)) (fun i hi => hB i (by omega)) (by omega)
      subst e1
      refine ⟨rfl, fun i hi => ?_⟩
      by_cases g : i = k
      · subst g; omega
      · exact e2 i (by omega)
theorem wd_congr {A B : Nat → Nat} : ∀ (k : Nat), (∀ i, i < k → A i = B i) → wdR A k = wdR B k := by
  intro k
  induction k with
  | zero => intro _; rfl
  | succ k ih =>
    intro h
    show 27 * wdR A k + (A k - 96) = 27 * wdR B k + (B k - 96)
    rw [ih (fun i hi => h i (by omega)), h k (by omega)]
theorem wd_lt {A : Nat → Nat} : ∀ (k : Nat), (∀ i, i < k → 97 ≤ A i ∧ A i ≤ 122) → wdR A k + 1 ≤ 27 ^ k := by
  intro k
  induction k with
  | zero => intro _; exact Nat.le_refl 1
  | succ k ih =>
    intro h
    have a := h k (by omega)
    have i1 := ih (fun i hi => h i (by omega))
    show 27 * wdR A k + (A k - 96) + 1 ≤ 27 ^ (k + 1)
    rw [Nat.pow_succ]
    omega
theorem nu_lt {A : Nat → Nat} : ∀ (k : Nat), (∀ i, i < k → 48 ≤ A i ∧ A i ≤ 57) → nuR A k + 1 ≤ 10 ^ k := by
  intro k
  induction k with
  | zero => intro _; exact Nat.le_refl 1
  | succ k ih =>
    intro h
    have a := h k (by omega)
    have i1 := ih (fun i hi => h i (by omega))
    show 10 * nuR A k + (A k - 48) + 1 ≤ 10 ^ (k + 1)
    rw [Nat.pow_succ]
    omega
theorem wd_8 {A : Nat → Nat} {k : Nat} (hk : k ≤ 8) (h : ∀ i, i < k → 97 ≤ A i ∧ A i ≤ 122) : wdR A k < 300000000000 := by
  have a := wd_lt k h
  have c : 27 ^ k ≤ 27 ^ 8 := Nat.pow_le_pow_right (by omega) hk
  have e : 27 ^ 8 = 282429536481 := by decide
  omega
theorem nu_4 {A : Nat → Nat} {k : Nat} (hk : k ≤ 4) (h : ∀ i, i < k → 48 ≤ A i ∧ A i ≤ 57) : nuR A k ≤ 9999 := by
  have a := nu_lt k h
  have c : 10 ^ k ≤ 10 ^ 4 := Nat.pow_le_pow_right (by omega) hk
  omega
theorem sLen_t : ∀ w, w < 12 → 1 ≤ sLen w ∧ sLen w ≤ 7 := by decide
theorem ch_t : ∀ w, w < 12 → ∀ i, i < sLen w → 97 ≤ ch w i ∧ ch w i ≤ 122 := by decide
theorem cod_t : cod 5 = 33562584 ∧ cod 0 = 237470 ∧ cod 1 = 174875589 ∧ cod 2 = 280258371 ∧ cod 3 = 38567169 ∧ cod 4 = 1306021 ∧ cod 6 = 9173 ∧ cod 7 = 12532058 ∧ cod 8 = 11720705 ∧ cod 9 = 8930039 ∧ cod 10 = 1808912405 ∧ cod 11 = 388708 := by decide
theorem chr_t : ∀ w, w < 12 → ∀ i, i < sLen w → sxo w (nI i) = some i ∧ (vp_nar .char (((sByt w i) &&& (255 : Int32)).toUInt32 % 65536).toInt32 = (((sByt w i) &&& (255 : Int32)).toUInt32 % 65536).toInt32) ∧ (((sByt w i) &&& (255 : Int32)).toUInt32 % 65536).toInt32 = nI (ch w i) ∧ ¬ nI i < (0 : Int32) ∧ nI i < Int32.ofNat (sLen w) := by decide
theorem cl_char (hw : w < 12) {i : Nat} (h : i < sLen w) : f_J0_charAt_5068e w (nI i) σ = some (nI (ch w i), σ) := by
  obtain ⟨h1, h2, h3, h4, h5⟩ := chr_t w hw i h
  have a1 : f_J3_checkIndex_8e157 (nI i) (Int32.ofNat (sLen w)) σ = some (nI i, σ) := by
    unfold f_J3_checkIndex_8e157
    rw [if_neg h4, if_pos h5]
  have a2 : f_J1_charAt_3b067 w (nI i) σ = some (nI (ch w i), σ) := by
    unfold f_J1_charAt_3b067 f_J0_checkIndex_df160
    rw [a1, bd2_s, bd1_s, h1, bd1_s, grd_t h2, h3]
  have h6 : vp_nar .char (nI (ch w i)) = nI (ch w i) := by rw [← h3]; exact h2
  unfold f_J0_charAt_5068e f_J0_isLatin1_aae02
  rw [bd2_s, grd_t rfl, a2, bd2_s, grd_t h6]
theorem len_t : ∀ w, w < 12 → ((Int32.ofNat (sLen w)) >>> ((0 : Int32) &&& 31)) = nI (sLen w) := by decide
theorem cl_len (hw : w < 12) : f_J0_length_8abf5 w σ = some (nI (sLen w), σ) := by
  have h : vp_nar .byte (0 : Int32) = (0 : Int32) := by decide
  unfold f_J0_length_8abf5 f_J0_coder_7d493
  rw [grd_t h, bd2_s, grd_t rfl, len_t w hw]
theorem bI_lt {t c : Nat} (ht : t < 256) (hc : c < 128) : (bI t < nI c) = (t < c ∨ 128 ≤ t) := by
  unfold bI
  by_cases g : t < 128
  · rw [if_pos g, nI_ltE (by omega) (by omega)]
    apply propext; omega
  · rw [if_neg g, nI_Nlt (by omega) (by omega) (by omega)]
    exact propext ⟨fun _ => by omega, fun _ => trivial⟩
theorem lt_bI {t c : Nat} (ht : t < 256) (hc : c < 128) : (nI c < bI t) = (c < t ∧ t < 128) := by
  unfold bI
  by_cases g : t < 128
  · rw [if_pos g, nI_ltE (by omega) (by omega)]
    apply propext; omega
  · rw [if_neg g, nI_ltN (by omega) (by omega) (by omega)]
    exact propext ⟨False.elim, fun _ => by omega⟩
theorem bI_eq {t c : Nat} (ht : t < 256) (hc : c < 128) : (bI t = nI c) = (t = c) := by
  unfold bI
  by_cases g : t < 128
  · rw [if_pos g, nI_eqE (by omega) (by omega)]
  · rw [if_neg g, nI_Neq (by omega) (by omega) (by omega)]
    exact propext ⟨False.elim, fun _ => by omega⟩
/-- our tape holds T -/
def KT (T : Tp) (σ : Mem) : Prop := T.2 ≤ 200 ∧ gI σ 46 1 = nI T.2 ∧ ∀ i, i < T.2 → T.1 i < 256 ∧ gI σ 47 i = bI (T.1 i)
theorem cl_rowR (K : KT T σ) (hl : lo < 128) (hh : hi < 128) : ∀ (d p fuel : Nat), p + d = T.2 → d < fuel → iterF (F_X7_endOfRow_5 46 (nI lo) (nI hi)) (fun _ _ => none) fuel (nI p) σ = some (nI (rwR T lo hi d p), σ) := by
  obtain ⟨k0, k1, k2⟩ := K
  intro d
  induction d with
  | zero =>
    intro p fuel hp hf
    obtain ⟨f, rfl⟩ : ∃ f, fuel = f + 1 := ⟨fuel - 1, by omega⟩
    show F_X7_endOfRow_5 46 (nI lo) (nI hi) _ _ _ = some (nI p, σ)
    unfold F_X7_endOfRow_5
    rw [if_pos (by rw [k1, nI_leE (by omega) (by omega)]; omega)]
  | succ d ih =>
    intro p fuel hp hf
    obtain ⟨f, rfl⟩ : ∃ f, fuel = f + 1 := ⟨fuel - 1, by omega⟩
    have r := ih (p + 1) f (by omega) (by omega)
    have i1 : ixo 47 (nI p) = some p := ixo_47 (by omega)
    obtain ⟨t1, t2⟩ := k2 p (by omega)
    show F_X7_endOfRow_5 46 (nI lo) (nI hi) _ _ _ = _
    generalize iterF (F_X7_endOfRow_5 46 (nI lo) (nI hi)) (fun _ _ => none) f = R at r
    unfold F_X7_endOfRow_5
    rw [if_neg (by rw [k1, nI_leE (by omega) (by omega)]; omega)]
    simp only [Nat.reduceAdd, i1, bd1_s, t2]
    by_cases g : lo ≤ T.1 p ∧ T.1 p ≤ hi
    · have e : rwR T lo hi (d + 1) p = rwR T lo hi d (p + 1) := if_pos g
      rw [if_neg (by rw [bI_lt t1 hl]; omega), if_neg (by rw [lt_bI t1 hh]; omega), nI_lit 1, nI_addE, r, e]
    · have e : rwR T lo hi (d + 1) p = p := if_neg g
      rw [e]
      by_cases g2 : bI (T.1 p) < nI lo
      · rw [if_pos g2]
      · rw [if_neg g2, if_pos]
        rw [bI_lt t1 hl] at g2
        rw [lt_bI t1 hh]
        omega
theorem cl_row (K : KT T σ) (hl : lo < 128) (hh : hi < 128) (hp : p ≤ T.2) (e : gI σ 46 2 = nI p) : f_X7_endOfRow 46 (nI lo) (nI hi) σ = some (nI (rwE T lo hi p), σ) := by
  have := K.1
  unfold f_X7_endOfRow
  rw [e]
  exact cl_rowR K hl hh (T.2 - p) p FU (by omega) (FU_lt (by omega))
theorem cl_skip (K : KT T σ) (hp : p ≤ T.2) (e : gI σ 46 2 = nI p) : f_X7_skipBlanks 46 σ = some (pI σ 46 2 (nI (sk T p))) := by
  unfold f_X7_skipBlanks
  rw [nI_lit 32, cl_row K (by omega) (by omega) hp e, bd2_s]
  rfl
theorem KT_fr (K : KT T σ) (e : ∀ k i, (k = 46 ∧ i = 1) ∨ k = 47 → gI σ' k i = gI σ k i) : KT T σ' :=
  ⟨K.1, (e _ _ (by omega)).trans K.2.1, fun i hi => ⟨(K.2.2 i hi).1, (e _ _ (by omega)).trans (K.2.2 i hi).2⟩⟩
theorem cl_isR (K : KT T σ) (hw : w < 12) {e : Nat} (he : e = b + sLen w) (hn : e ≤ T.2) : ∀ (d i fuel : Nat), i + d = sLen w → d < fuel → (iterF (F_X7_isName_15 46 (nI b) (nI e) w) (fun _ _ => none) fuel (nI (b + i)) σ = some (nI 1, σ) ∧ ∀ j, i ≤ j → j < sLen w → T.1 (b + j) = ch w j) ∨ (iterF (F_X7_isName_15 46 (nI b) (nI e) w) (fun _ _ => none) fuel (nI (b + i)) σ = some (nI 0, σ) ∧ ∃ j, j < sLen w ∧ T.1 (b + j) ≠ ch w j) := by
  obtain ⟨k0, k1, k2⟩ := K
  intro d
  induction d with
  | zero =>
    intro i fuel hi hf
    obtain ⟨f, rfl⟩ : ∃ f, fuel = f + 1 := ⟨fuel - 1, by omega⟩
    refine .inl ⟨?_, fun j h1 h2 => by omega⟩
    show F_X7_isName_15 46 (nI b) (nI e) w _ _ _ = _
    unfold F_X7_isName_15
    rw [if_pos (by rw [nI_leE (by omega) (by omega)]; omega)]
    rfl
  | succ d ih =>
    intro i fuel hi hf
    obtain ⟨f, rfl⟩ : ∃ f, fuel = f + 1 := ⟨fuel - 1, by omega⟩
    have r := ih (i + 1) f (by omega) (by omega)
    have i1 : ixo 47 (nI (b + i)) = some (b + i) := ixo_47 (by omega)
    obtain ⟨t1, t2⟩ := k2 (b + i) (by omega)
    have c := ch_t w hw i (by omega)
    have st : F_X7_isName_15 46 (nI b) (nI e) w (iterF (F_X7_isName_15 46 (nI b) (nI e) w) (fun _ _ => none) f) (nI (b + i)) σ = if T.1 (b + i) = ch w i then iterF (F_X7_isName_15 46 (nI b) (nI e) w) (fun _ _ => none) f (nI (b + (i + 1))) σ else some (nI 0, σ) := by
      generalize iterF (F_X7_isName_15 46 (nI b) (nI e) w) (fun _ _ => none) f = R
      unfold F_X7_isName_15
      have e1 : nI (b + i) - nI b = nI i := by rw [nI_subE (by omega)]; congr 1; omega
      rw [if_neg (by rw [nI_leE (by omega) (by omega)]; omega)]
      simp only [Nat.reduceAdd, i1, bd1_s, e1, cl_char hw (show i < sLen w by omega), bd2_s, t2, bI_eq t1 (show ch w i < 128 by omega)]
      rw [nI_lit 1, nI_addE]
      rfl
    by_cases g : T.1 (b + i) = ch w i
    · rw [if_pos g] at st
      rcases r with ⟨r1, r2⟩ | ⟨r1, r2⟩
      · refine .inl ⟨st.trans r1, fun j h1 h2 => ?_⟩
        by_cases z : j = i
        · rw [z]; exact g
        · exact r2 j (by omega) h2
      · exact .inr ⟨st.trans r1, r2⟩
    · rw [if_neg g] at st
      exact .inr ⟨st, i, by omega, g⟩
theorem cl_isName (K : KT T σ) (hw : w < 12) (hb : b ≤ T.2) : f_X7_isName 46 (nI b) (nI (rwE T 97 122 b)) w σ = some (nI (if cdn T b = cod w then 1 else 0), σ) := by
  have s := rw_spec (T := T) (lo := 97) (hi := 122) hb
  have k0 := K.1
  obtain ⟨l1, l2⟩ := sLen_t w hw
  unfold f_X7_isName
  rw [cl_len hw, bd2_s, nI_subE s.1]
  have hA : ∀ i, i < rwE T 97 122 b - b → 97 ≤ T.1 (b + i) ∧ T.1 (b + i) ≤ 122 := fun i hi => s.2.2.1 (b + i) (by omega) (by omega)
  by_cases g : rwE T 97 122 b - b = sLen w
  · rw [if_pos (by rw [g])]
    have ec : cdn T b = wdR (fun i => T.1 (b + i)) (rwE T 97 122 b - b) := if_pos (by omega)
    have r := cl_isR K hw (show rwE T 97 122 b = b + sLen w by omega) s.2.1 (sLen w) 0 FU (by omega) (FU_lt (by omega))
    rw [Nat.add_zero] at r
    rcases r with ⟨r1, r2⟩ | ⟨r1, j, r2, r3⟩
    · rw [r1, if_pos]
      rw [ec, g]
      exact wd_congr _ fun i hi => r2 i (Nat.zero_le i) hi
    · rw [r1, if_neg]
      intro c
      rw [ec] at c
      exact r3 ((wd_inj _ _ _ _ hA (ch_t w hw) c).2 j (by omega))
  · rw [if_neg (by rw [nI_eqE (by omega) (by omega)]; exact g), if_neg]
    · rfl
    · intro c
      by_cases z : rwE T 97 122 b - b ≤ 8
      · have ec : cdn T b = wdR (fun i => T.1 (b + i)) (rwE T 97 122 b - b) := if_pos z
        rw [ec] at c
        exact g (wd_inj _ _ _ _ hA (ch_t w hw) c).1
      · have ec : cdn T b = 0 := if_neg z
        rw [ec] at c
        have h : ∀ w, w < 12 → cod w ≠ 0 := by decide
        exact h w hw c.symm
end
