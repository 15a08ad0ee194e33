/-! the text of a hall: the model reads a token -/
def nL (n : Nat) : Int64 := Int64.ofNat n
theorem nL_eq {a b : Nat} (ha : a < 300000000000) (hb : b < 300000000000) : (nL a = nL b) = (a = b) := by
  apply propext
  constructor
  · intro h
    have h := congrArg Int64.toInt h
    unfold nL at h
    rw [Int64.toInt_ofNat_of_lt (by omega), Int64.toInt_ofNat_of_lt (by omega)] at h
    omega
  · rintro rfl; rfl
theorem nL_N {a : Nat} (ha : a < 300000000000) : nL a ≠ -1 := by
  intro h
  have h := congrArg Int64.toInt h
  unfold nL at h
  rw [Int64.toInt_ofNat_of_lt (by omega)] at h
  have : (-1 : Int64).toInt = -1 := by decide
  omega
theorem nI_L {t : Nat} (ht : t < 2147483648) : (nI t).toInt64 = nL t := by
  apply Int64.toInt_inj.mp
  unfold nL
  rw [Int32.toInt_toInt64, nI_toInt (by omega), Int64.toInt_ofNat_of_lt (by omega)]
theorem nL_step {a t : Nat} (h1 : 96 ≤ t) (h2 : t < 2147483648) : ((27 : Int64) * nL a) + (nI t).toInt64 - (96 : Int64) = nL (27 * a + (t - 96)) := by
  rw [nI_L h2]
  have e : (27 : Int64) * nL a + nL t = nL (27 * a + (t - 96)) + (96 : Int64) := by
    unfold nL
    show Int64.ofNat 27 * Int64.ofNat a + Int64.ofNat t = Int64.ofNat (27 * a + (t - 96)) + Int64.ofNat 96
    rw [← Int64.ofNat_mul, ← Int64.ofNat_add, ← Int64.ofNat_add]
    congr 1
    omega
  rw [e, Int64.add_sub_cancel]
/-- the model's tape holds T -/
def JT (T : Tp) (σ : Mem) : Prop := T.2 ≤ 200 ∧ gI σ 94 16 = nI T.2 ∧ ∀ i, i < T.2 → T.1 i < 256 ∧ gI σ 105 i = nI (T.1 i)
def Fq (W : Nat → Nat → Prop) (σ σ' : Mem) : Prop := (∀ k i, ¬ W k i → gI σ' k i = gI σ k i) ∧ ∀ k i, k ≠ 94 → gL σ' k i = gL σ k i
def tS (T : Tp) (b : Nat) : Nat := if T.2 ≤ b then 0 else if 97 ≤ T.1 b ∧ T.1 b ≤ 122 then 1 else if 48 ≤ T.1 b ∧ T.1 b ≤ 57 then 2 else 3
def tE (T : Tp) (b : Nat) : Nat := if tS T b = 1 then rwE T 97 122 b else if tS T b = 2 then rwE T 48 57 b else if tS T b = 3 then b + 1 else b
def wdL (A : Nat → Nat) (k : Nat) : Int64 := if k ≤ 8 then nL (wdR A k) else -1
def nuV (A : Nat → Nat) (k : Nat) : Int32 := if k ≤ 4 then nI (nuR A k) else -nI 1
/-- the token at b is read -/
def Tok (T : Tp) (b : Nat) (σ : Mem) : Prop := gI σ 94 18 = nI b ∧ gI σ 94 17 = nI (tS T b) ∧ gI σ 94 19 = nI (tE T b) ∧ (tS T b = 1 → gL σ 94 20 = wdL (fun i => T.1 (b + i)) (rwE T 97 122 b - b)) ∧ (tS T b = 2 → gI σ 94 21 = nuV (fun i => T.1 (b + i)) (rwE T 48 57 b - b)) ∧ (tS T b = 3 → gI σ 94 21 = nI (T.1 b))
section
variable {q d : HQ} {σ σ' : Mem} {T : Tp} {lo hi p b e w v k a : Nat} {x : Nat × Nat}
theorem Fq_rfl (W : Nat → Nat → Prop) (σ : Mem) : Fq W σ σ := ⟨fun _ _ _ => rfl, fun _ _ _ => rfl⟩
theorem Fq_tr {W : Nat → Nat → Prop} {a b c : Mem} (h : Fq W a b) (g : Fq W b c) : Fq W a c := ⟨fun k i n => (g.1 k i n).trans (h.1 k i n), fun k i n => (g.2 k i n).trans (h.2 k i n)⟩
theorem Fq_pI {W : Nat → Nat → Prop} {a b : Mem} {k i : Nat} (v : Int32) (h : Fq W a b) (w : W k i) : Fq W a (pI b k i v) := ⟨fun k' i' n => by rw [gI_ne _ _ (by rintro ⟨rfl, rfl⟩; exact n w)]; exact h.1 k' i' n, h.2⟩
theorem Fq_pL {W : Nat → Nat → Prop} {a b : Mem} {i : Nat} (v : Int64) (h : Fq W a b) : Fq W a (pL b 94 i v) := ⟨h.1, fun k' i' n => by rw [gL_pL, if_neg (by omega)]; exact h.2 k' i' n⟩
theorem Fq_mono {W V : Nat → Nat → Prop} {a b : Mem} (h : Fq W a b) (w : ∀ k i, W k i → V k i) : Fq V a b := ⟨fun k i n => h.1 k i (fun c => n (w k i c)), h.2⟩
theorem JT_fr (J : JT T σ) (e : ∀ k i, (k = 94 ∧ i = 16) ∨ k = 105 → gI σ' k i = gI σ k i) : JT T σ' :=
  ⟨J.1, (e _ _ (by omega)).trans J.2.1, fun i hi => ⟨(J.2.2 i hi).1, (e _ _ (by omega)).trans (J.2.2 i hi).2⟩⟩
def byV (T : Tp) (p : Nat) : Int32 := if p < T.2 then nI (T.1 p) else -nI 1
theorem md_byte (J : JT T σ) (hp : p < 1000) : f_X10_byteAt 94 (nI p) σ = some (byV T p, σ) := by
  have j0 := J.1
  unfold f_X10_byteAt byV
  by_cases c : p < T.2
  · have i1 : ixo 105 (nI p) = some p := ixo_105 (by omega)
    rw [if_neg (by rw [J.2.1, nI_leE (by omega) (by omega)]; omega), if_pos c]
    simp only [Nat.reduceAdd, i1, bd1_s, (J.2.2 p c).2]
  · rw [if_pos (by rw [J.2.1, nI_leE (by omega) (by omega)]; omega), if_neg c]
    rfl
theorem md_cls {lo hi : Nat} (h9 : hi < 128) (h1 : 1 ≤ lo ∧ lo < 128) (J : JT T σ) : (bd2 (f_X9_within (byV T p) (nI lo) (nI hi) σ) fun r3 σ1 => grd (r3 = nI 0 ∨ r3 = nI 1) (some (r3, σ1))) = some (nI (if p < T.2 ∧ lo ≤ T.1 p ∧ T.1 p ≤ hi then 1 else 0), σ) := by
  by_cases c : p < T.2 ∧ lo ≤ T.1 p ∧ T.1 p ≤ hi
  · have e : byV T p = nI (T.1 p) := if_pos c.1
    rw [if_pos c, e]
    exact bit_ok c.2.1 c.2.2 (by omega)
  · rw [if_neg c]
    refine bit_no ?_
    by_cases g : p < T.2
    · have t := (J.2.2 p g).1
      have e : byV T p = nI (T.1 p) := if_pos g
      rw [e, nI_ltE (by omega) (by omega), nI_ltE (by omega) (by omega)]
      omega
    · have e : byV T p = -nI 1 := if_neg g
      rw [e]
      exact .inl (by rw [nI_Nlt (by omega) (by omega) (by omega)]; trivial)
theorem md_let (J : JT T σ) : f_X10_isLetter (byV T p) σ = some (nI (if p < T.2 ∧ 97 ≤ T.1 p ∧ T.1 p ≤ 122 then 1 else 0), σ) := md_cls (lo := 97) (hi := 122) (by omega) (by omega) J
theorem md_dig (J : JT T σ) : f_X10_isDigit (byV T p) σ = some (nI (if p < T.2 ∧ 48 ≤ T.1 p ∧ T.1 p ≤ 57 then 1 else 0), σ) := md_cls (lo := 48) (hi := 57) (by omega) (by omega) J
theorem n10 : ¬ nI 1 = (0 : Int32) := by rw [nI_lit 0, nI10]; exact id
theorem wdL_step {A : Nat → Nat} {i : Nat} (h : i < 8) (h1 : 96 ≤ A i) (h2 : A i < 256) : ((27 : Int64) * wdL A i) + (nI (A i)).toInt64 - (96 : Int64) = wdL A (i + 1) := by
  have e1 : wdL A i = nL (wdR A i) := if_pos (by omega)
  have e2 : wdL A (i + 1) = nL (wdR A (i + 1)) := if_pos (by omega)
  rw [e1, e2, nL_step h1 (by omega)]
  rfl
theorem nuV_step {A : Nat → Nat} {i : Nat} (h : i < 4) (h1 : 48 ≤ A i) : ((10 : Int32) * nuV A i) + nI (A i) - (48 : Int32) = nuV A (i + 1) := by
  have e1 : nuV A i = nI (nuR A i) := if_pos (by omega)
  have e2 : nuV A (i + 1) = nI (nuR A (i + 1)) := if_pos (by omega)
  rw [e1, e2, nI_lit 10, nI_lit 48, nI_mulE, nI_addE, nI_subE (by omega)]
  congr 1
  show _ = 10 * nuR A i + (A i - 48)
  omega
def Fk (k i : Nat) : Prop := k = 94 ∧ (i = 19 ∨ i = 21)
theorem md_digits (hb : b ≤ T.2) : ∀ (d i fuel : Nat) (σ : Mem), b + i + d = rwE T 48 57 b → d < fuel → JT T σ → gI σ 94 17 = nI 2 → gI σ 94 18 = nI b → gI σ 94 19 = nI (b + i) → gI σ 94 21 = nuV (fun i => T.1 (b + i)) i → ∃ σ', iterF (F_X10_advance_207 94) (fun _ => none) fuel σ = some σ' ∧ gI σ' 94 19 = nI (rwE T 48 57 b) ∧ gI σ' 94 21 = nuV (fun i => T.1 (b + i)) (rwE T 48 57 b - b) ∧ Fr Fk σ σ' := by
  have s := rw_spec (T := T) (lo := 48) (hi := 57) hb
  generalize rwE T 48 57 b = e at *
  intro d
  induction d with
  | zero =>
    intro i fuel σ hd hf J e17 e18 e19 e21
    obtain ⟨f, rfl⟩ : ∃ f, fuel = f + 1 := ⟨fuel - 1, by omega⟩
    have j0 := J.1
    have ei : i = e - b := by omega
    have hc : ¬ (b + i < T.2 ∧ 48 ≤ T.1 (b + i) ∧ T.1 (b + i) ≤ 57) := fun c => by
      have c3 : b + i = e := by omega
      rw [c3] at c
      exact s.2.2.2 c.1 c.2
    refine ⟨σ, ?_, e19.trans (congrArg nI (by omega)), by rw [e21, ei], Fr_rfl _ _⟩
    show F_X10_advance_207 94 _ σ = _
    unfold F_X10_advance_207
    rw [if_pos (by rw [e17]; rfl), e19, md_byte J (by omega), bd2_s, md_dig J, bd2_s, if_neg hc, if_pos z00]
  | succ d ih =>
    intro i fuel σ hd hf J e17 e18 e19 e21
    obtain ⟨f, rfl⟩ : ∃ f, fuel = f + 1 := ⟨fuel - 1, by omega⟩
    have j0 := J.1
    have t := s.2.2.1 (b + i) (by omega) (by omega)
    obtain ⟨τ, eτ⟩ : ∃ τ, τ = pI (pI σ 94 21 (nuV (fun i => T.1 (b + i)) (i + 1))) 94 19 (nI (b + (i + 1))) := ⟨_, rfl⟩
    have g : ∀ k j, ¬ Fk k j → gI τ k j = gI σ k j := fun k j c => by rw [eτ]; unfold Fk at c; rw [gI_ne _ _ (by omega), gI_ne _ _ (by omega)]
    have Fτ : Fr Fk σ τ := by rw [eτ]; exact Fr_pI _ (Fr_pI _ (Fr_rfl _ _) ⟨rfl, .inr rfl⟩) ⟨rfl, .inl rfl⟩
    obtain ⟨σ', r1, r2, r3, r4⟩ := ih (i + 1) f τ (by omega) (by omega) (JT_fr J fun k i c => g k i (by unfold Fk; omega)) ((g _ _ (by unfold Fk; omega)).trans e17) ((g _ _ (by unfold Fk; omega)).trans e18) (by rw [eτ]; exact gI_eq _ _ ⟨rfl, rfl⟩) (by rw [eτ, gI_ne _ _ (by omega)]; exact gI_eq _ _ ⟨rfl, rfl⟩)
    refine ⟨σ', Eq.trans ?_ r1, r2, r3, Fr_tr Fτ r4⟩
    show F_X10_advance_207 94 _ σ = _
    generalize iterF (F_X10_advance_207 94) (fun _ => none) f = R
    unfold F_X10_advance_207
    rw [if_pos (by rw [e17]; rfl), e19, md_byte J (by omega), bd2_s, md_dig J, bd2_s, if_pos (show b + i < T.2 ∧ 48 ≤ T.1 (b + i) ∧ T.1 (b + i) ≤ 57 from ⟨by omega, t⟩), if_neg n10, e19, e18]
    have es : nI (b + i) - nI b = nI i := by rw [nI_subE (by omega)]; congr 1; omega
    rw [es]
    by_cases c : i < 4
    · rw [if_neg (by rw [nI_lit 4, nI_leE (by omega) (by omega)]; omega), md_byte J (by omega), bd2_s, e21]
      have eb : byV T (b + i) = nI (T.1 (b + i)) := if_pos (by omega)
      have es := nuV_step (A := fun i => T.1 (b + i)) c t.1
      have es : ((10 : Int32) * nuV (fun i => T.1 (b + i)) i) + nI (T.1 (b + i)) - (48 : Int32) = nuV (fun i => T.1 (b + i)) (i + 1) := es
      rw [eb, es, bd1_s, gI_ne _ _ (by omega), e19, nI_lit 1, nI_addE, bd1_s, eτ]
      rfl
    · have en : nuV (fun i => T.1 (b + i)) (i + 1) = -nI 1 := if_neg (by omega)
      rw [if_pos (by rw [nI_lit 4, nI_leE (by omega) (by omega)]; omega), bd1_s, gI_ne _ _ (by omega), e19, nI_lit 1, nI_addE, bd1_s, eτ, en]
      rfl
def Fj (k i : Nat) : Prop := k = 94 ∧ i = 19
theorem md_letters (hb : b ≤ T.2) : ∀ (d i fuel : Nat) (σ : Mem), b + i + d = rwE T 97 122 b → d < fuel → JT T σ → gI σ 94 17 = nI 1 → gI σ 94 18 = nI b → gI σ 94 19 = nI (b + i) → gL σ 94 20 = wdL (fun i => T.1 (b + i)) i → ∃ σ', iterF (F_X10_advance_126 94) (fun _ => none) fuel σ = some σ' ∧ gI σ' 94 19 = nI (rwE T 97 122 b) ∧ gL σ' 94 20 = wdL (fun i => T.1 (b + i)) (rwE T 97 122 b - b) ∧ Fq Fj σ σ' := by
  have s := rw_spec (T := T) (lo := 97) (hi := 122) hb
  generalize rwE T 97 122 b = e at *
  intro d
  induction d with
  | zero =>
    intro i fuel σ hd hf J e17 e18 e19 e21
    obtain ⟨f, rfl⟩ : ∃ f, fuel = f + 1 := ⟨fuel - 1, by omega⟩
    have j0 := J.1
    have ei : i = e - b := by omega
    have hc : ¬ (b + i < T.2 ∧ 97 ≤ T.1 (b + i) ∧ T.1 (b + i) ≤ 122) := fun c => by
      have c3 : b + i = e := by omega
      rw [c3] at c
      exact s.2.2.2 c.1 c.2
    refine ⟨σ, ?_, e19.trans (congrArg nI (by omega)), by rw [e21, ei], Fq_rfl _ _⟩
    have ex : iterF (F_X10_advance_207 94) (fun _ => none) FU σ = some σ := by
      show F_X10_advance_207 94 _ σ = _
      unfold F_X10_advance_207
      rw [if_neg (by rw [e17]; decide)]
    show F_X10_advance_126 94 _ σ = _
    unfold F_X10_advance_126
    rw [if_pos (by rw [e17]; rfl), e19, md_byte J (by omega), bd2_s, md_let J, bd2_s, if_neg hc, if_pos z00]
    exact ex
  | succ d ih =>
    intro i fuel σ hd hf J e17 e18 e19 e21
    obtain ⟨f, rfl⟩ : ∃ f, fuel = f + 1 := ⟨fuel - 1, by omega⟩
    have j0 := J.1
    have t := s.2.2.1 (b + i) (by omega) (by omega)
    obtain ⟨τ, eτ⟩ : ∃ τ, τ = pI (pL σ 94 20 (wdL (fun i => T.1 (b + i)) (i + 1))) 94 19 (nI (b + (i + 1))) := ⟨_, rfl⟩
    have g : ∀ k j, ¬ Fj k j → gI τ k j = gI σ k j := fun k j c => by rw [eτ]; unfold Fj at c; rw [gI_ne _ _ (by omega), gI_pL]
    have Fτ : Fq Fj σ τ := by rw [eτ]; exact Fq_pI _ (Fq_pL _ (Fq_rfl _ _)) ⟨rfl, rfl⟩
    obtain ⟨σ', r1, r2, r3, r4⟩ := ih (i + 1) f τ (by omega) (by omega) (JT_fr J fun k i c => g k i (by unfold Fj; omega)) ((g _ _ (by unfold Fj; omega)).trans e17) ((g _ _ (by unfold Fj; omega)).trans e18) (by rw [eτ]; exact gI_eq _ _ ⟨rfl, rfl⟩) (by rw [eτ, gL_pI, gL_pL, if_pos ⟨rfl, rfl⟩])
    refine ⟨σ', Eq.trans ?_ r1, r2, r3, Fq_tr Fτ r4⟩
    show F_X10_advance_126 94 _ σ = _
    generalize iterF (F_X10_advance_126 94) (fun _ => none) f = R
    unfold F_X10_advance_126
    rw [if_pos (by rw [e17]; rfl), e19, md_byte J (by omega), bd2_s, md_let J, bd2_s, if_pos (show b + i < T.2 ∧ 97 ≤ T.1 (b + i) ∧ T.1 (b + i) ≤ 122 from ⟨by omega, t⟩), if_neg n10, e19, e18]
    have es : nI (b + i) - nI b = nI i := by rw [nI_subE (by omega)]; congr 1; omega
    rw [es]
    by_cases c : i < 8
    · rw [if_neg (by rw [nI_lit 8, nI_leE (by omega) (by omega)]; omega), md_byte J (by omega), bd2_s, e21]
      have eb : byV T (b + i) = nI (T.1 (b + i)) := if_pos (by omega)
      have es := wdL_step (A := fun i => T.1 (b + i)) c (by show 96 ≤ T.1 (b + i); omega) (by show T.1 (b + i) < 256; omega)
      have es : ((27 : Int64) * wdL (fun i => T.1 (b + i)) i) + (nI (T.1 (b + i))).toInt64 - (96 : Int64) = wdL (fun i => T.1 (b + i)) (i + 1) := es
      rw [eb, es, bd1_s, gI_pL, e19, nI_lit 1, nI_addE, bd1_s, eτ]
      rfl
    · have en : wdL (fun i => T.1 (b + i)) (i + 1) = -1 := if_neg (by omega)
      rw [if_pos (by rw [nI_lit 8, nI_leE (by omega) (by omega)]; omega), bd1_s, gI_pL, e19, nI_lit 1, nI_addE, bd1_s, eτ, en]
      rfl
theorem md_blank : ∀ (d p fuel : Nat) (σ : Mem), p + d = T.2 → d < fuel → JT T σ → gI σ 94 18 = nI p → ∃ σ1 R, gI σ1 94 18 = nI (rwR T 32 32 d p) ∧ Fr (fun k i => k = 94 ∧ i = 18) σ σ1 ∧ iterF (F_X10_advance_8 94) (fun _ => none) fuel σ = F_X10_advance_8 94 R σ1 := by
  intro d
  induction d with
  | zero =>
    intro p fuel σ hd hf J e18
    obtain ⟨f, rfl⟩ : ∃ f, fuel = f + 1 := ⟨fuel - 1, by omega⟩
    exact ⟨σ, _, e18, Fr_rfl _ _, rfl⟩
  | succ d ih =>
    intro p fuel σ hd hf J e18
    obtain ⟨f, rfl⟩ : ∃ f, fuel = f + 1 := ⟨fuel - 1, by omega⟩
    have j0 := J.1
    by_cases g : 32 ≤ T.1 p ∧ T.1 p ≤ 32
    · have e : rwR T 32 32 (d + 1) p = rwR T 32 32 d (p + 1) := if_pos g
      rw [e]
      obtain ⟨σ1, R, r1, r2, r3⟩ := ih (p + 1) f (pI σ 94 18 (nI (p + 1))) (by omega) (by omega) (JT_fr J fun k i c => gI_ne _ _ (by omega)) (gI_eq _ _ ⟨rfl, rfl⟩)
      refine ⟨σ1, R, r1, Fr_tr (Fr_pI _ (Fr_rfl _ _) ⟨rfl, rfl⟩) r2, Eq.trans ?_ r3⟩
      show F_X10_advance_8 94 _ σ = _
      generalize iterF (F_X10_advance_8 94) (fun _ => none) f = R2
      have eb : byV T p = nI (T.1 p) := if_pos (by omega)
      have t : T.1 p = 32 := by omega
      unfold F_X10_advance_8
      rw [e18, md_byte J (by omega), bd2_s, eb, t, if_pos (show nI 32 = (32 : Int32) from rfl), e18, nI_lit 1, nI_addE, bd1_s]
    · have e : rwR T 32 32 (d + 1) p = p := if_neg g
      rw [e]
      exact ⟨σ, _, e18, Fr_rfl _ _, rfl⟩
end
