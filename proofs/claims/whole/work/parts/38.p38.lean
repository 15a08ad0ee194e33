/-! limits, burns, calls: told once for both -/
def limw (q : HQ) (b w : Nat) : Nat :=
  if q.kind b = 4 then (if q.purse b < q.val b * w / 100 then q.purse b else q.val b * w / 100) * 9 / 10
  else (if q.purse b < q.val b * w / 100 then q.purse b else q.val b * w / 100)
def burns (q : HQ) : Nat := 1 + q.dr (q.tick % 12)
def lef (q : HQ) : Nat := q.wax q.lit - q.burnt
def rais (q : HQ) (b : Nat) : Nat := if q.kind b = 2 then 2 * q.step + q.a b else if q.kind b = 4 then 2 * q.step + q.a b else q.step
def rdy (q : HQ) (b : Nat) : Nat :=
  if q.kind b = 5 then (if lef q ≤ burns q then 1 else 0)
  else if q.tick % (q.a b + 1) = 0 then
    (if q.kind b = 1 then (if lef q ≤ 3 * q.a b then 1 else 0)
    else if q.kind b = 3 then (if lef q ≤ 3 * q.a b then (if 0 < q.high then 1 else 0) else 0) else 1)
  else 0
def callv (q : HQ) (b : Nat) : Nat :=
  if q.holder = b then 0 else if rdy q b = 0 then 0 else if limw q b (q.worth q.lit) < q.high + rais q b then 0 else q.high + rais q b
section
variable {q : HQ} {σ : Mem} {h b w o : Nat}
theorem nI_remE {x y : Nat} (hx : x < 2147483648) (hy : y < 2147483648) (hp : 0 < y) : nI x - nI x / nI y * nI y = nI (x % y) := by
  have h1 : x / y * y ≤ x := Nat.div_mul_le_self x y
  rw [nI_divE hx hy hp, nI_mulE, nI_subE h1]
  congr 1
  have := Nat.mod_add_div x y
  rw [Nat.mul_comm] at this
  omega
theorem xor_nn {x y : Nat} (hx : x < 2147483648) (hy : y < 2147483648) : nI 0 ≤ nI x ^^^ nI y := by
  have m : ∀ z : Nat, z < 2147483648 → (nI z).toBitVec.msb = false := fun z hz => by
    have := nI_toInt (by omega : z < 2 ^ 31)
    rw [← Int32.toInt_toBitVec] at this
    rw [BitVec.msb_eq_toInt, this]
    simp
  rw [Int32.le_iff_toInt_le, nI_toInt (by omega : 0 < 2 ^ 31), ← Int32.toInt_toBitVec, Int32.toBitVec_xor]
  have : ((nI x).toBitVec ^^^ (nI y).toBitVec).msb = false := by rw [BitVec.msb_xor, m x hx, m y hy]; rfl
  rw [BitVec.msb_eq_toInt, decide_eq_false_iff_not] at this
  show (0 : Int) ≤ _
  omega
theorem fmod_eq {x y : Nat} (hx : x < 2147483648) (hy : y < 2147483648) (hp : 0 < y) : f_J9_floorMod_7cf53 (nI x) (nI y) σ = some (nI (x % y), σ) := by
  unfold f_J9_floorMod_7cf53
  rw [grd_t (by
    intro e
    have := congrArg Int32.toInt e
    rw [nI_toInt (by omega : y < 2 ^ 31)] at this
    have z : (0 : Int32).toInt = 0 := by decide
    omega)]
  rw [if_pos (by rw [nI_lit]; exact xor_nn hx hy), nI_remE hx hy hp]
theorem limw_le (hb : q.Okb) (hm : b < q.m) (hw : w ≤ 99) : limw q b w ≤ 9999 := by
  have k := hb.2 b hm
  have hv : q.val b * w ≤ 999 * 99 := Nat.mul_le_mul k.2.2.1 hw
  unfold limw
  split <;> split <;> omega
theorem cl_limit (hb : q.Okb) (hm : b < q.m) (hw : w ≤ 99) (c : CHb h q σ) : f_X0_limitFor (h + 9 + b) (nI w) σ = some (nI (limw q b w), σ) := by
  have k := hb.2 b hm
  have hv : q.val b * w ≤ 999 * 99 := Nat.mul_le_mul k.2.2.1 hw
  obtain ⟨c0, c1, c2, c3⟩ := c b hm
  unfold f_X0_limitFor limw
  by_cases e : q.kind b = 4 <;> by_cases g : q.purse b < q.val b * w / 100 <;> simp (disch := omega) only [nI_lit, nI_addE, nI_mulE, nI_ltE, nI_leE, nI_eqE, nI_eqN, nI_Neq, nI_ltN, nI_Nlt, nI_leN, nI_Nle, nI_NeN, nI_subE, bd1_s, bd2_s, onrN, onrS, grd_t, grd_T, gI_eq, gI_ne, gL_pI, gI_pL, ltT, ltF, leT, leF, eqT, eqF, if_true, if_false, true_or, or_true, ite_true, ite_false, and_true, true_and, and_false, false_and, not_false_eq_true, not_true_eq_false, ↓reduceIte, in_eq, Nat.reduceAdd, Nat.reduceMul, Nat.zero_add, cE_f, cE_t, mE_f, mE_t, within_ok, ne_eq, c0, c1, c2, c3, nI_divE]
theorem md_limit {l : Nat} (hl : q.Okl) (hb : q.Okb) (ho : o ≤ 11) (hm : b < q.m) (hn : l < q.n) (ml : MHl q σ) (mb : MHb q σ) (mr : MHr o q σ) (at' : gI σ 94 13 = nI o) : f_X10_limitOf 94 (nI b) (nI l) σ = some (nI (limw q b (q.worth l)), σ) := by
  have k := hb.2 b hm
  have n5 := hl.1
  have m6 := hb.1
  have kl := hl.2 l hn
  have hv : q.val b * q.worth l ≤ 999 * 99 := Nat.mul_le_mul k.2.2.1 kl.2.1.2
  obtain ⟨c0, c1, c2⟩ := mb b hm
  obtain ⟨-, d1, -⟩ := ml l hn
  have r := mr.2.2.2.2.2 b hm
  unfold f_X10_limitOf limw f_X10_its
  have e1 : o + (5 + b) = o + 5 + b := by omega
  rcases Nat.lt_trichotomy (q.purse b) (q.val b * q.worth l / 100) with g | g | g
  · by_cases e : q.kind b = 4 <;> simp (disch := omega) only [nI_lit, nI_addE, nI_mulE, nI_ltE, nI_leE, nI_eqE, nI_eqN, nI_Neq, nI_ltN, nI_Nlt, nI_leN, nI_Nle, nI_NeN, nI_subE, bd1_s, bd2_s, onrN, onrS, grd_t, grd_T, gI_eq, gI_ne, gL_pI, gI_pL, ltT, ltF, leT, leF, eqT, eqF, if_true, if_false, true_or, or_true, ite_true, ite_false, and_true, true_and, and_false, false_and, not_false_eq_true, not_true_eq_false, ↓reduceIte, in_eq, Nat.reduceAdd, Nat.reduceMul, Nat.zero_add, cE_f, cE_t, mE_f, mE_t, within_ok, ne_eq, ixo_95, ixo_96, ixo_97, ixo_98, ixo_99, ixo_100, ixo_101, ixo_102, ixo_103, ixo_104, ixo_105, ixo_106, ixo_107, ixo_108, ixo_109, ixo_110, ixo_111, ixo_112, ixo_113, ixo_114, ixo_115, ixo_116, ixo_117, ixo_118, ixo_119, ixo_120, ixo_121, ixo_122, ixo_123, ixo_124, ixo_125, ixo_126, c0, c1, c2, d1, r, e1, at', nI_divE, Nat.mul_comm 9]
  · by_cases e : q.kind b = 4 <;> simp (disch := omega) only [nI_lit, nI_addE, nI_mulE, nI_ltE, nI_leE, nI_eqE, nI_eqN, nI_Neq, nI_ltN, nI_Nlt, nI_leN, nI_Nle, nI_NeN, nI_subE, bd1_s, bd2_s, onrN, onrS, grd_t, grd_T, gI_eq, gI_ne, gL_pI, gI_pL, ltT, ltF, leT, leF, eqT, eqF, if_true, if_false, true_or, or_true, ite_true, ite_false, and_true, true_and, and_false, false_and, not_false_eq_true, not_true_eq_false, ↓reduceIte, in_eq, Nat.reduceAdd, Nat.reduceMul, Nat.zero_add, cE_f, cE_t, mE_f, mE_t, within_ok, ne_eq, ixo_95, ixo_96, ixo_97, ixo_98, ixo_99, ixo_100, ixo_101, ixo_102, ixo_103, ixo_104, ixo_105, ixo_106, ixo_107, ixo_108, ixo_109, ixo_110, ixo_111, ixo_112, ixo_113, ixo_114, ixo_115, ixo_116, ixo_117, ixo_118, ixo_119, ixo_120, ixo_121, ixo_122, ixo_123, ixo_124, ixo_125, ixo_126, c0, c1, c2, d1, r, e1, at', nI_divE, Nat.mul_comm 9, g]
  · by_cases e : q.kind b = 4 <;> simp (disch := omega) only [nI_lit, nI_addE, nI_mulE, nI_ltE, nI_leE, nI_eqE, nI_eqN, nI_Neq, nI_ltN, nI_Nlt, nI_leN, nI_Nle, nI_NeN, nI_subE, bd1_s, bd2_s, onrN, onrS, grd_t, grd_T, gI_eq, gI_ne, gL_pI, gI_pL, ltT, ltF, leT, leF, eqT, eqF, if_true, if_false, true_or, or_true, ite_true, ite_false, and_true, true_and, and_false, false_and, not_false_eq_true, not_true_eq_false, ↓reduceIte, in_eq, Nat.reduceAdd, Nat.reduceMul, Nat.zero_add, cE_f, cE_t, mE_f, mE_t, within_ok, ne_eq, ixo_95, ixo_96, ixo_97, ixo_98, ixo_99, ixo_100, ixo_101, ixo_102, ixo_103, ixo_104, ixo_105, ixo_106, ixo_107, ixo_108, ixo_109, ixo_110, ixo_111, ixo_112, ixo_113, ixo_114, ixo_115, ixo_116, ixo_117, ixo_118, ixo_119, ixo_120, ixo_121, ixo_122, ixo_123, ixo_124, ixo_125, ixo_126, c0, c1, c2, d1, r, e1, at', nI_divE, Nat.mul_comm 9]
theorem cl_burns (hh : h = 1 ∨ h = 16 ∨ h = 31 ∨ h = 49) (ht : q.tick ≤ 9999) (c8 : gI σ h 8 = nI q.tick) (cd : CHd h q σ) : f_X2_burnsNow h σ = some (nI (burns q), σ) := by
  have m := Nat.mod_lt q.tick (by omega : 0 < 12)
  have e := cd (q.tick % 12) m
  unfold f_X2_burnsNow burns
  simp (disch := omega) only [nI_lit, nI_addE, nI_mulE, nI_ltE, nI_leE, nI_eqE, nI_eqN, nI_Neq, nI_ltN, nI_Nlt, nI_leN, nI_Nle, nI_NeN, nI_subE, bd1_s, bd2_s, onrN, onrS, grd_t, grd_T, gI_eq, gI_ne, gL_pI, gI_pL, ltT, ltF, leT, leF, eqT, eqF, if_true, if_false, true_or, or_true, ite_true, ite_false, and_true, true_and, and_false, false_and, not_false_eq_true, not_true_eq_false, ↓reduceIte, in_eq, Nat.reduceAdd, Nat.reduceMul, Nat.zero_add, cE_f, cE_t, mE_f, mE_t, within_ok, ne_eq, c8, fmod_eq, ixo_h3 hh, e]
theorem md_burns (ht : q.tick ≤ 9999) (ho : o ≤ 11) (at' : gI σ 94 13 = nI o) (mr : MHr o q σ) (md : MHd q σ) : f_X10_burns 94 σ = some (nI (burns q), σ) := by
  have m := Nat.mod_lt q.tick (by omega : 0 < 12)
  have e := md (q.tick % 12) m
  unfold f_X10_burns burns f_X10_its
  simp (disch := omega) only [nI_lit, nI_addE, nI_mulE, nI_ltE, nI_leE, nI_eqE, nI_eqN, nI_Neq, nI_ltN, nI_Nlt, nI_leN, nI_Nle, nI_NeN, nI_subE, bd1_s, bd2_s, onrN, onrS, grd_t, grd_T, gI_eq, gI_ne, gL_pI, gI_pL, ltT, ltF, leT, leF, eqT, eqF, if_true, if_false, true_or, or_true, ite_true, ite_false, and_true, true_and, and_false, false_and, not_false_eq_true, not_true_eq_false, ↓reduceIte, in_eq, Nat.reduceAdd, Nat.reduceMul, Nat.zero_add, cE_f, cE_t, mE_f, mE_t, within_ok, ne_eq, ixo_95, ixo_96, ixo_97, ixo_98, ixo_99, ixo_100, ixo_101, ixo_102, ixo_103, ixo_104, ixo_105, ixo_106, ixo_107, ixo_108, ixo_109, ixo_110, ixo_111, ixo_112, ixo_113, ixo_114, ixo_115, ixo_116, ixo_117, ixo_118, ixo_119, ixo_120, ixo_121, ixo_122, ixo_123, ixo_124, ixo_125, ixo_126, at', mr.2.1, nI_remE, e]
theorem cl_raise (hm : b < q.m) (hb : q.Okb) (c : CHb h q σ) : f_X0_raise (h + 9 + b) (nI q.step) σ = some (nI (rais q b), σ) := by
  have k := hb.2 b hm
  obtain ⟨c0, c1, c2, c3⟩ := c b hm
  unfold f_X0_raise rais
  by_cases e : q.kind b = 2 <;> by_cases g : q.kind b = 4 <;> simp (disch := omega) only [nI_lit, nI_addE, nI_mulE, nI_ltE, nI_leE, nI_eqE, nI_eqN, nI_Neq, nI_ltN, nI_Nlt, nI_leN, nI_Nle, nI_NeN, nI_subE, bd1_s, bd2_s, onrN, onrS, grd_t, grd_T, gI_eq, gI_ne, gL_pI, gI_pL, ltT, ltF, leT, leF, eqT, eqF, if_true, if_false, true_or, or_true, ite_true, ite_false, and_true, true_and, and_false, false_and, not_false_eq_true, not_true_eq_false, ↓reduceIte, in_eq, Nat.reduceAdd, Nat.reduceMul, Nat.zero_add, cE_f, cE_t, mE_f, mE_t, within_ok, ne_eq, c0, c1]
theorem cl_ready (hm : b < q.m) (hb : q.Okb) (c : CHb h q σ) (ht : q.tick ≤ 9999) (hl : lef q ≤ 99) (hu : burns q ≤ 99) (hg : q.high ≤ 9999) : f_X0_isReady (h + 9 + b) (nI q.tick) (nI (lef q)) (nI (burns q)) (nI q.high) σ = some (nI (rdy q b), σ) := by
  have k := hb.2 b hm
  obtain ⟨c0, c1, c2, c3⟩ := c b hm
  unfold f_X0_isReady rdy
  generalize lef q = L at *
  generalize burns q = B at *
  have hk : q.kind b = 0 ∨ q.kind b = 1 ∨ q.kind b = 2 ∨ q.kind b = 3 ∨ q.kind b = 4 ∨ q.kind b = 5 := by omega
  have tm : q.tick % (q.a b + 1) ≤ q.tick := Nat.mod_le _ _
  by_cases t : q.tick % (q.a b + 1) = 0 <;> by_cases l1 : L ≤ B <;> by_cases l2 : L ≤ 3 * q.a b <;> by_cases l3 : 0 < q.high <;> rcases hk with e | e | e | e | e | e <;> simp (disch := omega) only [nI_lit, nI_addE, nI_mulE, nI_ltE, nI_leE, nI_eqE, nI_eqN, nI_Neq, nI_ltN, nI_Nlt, nI_leN, nI_Nle, nI_NeN, nI_subE, bd1_s, bd2_s, onrN, onrS, grd_t, grd_T, gI_eq, gI_ne, gL_pI, gI_pL, ltT, ltF, leT, leF, eqT, eqF, if_true, if_false, true_or, or_true, ite_true, ite_false, and_true, true_and, and_false, false_and, not_false_eq_true, not_true_eq_false, ↓reduceIte, in_eq, Nat.reduceAdd, Nat.reduceMul, Nat.zero_add, cE_f, cE_t, mE_f, mE_t, within_ok, ne_eq, c0, c1, e, nI_remE, t]
end
