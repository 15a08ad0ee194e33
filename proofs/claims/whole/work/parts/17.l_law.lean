/-! THE CLAIM OUT OF ONE WALK OF THE LAW'S BODY. Your part is whole_start (and what it stands on); all else here is the same for every law, but numbers. -/
def R_law : String := "InchCandleLaw"
def lw_P (b : Addr) (xs : List Int32) (args : Array Value) (s : State) : Prop := args = #[.ref b] ∧ s.IntsAt b xs ∧ xs.length ≤ 320 ∧ (Jvm.Cond.and given_1 narrow_1).before args s = true
def lw_Q (_ : Array Value) (s : State) (o : Outcome) (t : State) : Prop := o = .returned (some (.int 1)) ∧ Framed s o t [] 600000 7302250
def lw_Z (below : List Frame) (a : Array Value) (s : State) : State → Prop := fun t => ∃ o, t.status = .running ∧ Ended t below o ∧ lw_Q a s o t
/-- the law's own end, with 1 on the stack, nothing written that was there before, its room as the claim has it -/
theorem lw_ret {p : Program} {l : Launch} {e : Env} {s : State} {m : MethodId} {below : List Frame} {meth : Method} {c : Code} {b : Nat} (hx : p.tables.exec = Jvm.exec) (hb : c.code = code) (hr : meth.sig.returnType = ret) (hlocks : meth.locks = false) {pc : Nat} {H : Heap} {ls : Array Slot} (hdg : decode code pc = .ok (.ireturn, 1)) : W p l e room_1 s m #[Value.ref b] below meth c H [] 600000 7302250 (lw_Z below #[Value.ref b] s) (F0 m pc ls [.int 1]) := by
  intro T hT X
  obtain ⟨fs, hret, hrun, hended, hW, hframe⟩ := X.leave (v := some (.int 1)) (hlocks := hlocks) (fun h => by rw [hr] at h; cases h)
  have hmeth' : T.vm.method? m = some meth := X.method'
  refine ⟨T.setFrames fs, ?_, .returned (some (.int 1)), hrun, hended, rfl, ⟨_, rfl⟩, hW, hframe⟩
  jvm_step X.here [X.here.top, hx, hb, hdg, hmeth', hr, ret, narrow_b1]
  (try refine ⟨rfl, ?_⟩); (try refine ⟨rfl, ?_⟩)
  first | (intro acts; rw [hret _ acts rfl rfl rfl]) | rw [hret _ _ rfl rfl rfl]
  exact Steps.refl _
/-- what holds at the law's entry: the machine, the code, the tables' words (any of lw_tbl by 'hts w (by decide +kernel)'), the script of L ints xs at the cell b, what the Statement gives of the start (any of its parts by flat_of_before) -/
def lw_At (p : Program) (s : State) (m : MethodId) (meth : Method) (c : Code) (b L : Nat) (xs : Nat → Int32) : Prop :=
  p.tables.exec = Jvm.exec ∧ c.code = code ∧ meth.sig.returnType = ret ∧ c.maxLocals = 4 ∧ s.vm.findClass R_law = some m.cls ∧ (∀ w ∈ lw_tbl, w.before #[Value.ref b] s = true) ∧ va_X b L xs s s.heap ∧ b < s.heap.size ∧ meth.locks = false ∧ (Jvm.Cond.and given_1 narrow_1).before #[Value.ref b] s = true
def LawX (G : Gh) (b L : Nat) (xs : Nat → Int32) (s : State) : Prop := va_X b L xs s s.heap ∧ b < s.heap.size ∧ ¬ AA G b ∧ ∀ q, AA G q → s.heap.size ≤ q
def lxo (L : Nat) (i : Int32) : Option Nat := if i < 0 ∨ L ≤ i.toNatClampNeg then none else some i.toNatClampNeg
section LW
variable {p : Program} {l : Launch} {e : Env} {R : Room} {s : State} {m : MethodId} {args : Array Value} {below : List Frame} {meth : Method} {c : Code} {H : Heap} {locs : List Loc} {cells slots : Nat} {Q : State → Prop}
variable {cc : ByteArray} {pc : Nat} {ls : Array Slot} {rest : List Value} {G : Gh} {own : String} {nL : Nat} {ret0 : Option FieldType} {b L : Nat} {xs : Nat → Int32}
theorem r_sld (X : Cx G p s m args meth c cc own nL ret0) (XL : LawX G b L xs s) (hS : va_S (AA G) s.heap H locs) {j : Nat} {i : Int32} (hj : lxo L i = some j) (hdg : decode cc pc = .ok (.iaload, 1))
    (kk : W p l e R s m args below meth c H locs cells slots Q (F0 m (pc + 1) ls (.int (xs j) :: rest))) : W p l e R s m args below meth c H locs cells slots Q (F0 m pc ls (.int i :: .ref b :: rest)) := by
  unfold lxo at hj
  by_cases cnd : i < 0 ∨ L ≤ i.toNatClampNeg
  · rw [if_pos cnd] at hj; cases hj
  · rw [if_neg cnd] at hj
    have hj := Option.some.inj hj
    subst hj
    exact va_sld X.hx X.hb XL.1 XL.2.1 XL.2.2.1 hS cnd hdg kk
theorem r_sln (X : Cx G p s m args meth c cc own nL ret0) (XL : LawX G b L xs s) (hS : va_S (AA G) s.heap H locs) (hdg : decode cc pc = .ok (.arraylength, 1))
    (kk : W p l e R s m args below meth c H locs cells slots Q (F0 m (pc + 1) ls (.int (Int32.ofNat L) :: rest))) : W p l e R s m args below meth c H locs cells slots Q (F0 m pc ls (.ref b :: rest)) :=
  va_slen X.hx X.hb XL.1 XL.2.1 XL.2.2.1 hS hdg kk
theorem law_ret (X : Cx G p s m #[Value.ref b] meth c code RL 4 (some .boolean)) (XL : LawX G b L xs s) (hS : va_S (AA G) s.heap H locs) (hdg : decode code pc = .ok (.ireturn, 1)) : W p l e room_1 s m #[Value.ref b] below meth c H locs 127 1782 (lw_Z below #[Value.ref b] s) (F0 m pc ls [.int 1]) :=
  va_forget (fun q hq => XL.2.2.2 _ (hS.2.2 q hq)) (W.widen (k := 600000) (n := 7302250) (Nat.le_of_ble_eq_true rfl) (Nat.le_of_ble_eq_true rfl) (lw_ret X.hx X.hb X.hr X.hlk hdg))
end LW
theorem kd_x : kd 0 = 9 := by decide +kernel
theorem kd_m : kd 94 = 10 := by decide +kernel
def F_L_law_228 (L : Nat) (xs : Nat → Int32) (k1z : Nat) (k2z : Nat) (rec1 : Int32 → Mem → Option (Int32 × Mem)) (v3 : Int32) (σ : Mem) : Option (Int32 × Mem) :=
  bd1 (lxo L (v3 + (1 : Int32))) fun j5 =>
  bd1 (lxo L (v3 + (2 : Int32))) fun j7 =>
  bd1 (lxo L (v3 + (3 : Int32))) fun j9 =>
  bd2 (f_X9_feed k1z (((xs j5).toInt64 <<< ((32 : Int32).toInt64 &&& 63)) ||| ((xs j7).toInt64 &&& (4294967295 : Int64))) (xs j9) σ) fun r13 σ11 =>
  bd1 (lxo L (v3 + (1 : Int32))) fun j14 =>
  bd1 (lxo L (v3 + (2 : Int32))) fun j16 =>
  bd1 (lxo L (v3 + (3 : Int32))) fun j18 =>
  bd2 (f_X10_feed k2z (((xs j14).toInt64 <<< ((32 : Int32).toInt64 &&& 63)) ||| ((xs j16).toInt64 &&& (4294967295 : Int64))) (xs j18) σ11) fun r22 σ20 =>
  if r13 = r22 then
    rec1 (v3 + (5 : Int32)) σ20
  else
    some ((0 : Int32), σ20)
def F_L_law_291 (L : Nat) (xs : Nat → Int32) (k1z : Nat) (k2z : Nat) (rec1 : Int32 → Mem → Option (Int32 × Mem)) (v3 : Int32) (σ : Mem) : Option (Int32 × Mem) :=
  bd2 (f_X9_hall k1z σ) fun r27 σ25 =>
  bd2 (f_X10_hall k2z σ25) fun r30 σ28 =>
  if r27 = r30 then
    rec1 (v3 + (5 : Int32)) σ28
  else
    some ((0 : Int32), σ28)
def F_L_law_304 (L : Nat) (xs : Nat → Int32) (k1z : Nat) (k2z : Nat) (rec1 : Int32 → Mem → Option (Int32 × Mem)) (v3 : Int32) (σ : Mem) : Option (Int32 × Mem) :=
  bd1 (lxo L (v3 + (1 : Int32))) fun j33 =>
  bd1 (lxo L (v3 + (2 : Int32))) fun j35 =>
  bd2 (f_X9_lot k1z (xs j33) (xs j35) σ) fun r39 σ37 =>
  bd1 (lxo L (v3 + (1 : Int32))) fun j40 =>
  bd1 (lxo L (v3 + (2 : Int32))) fun j42 =>
  bd2 (f_X10_lot k2z (xs j40) (xs j42) σ37) fun r46 σ44 =>
  if r39 = r46 then
    rec1 (v3 + (5 : Int32)) σ44
  else
    some ((0 : Int32), σ44)
def F_L_law_337 (L : Nat) (xs : Nat → Int32) (k1z : Nat) (k2z : Nat) (rec1 : Int32 → Mem → Option (Int32 × Mem)) (v3 : Int32) (σ : Mem) : Option (Int32 × Mem) :=
  bd1 (lxo L (v3 + (1 : Int32))) fun j49 =>
  bd1 (lxo L (v3 + (2 : Int32))) fun j51 =>
  bd2 (f_X9_lotOf k1z (xs j49) (xs j51) σ) fun r55 σ53 =>
  bd1 (lxo L (v3 + (1 : Int32))) fun j56 =>
  bd1 (lxo L (v3 + (2 : Int32))) fun j58 =>
  bd2 (f_X10_lotOf k2z (xs j56) (xs j58) σ53) fun r62 σ60 =>
  if r55 = r62 then
    rec1 (v3 + (5 : Int32)) σ60
  else
    some ((0 : Int32), σ60)
def F_L_law_370 (L : Nat) (xs : Nat → Int32) (k1z : Nat) (k2z : Nat) (rec1 : Int32 → Mem → Option (Int32 × Mem)) (v3 : Int32) (σ : Mem) : Option (Int32 × Mem) :=
  bd1 (lxo L (v3 + (1 : Int32))) fun j65 =>
  bd1 (lxo L (v3 + (2 : Int32))) fun j67 =>
  bd1 (lxo L (v3 + (3 : Int32))) fun j69 =>
  bd2 (f_X9_trim k1z (xs j65) (xs j67) (xs j69) σ) fun r73 σ71 =>
  bd1 (lxo L (v3 + (1 : Int32))) fun j74 =>
  bd1 (lxo L (v3 + (2 : Int32))) fun j76 =>
  bd1 (lxo L (v3 + (3 : Int32))) fun j78 =>
  bd2 (f_X10_trim k2z (xs j74) (xs j76) (xs j78) σ71) fun r82 σ80 =>
  if r73 = r82 then
    rec1 (v3 + (5 : Int32)) σ80
  else
    some ((0 : Int32), σ80)
def F_L_law_413 (L : Nat) (xs : Nat → Int32) (k1z : Nat) (k2z : Nat) (rec1 : Int32 → Mem → Option (Int32 × Mem)) (v3 : Int32) (σ : Mem) : Option (Int32 × Mem) :=
  bd1 (lxo L (v3 + (1 : Int32))) fun j85 =>
  bd1 (lxo L (v3 + (2 : Int32))) fun j87 =>
  bd2 (f_X9_draught k1z (xs j85) (xs j87) σ) fun r91 σ89 =>
  bd1 (lxo L (v3 + (1 : Int32))) fun j92 =>
  bd1 (lxo L (v3 + (2 : Int32))) fun j94 =>
  bd2 (f_X10_draught k2z (xs j92) (xs j94) σ89) fun r98 σ96 =>
  if r91 = r98 then
    rec1 (v3 + (5 : Int32)) σ96
  else
    some ((0 : Int32), σ96)
def F_L_law_446 (L : Nat) (xs : Nat → Int32) (k1z : Nat) (k2z : Nat) (rec1 : Int32 → Mem → Option (Int32 × Mem)) (v3 : Int32) (σ : Mem) : Option (Int32 × Mem) :=
  bd1 (lxo L (v3 + (1 : Int32))) fun j101 =>
  bd2 (f_X9_step k1z (xs j101) σ) fun r105 σ103 =>
  bd1 (lxo L (v3 + (1 : Int32))) fun j106 =>
  bd2 (f_X10_step k2z (xs j106) σ103) fun r110 σ108 =>
  if r105 = r110 then
    rec1 (v3 + (5 : Int32)) σ108
  else
    some ((0 : Int32), σ108)
def F_L_law_469 (L : Nat) (xs : Nat → Int32) (k1z : Nat) (k2z : Nat) (rec1 : Int32 → Mem → Option (Int32 × Mem)) (v3 : Int32) (σ : Mem) : Option (Int32 × Mem) :=
  bd1 (lxo L (v3 + (1 : Int32))) fun j113 =>
  bd1 (lxo L (v3 + (2 : Int32))) fun j115 =>
  bd1 (lxo L (v3 + (3 : Int32))) fun j117 =>
  bd1 (lxo L (v3 + (4 : Int32))) fun j119 =>
  bd2 (f_X9_bidder k1z (xs j113) (xs j115) (xs j117) (xs j119) σ) fun r123 σ121 =>
  bd1 (lxo L (v3 + (1 : Int32))) fun j124 =>
  bd1 (lxo L (v3 + (2 : Int32))) fun j126 =>
  bd1 (lxo L (v3 + (3 : Int32))) fun j128 =>
  bd1 (lxo L (v3 + (4 : Int32))) fun j130 =>
  bd2 (f_X10_bidder k2z (xs j124) (xs j126) (xs j128) (xs j130) σ121) fun r134 σ132 =>
  if r123 = r134 then
    rec1 (v3 + (5 : Int32)) σ132
  else
    some ((0 : Int32), σ132)
def F_L_law_522 (L : Nat) (xs : Nat → Int32) (k1z : Nat) (k2z : Nat) (rec1 : Int32 → Mem → Option (Int32 × Mem)) (v3 : Int32) (σ : Mem) : Option (Int32 × Mem) :=
  bd1 (lxo L (v3 + (1 : Int32))) fun j137 =>
  bd1 (lxo L (v3 + (2 : Int32))) fun j139 =>
  bd2 (f_X9_bidderOf k1z (xs j137) (xs j139) σ) fun r143 σ141 =>
  bd1 (lxo L (v3 + (1 : Int32))) fun j144 =>
  bd1 (lxo L (v3 + (2 : Int32))) fun j146 =>
  bd2 (f_X10_bidderOf k2z (xs j144) (xs j146) σ141) fun r150 σ148 =>
  if r143 = r150 then
    rec1 (v3 + (5 : Int32)) σ148
  else
    some ((0 : Int32), σ148)
def F_L_law_555 (L : Nat) (xs : Nat → Int32) (k1z : Nat) (k2z : Nat) (rec1 : Int32 → Mem → Option (Int32 × Mem)) (v3 : Int32) (σ : Mem) : Option (Int32 × Mem) :=
  bd1 (lxo L (v3 + (1 : Int32))) fun j153 =>
  bd1 (lxo L (v3 + (2 : Int32))) fun j155 =>
  bd1 (lxo L (v3 + (3 : Int32))) fun j157 =>
  bd2 (f_X9_mind k1z (xs j153) (xs j155) (xs j157) σ) fun r161 σ159 =>
  bd1 (lxo L (v3 + (1 : Int32))) fun j162 =>
  bd1 (lxo L (v3 + (2 : Int32))) fun j164 =>
  bd1 (lxo L (v3 + (3 : Int32))) fun j166 =>
  bd2 (f_X10_mind k2z (xs j162) (xs j164) (xs j166) σ159) fun r170 σ168 =>
  if r161 = r170 then
    rec1 (v3 + (5 : Int32)) σ168
  else
    some ((0 : Int32), σ168)
def F_L_law_598 (L : Nat) (xs : Nat → Int32) (k1z : Nat) (k2z : Nat) (rec1 : Int32 → Mem → Option (Int32 × Mem)) (v3 : Int32) (σ : Mem) : Option (Int32 × Mem) :=
  bd1 (lxo L (v3 + (1 : Int32))) fun j173 =>
  bd1 (lxo L (v3 + (2 : Int32))) fun j175 =>
  bd1 (lxo L (v3 + (3 : Int32))) fun j177 =>
  bd2 (f_X9_purse k1z (xs j173) (xs j175) (xs j177) σ) fun r181 σ179 =>
  bd1 (lxo L (v3 + (1 : Int32))) fun j182 =>
  bd1 (lxo L (v3 + (2 : Int32))) fun j184 =>
  bd1 (lxo L (v3 + (3 : Int32))) fun j186 =>
  bd2 (f_X10_purse k2z (xs j182) (xs j184) (xs j186) σ179) fun r190 σ188 =>
  if r181 = r190 then
    rec1 (v3 + (5 : Int32)) σ188
  else
    some ((0 : Int32), σ188)
def F_L_law_641 (L : Nat) (xs : Nat → Int32) (k1z : Nat) (k2z : Nat) (rec1 : Int32 → Mem → Option (Int32 × Mem)) (v3 : Int32) (σ : Mem) : Option (Int32 × Mem) :=
  bd1 (lxo L (v3 + (1 : Int32))) fun j193 =>
  bd1 (lxo L (v3 + (2 : Int32))) fun j195 =>
  bd2 (f_X9_limit k1z (xs j193) (xs j195) σ) fun r199 σ197 =>
  bd1 (lxo L (v3 + (1 : Int32))) fun j200 =>
  bd1 (lxo L (v3 + (2 : Int32))) fun j202 =>
  bd2 (f_X10_limit k2z (xs j200) (xs j202) σ197) fun r206 σ204 =>
  if r199 = r206 then
    rec1 (v3 + (5 : Int32)) σ204
  else
    some ((0 : Int32), σ204)
def F_L_law_674 (L : Nat) (xs : Nat → Int32) (k1z : Nat) (k2z : Nat) (rec1 : Int32 → Mem → Option (Int32 × Mem)) (v3 : Int32) (σ : Mem) : Option (Int32 × Mem) :=
  bd1 (lxo L (v3 + (1 : Int32))) fun j209 =>
  bd2 (f_X9_light k1z (xs j209) σ) fun r213 σ211 =>
  bd1 (lxo L (v3 + (1 : Int32))) fun j214 =>
  bd2 (f_X10_light k2z (xs j214) σ211) fun r218 σ216 =>
  if r213 = r218 then
    rec1 (v3 + (5 : Int32)) σ216
  else
    some ((0 : Int32), σ216)
def F_L_law_697 (L : Nat) (xs : Nat → Int32) (k1z : Nat) (k2z : Nat) (rec1 : Int32 → Mem → Option (Int32 × Mem)) (v3 : Int32) (σ : Mem) : Option (Int32 × Mem) :=
  bd1 (lxo L (v3 + (1 : Int32))) fun j221 =>
  bd2 (f_X9_now k1z (xs j221) σ) fun r225 σ223 =>
  bd1 (lxo L (v3 + (1 : Int32))) fun j226 =>
  bd2 (f_X10_now k2z (xs j226) σ223) fun r230 σ228 =>
  if r225 = r230 then
    rec1 (v3 + (5 : Int32)) σ228
  else
    some ((0 : Int32), σ228)
def F_L_law_720 (L : Nat) (xs : Nat → Int32) (k1z : Nat) (k2z : Nat) (rec1 : Int32 → Mem → Option (Int32 × Mem)) (v3 : Int32) (σ : Mem) : Option (Int32 × Mem) :=
  bd1 (lxo L (v3 + (1 : Int32))) fun j233 =>
  bd2 (f_X9_would k1z (xs j233) σ) fun r237 σ235 =>
  bd1 (lxo L (v3 + (1 : Int32))) fun j238 =>
  bd2 (f_X10_would k2z (xs j238) σ235) fun r242 σ240 =>
  if r237 = r242 then
    rec1 (v3 + (5 : Int32)) σ240
  else
    some ((0 : Int32), σ240)
def F_L_law_743 (L : Nat) (xs : Nat → Int32) (k1z : Nat) (k2z : Nat) (rec1 : Int32 → Mem → Option (Int32 × Mem)) (v3 : Int32) (σ : Mem) : Option (Int32 × Mem) :=
  bd1 (lxo L (v3 + (1 : Int32))) fun j245 =>
  bd2 (f_X9_ticks k1z (xs j245) σ) fun r249 σ247 =>
  bd1 (lxo L (v3 + (1 : Int32))) fun j250 =>
  bd2 (f_X10_ticks k2z (xs j250) σ247) fun r254 σ252 =>
  if r249 = r254 then
    rec1 (v3 + (5 : Int32)) σ252
  else
    some ((0 : Int32), σ252)
def F_L_law_766 (L : Nat) (xs : Nat → Int32) (k1z : Nat) (k2z : Nat) (rec1 : Int32 → Mem → Option (Int32 × Mem)) (v3 : Int32) (σ : Mem) : Option (Int32 × Mem) :=
  bd1 (lxo L (v3 + (1 : Int32))) fun j257 =>
  bd1 (lxo L (v3 + (2 : Int32))) fun j259 =>
  bd2 (f_X9_call k1z (xs j257) (xs j259) σ) fun r263 σ261 =>
  bd1 (lxo L (v3 + (1 : Int32))) fun j264 =>
  bd1 (lxo L (v3 + (2 : Int32))) fun j266 =>
  bd2 (f_X10_call k2z (xs j264) (xs j266) σ261) fun r270 σ268 =>
  if r263 = r270 then
    rec1 (v3 + (5 : Int32)) σ268
  else
    some ((0 : Int32), σ268)
def F_L_law_799 (L : Nat) (xs : Nat → Int32) (k1z : Nat) (k2z : Nat) (rec1 : Int32 → Mem → Option (Int32 × Mem)) (v3 : Int32) (σ : Mem) : Option (Int32 × Mem) :=
  bd2 (f_X9_snuff k1z σ) fun r275 σ273 =>
  bd2 (f_X10_snuff k2z σ273) fun r278 σ276 =>
  if r275 = r278 then
    rec1 (v3 + (5 : Int32)) σ276
  else
    some ((0 : Int32), σ276)
def F_L_law_812 (L : Nat) (xs : Nat → Int32) (k1z : Nat) (k2z : Nat) (rec1 : Int32 → Mem → Option (Int32 × Mem)) (v3 : Int32) (σ : Mem) : Option (Int32 × Mem) :=
  bd1 (lxo L (v3 + (1 : Int32))) fun j281 =>
  bd2 (f_X9_back k1z (xs j281) σ) fun r285 σ283 =>
  bd1 (lxo L (v3 + (1 : Int32))) fun j286 =>
  bd2 (f_X10_back k2z (xs j286) σ283) fun r290 σ288 =>
  if r285 = r290 then
    rec1 (v3 + (5 : Int32)) σ288
  else
    some ((0 : Int32), σ288)
def F_L_law_835 (L : Nat) (xs : Nat → Int32) (k1z : Nat) (k2z : Nat) (rec1 : Int32 → Mem → Option (Int32 × Mem)) (v3 : Int32) (σ : Mem) : Option (Int32 × Mem) :=
  bd1 (lxo L (v3 + (1 : Int32))) fun j293 =>
  bd2 (f_X9_end k1z (xs j293) σ) fun r297 σ295 =>
  bd1 (lxo L (v3 + (1 : Int32))) fun j298 =>
  bd2 (f_X10_end k2z (xs j298) σ295) fun r302 σ300 =>
  if r297 = r302 then
    rec1 (v3 + (5 : Int32)) σ300
  else
    some ((0 : Int32), σ300)
def F_L_law_858 (L : Nat) (xs : Nat → Int32) (k1z : Nat) (k2z : Nat) (rec1 : Int32 → Mem → Option (Int32 × Mem)) (v3 : Int32) (σ : Mem) : Option (Int32 × Mem) :=
  bd1 (lxo L (v3 + (1 : Int32))) fun j305 =>
  bd1 (lxo L (v3 + (2 : Int32))) fun j307 =>
  bd2 (f_X9_wins k1z (xs j305) (xs j307) σ) fun r311 σ309 =>
  bd1 (lxo L (v3 + (1 : Int32))) fun j312 =>
  bd1 (lxo L (v3 + (2 : Int32))) fun j314 =>
  bd2 (f_X10_wins k2z (xs j312) (xs j314) σ309) fun r318 σ316 =>
  if r311 = r318 then
    rec1 (v3 + (5 : Int32)) σ316
  else
    some ((0 : Int32), σ316)
def F_L_law_891 (L : Nat) (xs : Nat → Int32) (k1z : Nat) (k2z : Nat) (rec1 : Int32 → Mem → Option (Int32 × Mem)) (v3 : Int32) (σ : Mem) : Option (Int32 × Mem) :=
  bd1 (lxo L (v3 + (1 : Int32))) fun j321 =>
  bd1 (lxo L (v3 + (2 : Int32))) fun j323 =>
  bd2 (f_X9_patience k1z (xs j321) (xs j323) σ) fun r327 σ325 =>
  bd1 (lxo L (v3 + (1 : Int32))) fun j328 =>
  bd1 (lxo L (v3 + (2 : Int32))) fun j330 =>
  bd2 (f_X10_patience k2z (xs j328) (xs j330) σ325) fun r334 σ332 =>
  if r327 = r334 then
    rec1 (v3 + (5 : Int32)) σ332
  else
    some ((0 : Int32), σ332)
def F_L_law_924 (L : Nat) (xs : Nat → Int32) (k1z : Nat) (k2z : Nat) (rec1 : Int32 → Mem → Option (Int32 × Mem)) (v3 : Int32) (σ : Mem) : Option (Int32 × Mem) :=
  bd1 (lxo L (v3 + (1 : Int32))) fun j337 =>
  bd1 (lxo L (v3 + (2 : Int32))) fun j339 =>
  bd2 (f_X9_gust k1z (xs j337) (xs j339) σ) fun r343 σ341 =>
  bd1 (lxo L (v3 + (1 : Int32))) fun j344 =>
  bd1 (lxo L (v3 + (2 : Int32))) fun j346 =>
  bd2 (f_X10_gust k2z (xs j344) (xs j346) σ341) fun r350 σ348 =>
  if r343 = r350 then
    rec1 (v3 + (5 : Int32)) σ348
  else
    some ((0 : Int32), σ348)
def F_L_law_957 (L : Nat) (xs : Nat → Int32) (k1z : Nat) (k2z : Nat) (rec1 : Int32 → Mem → Option (Int32 × Mem)) (v3 : Int32) (σ : Mem) : Option (Int32 × Mem) :=
  bd1 (lxo L (v3 + (1 : Int32))) fun j353 =>
  bd1 (lxo L (v3 + (2 : Int32))) fun j355 =>
  bd2 (f_X9_wax k1z (xs j353) (xs j355) σ) fun r359 σ357 =>
  bd1 (lxo L (v3 + (1 : Int32))) fun j360 =>
  bd1 (lxo L (v3 + (2 : Int32))) fun j362 =>
  bd2 (f_X10_wax k2z (xs j360) (xs j362) σ357) fun r366 σ364 =>
  if r359 = r366 then
    rec1 (v3 + (5 : Int32)) σ364
  else
    some ((0 : Int32), σ364)
def F_L_law_990 (L : Nat) (xs : Nat → Int32) (k1z : Nat) (k2z : Nat) (rec1 : Int32 → Mem → Option (Int32 × Mem)) (v3 : Int32) (σ : Mem) : Option (Int32 × Mem) :=
  bd1 (lxo L (v3 + (1 : Int32))) fun j369 =>
  bd2 (f_X9_silent k1z (xs j369) σ) fun r373 σ371 =>
  bd1 (lxo L (v3 + (1 : Int32))) fun j374 =>
  bd2 (f_X10_silent k2z (xs j374) σ371) fun r378 σ376 =>
  if r373 = r378 then
    rec1 (v3 + (5 : Int32)) σ376
  else
    some ((0 : Int32), σ376)
def F_L_law_1013 (L : Nat) (xs : Nat → Int32) (k1z : Nat) (k2z : Nat) (rec1 : Int32 → Mem → Option (Int32 × Mem)) (v3 : Int32) (σ : Mem) : Option (Int32 × Mem) :=
  bd1 (lxo L (v3 + (1 : Int32))) fun j381 =>
  bd2 (f_X9_order k1z (xs j381) σ) fun r385 σ383 =>
  bd1 (lxo L (v3 + (1 : Int32))) fun j386 =>
  bd2 (f_X10_order k2z (xs j386) σ383) fun r390 σ388 =>
  if r385 = r390 then
    rec1 (v3 + (5 : Int32)) σ388
  else
    some ((0 : Int32), σ388)
def F_L_law_1036 (L : Nat) (xs : Nat → Int32) (k1z : Nat) (k2z : Nat) (rec1 : Int32 → Mem → Option (Int32 × Mem)) (v3 : Int32) (σ : Mem) : Option (Int32 × Mem) :=
  bd1 (lxo L (v3 + (1 : Int32))) fun j393 =>
  bd2 (f_X9_most k1z (xs j393) σ) fun r397 σ395 =>
  bd1 (lxo L (v3 + (1 : Int32))) fun j398 =>
  bd2 (f_X10_most k2z (xs j398) σ395) fun r402 σ400 =>
  if r397 = r402 then
    rec1 (v3 + (5 : Int32)) σ400
  else
    some ((0 : Int32), σ400)
def F_L_law_1059 (L : Nat) (xs : Nat → Int32) (k1z : Nat) (k2z : Nat) (rec1 : Int32 → Mem → Option (Int32 × Mem)) (v3 : Int32) (σ : Mem) : Option (Int32 × Mem) :=
  bd1 (lxo L (v3 + (1 : Int32))) fun j405 =>
  bd2 (f_X9_owed k1z (xs j405) σ) fun r409 σ407 =>
  bd1 (lxo L (v3 + (1 : Int32))) fun j410 =>
  bd2 (f_X10_owed k2z (xs j410) σ407) fun r414 σ412 =>
  if r409 = r414 then
    rec1 (v3 + (5 : Int32)) σ412
  else
    some ((0 : Int32), σ412)
def F_L_law_1082 (L : Nat) (xs : Nat → Int32) (k1z : Nat) (k2z : Nat) (rec1 : Int32 → Mem → Option (Int32 × Mem)) (v3 : Int32) (σ : Mem) : Option (Int32 × Mem) :=
  bd1 (lxo L (v3 + (1 : Int32))) fun j417 =>
  bd2 (f_X9_seed k1z (xs j417) σ) fun r421 σ419 =>
  bd1 (lxo L (v3 + (1 : Int32))) fun j422 =>
  bd2 (f_X10_seed k2z (xs j422) σ419) fun r426 σ424 =>
  if r421 = r426 then
    rec1 (v3 + (5 : Int32)) σ424
  else
    some ((0 : Int32), σ424)
def F_L_law_1105 (L : Nat) (xs : Nat → Int32) (k1z : Nat) (k2z : Nat) (rec1 : Int32 → Mem → Option (Int32 × Mem)) (v3 : Int32) (σ : Mem) : Option (Int32 × Mem) :=
  bd1 (lxo L (v3 + (1 : Int32))) fun j429 =>
  bd2 (f_X9_draw k1z (xs j429) σ) fun r433 σ431 =>
  bd1 (lxo L (v3 + (1 : Int32))) fun j434 =>
  bd2 (f_X10_draw k2z (xs j434) σ431) fun r438 σ436 =>
  if r433 = r438 then
    rec1 (v3 + (5 : Int32)) σ436
  else
    some ((0 : Int32), σ436)
def F_L_law_1128 (L : Nat) (xs : Nat → Int32) (k1z : Nat) (k2z : Nat) (rec1 : Int32 → Mem → Option (Int32 × Mem)) (v3 : Int32) (σ : Mem) : Option (Int32 × Mem) :=
  bd1 (lxo L (v3 + (1 : Int32))) fun j441 =>
  bd2 (f_X9_prove k1z (xs j441) σ) fun r445 σ443 =>
  bd1 (lxo L (v3 + (1 : Int32))) fun j446 =>
  bd2 (f_X10_prove k2z (xs j446) σ443) fun r450 σ448 =>
  if r445 = r450 then
    rec1 (v3 + (5 : Int32)) σ448
  else
    some ((0 : Int32), σ448)
def F_L_law_1151 (L : Nat) (xs : Nat → Int32) (k1z : Nat) (k2z : Nat) (rec1 : Int32 → Mem → Option (Int32 × Mem)) (v3 : Int32) (σ : Mem) : Option (Int32 × Mem) :=
  bd1 (lxo L (v3 + (1 : Int32))) fun j453 =>
  bd1 (lxo L (v3 + (2 : Int32))) fun j455 =>
  bd2 (f_X9_row k1z (xs j453) (xs j455) σ) fun r459 σ457 =>
  bd1 (lxo L (v3 + (1 : Int32))) fun j460 =>
  bd1 (lxo L (v3 + (2 : Int32))) fun j462 =>
  bd2 (f_X10_row k2z (xs j460) (xs j462) σ457) fun r466 σ464 =>
  if r459 = r466 then
    rec1 (v3 + (5 : Int32)) σ464
  else
    some ((0 : Int32), σ464)
def F_L_law_1184 (L : Nat) (xs : Nat → Int32) (k1z : Nat) (k2z : Nat) (rec1 : Int32 → Mem → Option (Int32 × Mem)) (v3 : Int32) (σ : Mem) : Option (Int32 × Mem) :=
  bd1 (lxo L (v3 + (1 : Int32))) fun j469 =>
  bd1 (lxo L (v3 + (2 : Int32))) fun j471 =>
  bd1 (lxo L (v3 + (3 : Int32))) fun j473 =>
  bd2 (f_X9_alterRow k1z (xs j469) (xs j471) (xs j473) σ) fun r477 σ475 =>
  bd1 (lxo L (v3 + (1 : Int32))) fun j478 =>
  bd1 (lxo L (v3 + (2 : Int32))) fun j480 =>
  bd1 (lxo L (v3 + (3 : Int32))) fun j482 =>
  bd2 (f_X10_alterRow k2z (xs j478) (xs j480) (xs j482) σ475) fun r486 σ484 =>
  if r477 = r486 then
    rec1 (v3 + (5 : Int32)) σ484
  else
    some ((0 : Int32), σ484)
def F_L_law_1227 (L : Nat) (xs : Nat → Int32) (k1z : Nat) (k2z : Nat) (rec1 : Int32 → Mem → Option (Int32 × Mem)) (v3 : Int32) (σ : Mem) : Option (Int32 × Mem) :=
  bd1 (lxo L (v3 + (1 : Int32))) fun j489 =>
  bd2 (f_X9_judge k1z (xs j489) σ) fun r493 σ491 =>
  bd1 (lxo L (v3 + (1 : Int32))) fun j494 =>
  bd2 (f_X10_judge k2z (xs j494) σ491) fun r498 σ496 =>
  if r493 = r498 then
    rec1 (v3 + (5 : Int32)) σ496
  else
    some ((0 : Int32), σ496)
def F_L_law_1250 (L : Nat) (xs : Nat → Int32) (k1z : Nat) (k2z : Nat) (rec1 : Int32 → Mem → Option (Int32 × Mem)) (v3 : Int32) (σ : Mem) : Option (Int32 × Mem) :=
  bd1 (lxo L (v3 + (1 : Int32))) fun j501 =>
  bd1 (lxo L (v3 + (2 : Int32))) fun j503 =>
  bd1 (lxo L (v3 + (3 : Int32))) fun j505 =>
  bd1 (lxo L (v3 + (4 : Int32))) fun j507 =>
  bd2 (f_X9_draughts k1z (xs j501) (xs j503) (xs j505) (xs j507) σ) fun r511 σ509 =>
  bd1 (lxo L (v3 + (1 : Int32))) fun j512 =>
  bd1 (lxo L (v3 + (2 : Int32))) fun j514 =>
  bd1 (lxo L (v3 + (3 : Int32))) fun j516 =>
  bd1 (lxo L (v3 + (4 : Int32))) fun j518 =>
  bd2 (f_X10_draughts k2z (xs j512) (xs j514) (xs j516) (xs j518) σ509) fun r522 σ520 =>
  if r511 = r522 then
    rec1 (v3 + (5 : Int32)) σ520
  else
    some ((0 : Int32), σ520)
def F_L_law_1303 (L : Nat) (xs : Nat → Int32) (k1z : Nat) (k2z : Nat) (rec1 : Int32 → Mem → Option (Int32 × Mem)) (v3 : Int32) (σ : Mem) : Option (Int32 × Mem) :=
  bd1 (lxo L (v3 + (1 : Int32))) fun j525 =>
  bd1 (lxo L (v3 + (2 : Int32))) fun j527 =>
  bd1 (lxo L (v3 + (3 : Int32))) fun j529 =>
  bd2 (f_X9_sheet k1z (xs j525) (xs j527) (xs j529) σ) fun r533 σ531 =>
  bd1 (lxo L (v3 + (1 : Int32))) fun j534 =>
  bd1 (lxo L (v3 + (2 : Int32))) fun j536 =>
  bd1 (lxo L (v3 + (3 : Int32))) fun j538 =>
  bd2 (f_X10_sheet k2z (xs j534) (xs j536) (xs j538) σ531) fun r542 σ540 =>
  if r533 = r542 then
    rec1 (v3 + (5 : Int32)) σ540
  else
    some ((0 : Int32), σ540)
def F_L_law_1346 (L : Nat) (xs : Nat → Int32) (k1z : Nat) (k2z : Nat) (rec1 : Int32 → Mem → Option (Int32 × Mem)) (v3 : Int32) (σ : Mem) : Option (Int32 × Mem) :=
  bd1 (lxo L (v3 + (1 : Int32))) fun j545 =>
  bd1 (lxo L (v3 + (2 : Int32))) fun j547 =>
  bd1 (lxo L (v3 + (3 : Int32))) fun j549 =>
  bd2 (f_X9_put k1z (xs j545) (xs j547) (xs j549) σ) fun r553 σ551 =>
  bd1 (lxo L (v3 + (1 : Int32))) fun j554 =>
  bd1 (lxo L (v3 + (2 : Int32))) fun j556 =>
  bd1 (lxo L (v3 + (3 : Int32))) fun j558 =>
  bd2 (f_X10_put k2z (xs j554) (xs j556) (xs j558) σ551) fun r562 σ560 =>
  if r553 = r562 then
    rec1 (v3 + (5 : Int32)) σ560
  else
    some ((0 : Int32), σ560)
def F_L_law_1389 (L : Nat) (xs : Nat → Int32) (k1z : Nat) (k2z : Nat) (rec1 : Int32 → Mem → Option (Int32 × Mem)) (v3 : Int32) (σ : Mem) : Option (Int32 × Mem) :=
  bd1 (lxo L (v3 + (1 : Int32))) fun j565 =>
  bd1 (lxo L (v3 + (2 : Int32))) fun j567 =>
  bd1 (lxo L (v3 + (3 : Int32))) fun j569 =>
  bd2 (f_X9_item k1z (xs j565) (xs j567) (xs j569) σ) fun r573 σ571 =>
  bd1 (lxo L (v3 + (1 : Int32))) fun j574 =>
  bd1 (lxo L (v3 + (2 : Int32))) fun j576 =>
  bd1 (lxo L (v3 + (3 : Int32))) fun j578 =>
  bd2 (f_X10_item k2z (xs j574) (xs j576) (xs j578) σ571) fun r582 σ580 =>
  if r573 = r582 then
    rec1 (v3 + (5 : Int32)) σ580
  else
    some ((0 : Int32), σ580)
def F_L_law_1432 (L : Nat) (xs : Nat → Int32) (k1z : Nat) (k2z : Nat) (rec1 : Int32 → Mem → Option (Int32 × Mem)) (v3 : Int32) (σ : Mem) : Option (Int32 × Mem) :=
  bd1 (lxo L (v3 + (1 : Int32))) fun j585 =>
  bd1 (lxo L (v3 + (2 : Int32))) fun j587 =>
  bd1 (lxo L (v3 + (3 : Int32))) fun j589 =>
  bd2 (f_X9_shelf k1z (xs j585) (xs j587) (xs j589) σ) fun r593 σ591 =>
  bd1 (lxo L (v3 + (1 : Int32))) fun j594 =>
  bd1 (lxo L (v3 + (2 : Int32))) fun j596 =>
  bd1 (lxo L (v3 + (3 : Int32))) fun j598 =>
  bd2 (f_X10_shelf k2z (xs j594) (xs j596) (xs j598) σ591) fun r602 σ600 =>
  if r593 = r602 then
    rec1 (v3 + (5 : Int32)) σ600
  else
    some ((0 : Int32), σ600)
def F_L_law_1475 (L : Nat) (xs : Nat → Int32) (k1z : Nat) (k2z : Nat) (rec1 : Int32 → Mem → Option (Int32 × Mem)) (v3 : Int32) (σ : Mem) : Option (Int32 × Mem) :=
  bd1 (lxo L (v3 + (1 : Int32))) fun j605 =>
  bd1 (lxo L (v3 + (2 : Int32))) fun j607 =>
  bd2 (f_X9_taken k1z (xs j605) (xs j607) σ) fun r611 σ609 =>
  bd1 (lxo L (v3 + (1 : Int32))) fun j612 =>
  bd1 (lxo L (v3 + (2 : Int32))) fun j614 =>
  bd2 (f_X10_taken k2z (xs j612) (xs j614) σ609) fun r618 σ616 =>
  if r611 = r618 then
    rec1 (v3 + (5 : Int32)) σ616
  else
    some ((0 : Int32), σ616)
def F_L_law_1508 (L : Nat) (xs : Nat → Int32) (k1z : Nat) (k2z : Nat) (rec1 : Int32 → Mem → Option (Int32 × Mem)) (v3 : Int32) (σ : Mem) : Option (Int32 × Mem) :=
  bd1 (lxo L (v3 + (1 : Int32))) fun j621 =>
  bd1 (lxo L (v3 + (2 : Int32))) fun j623 =>
  bd1 (lxo L (v3 + (3 : Int32))) fun j625 =>
  bd2 (f_X9_act k1z (xs j621) (xs j623) (xs j625) σ) fun r629 σ627 =>
  bd1 (lxo L (v3 + (1 : Int32))) fun j630 =>
  bd1 (lxo L (v3 + (2 : Int32))) fun j632 =>
  bd1 (lxo L (v3 + (3 : Int32))) fun j634 =>
  bd2 (f_X10_act k2z (xs j630) (xs j632) (xs j634) σ627) fun r638 σ636 =>
  if r629 = r638 then
    rec1 (v3 + (5 : Int32)) σ636
  else
    some ((0 : Int32), σ636)
def F_L_law_1551 (L : Nat) (xs : Nat → Int32) (k1z : Nat) (k2z : Nat) (rec1 : Int32 → Mem → Option (Int32 × Mem)) (v3 : Int32) (σ : Mem) : Option (Int32 × Mem) :=
  bd1 (lxo L (v3 + (1 : Int32))) fun j641 =>
  bd2 (f_X9_trace k1z (xs j641) σ) fun r645 σ643 =>
  bd1 (lxo L (v3 + (1 : Int32))) fun j646 =>
  bd2 (f_X10_trace k2z (xs j646) σ643) fun r650 σ648 =>
  if r645 = r650 then
    rec1 (v3 + (5 : Int32)) σ648
  else
    some ((0 : Int32), σ648)
def F_L_law_1574 (L : Nat) (xs : Nat → Int32) (k1z : Nat) (k2z : Nat) (rec1 : Int32 → Mem → Option (Int32 × Mem)) (v3 : Int32) (σ : Mem) : Option (Int32 × Mem) :=
  bd1 (lxo L (v3 + (1 : Int32))) fun j653 =>
  bd2 (f_X9_many k1z (xs j653) σ) fun r657 σ655 =>
  bd1 (lxo L (v3 + (1 : Int32))) fun j658 =>
  bd2 (f_X10_many k2z (xs j658) σ655) fun r662 σ660 =>
  if r657 = r662 then
    rec1 (v3 + (5 : Int32)) σ660
  else
    some ((0 : Int32), σ660)
def F_L_law_1597 (L : Nat) (xs : Nat → Int32) (k1z : Nat) (k2z : Nat) (rec1 : Int32 → Mem → Option (Int32 × Mem)) (v3 : Int32) (σ : Mem) : Option (Int32 × Mem) :=
  bd2 (f_X9_keep k1z σ) fun r667 σ665 =>
  bd2 (f_X10_keep k2z σ665) fun r670 σ668 =>
  if r667 = r670 then
    rec1 (v3 + (5 : Int32)) σ668
  else
    some ((0 : Int32), σ668)
def F_L_law_1610 (L : Nat) (xs : Nat → Int32) (k1z : Nat) (k2z : Nat) (rec1 : Int32 → Mem → Option (Int32 × Mem)) (v3 : Int32) (σ : Mem) : Option (Int32 × Mem) :=
  bd2 (f_X9_again k1z σ) fun r675 σ673 =>
  bd2 (f_X10_again k2z σ673) fun r678 σ676 =>
  if r675 = r678 then
    rec1 (v3 + (5 : Int32)) σ676
  else
    some ((0 : Int32), σ676)
def F_L_law_18 (L : Nat) (xs : Nat → Int32) (k1z : Nat) (k2z : Nat) (rec1 : Int32 → Mem → Option (Int32 × Mem)) : Int32 → Mem → Option (Int32 × Mem) := fun v3 σ =>
  if ((Int32.ofNat L) - (5 : Int32)) < v3 then
    some ((1 : Int32), σ)
  else
    bd1 (lxo L v3) fun j2 =>
    if ((xs j2) &&& (63 : Int32)) = (0 : Int32) then
      F_L_law_228 L xs k1z k2z rec1 v3 σ
    else
    if ((xs j2) &&& (63 : Int32)) = (1 : Int32) then
      F_L_law_291 L xs k1z k2z rec1 v3 σ
    else
    if ((xs j2) &&& (63 : Int32)) = (2 : Int32) then
      F_L_law_304 L xs k1z k2z rec1 v3 σ
    else
    if ((xs j2) &&& (63 : Int32)) = (3 : Int32) then
      F_L_law_337 L xs k1z k2z rec1 v3 σ
    else
    if ((xs j2) &&& (63 : Int32)) = (4 : Int32) then
      F_L_law_370 L xs k1z k2z rec1 v3 σ
    else
    if ((xs j2) &&& (63 : Int32)) = (5 : Int32) then
      F_L_law_413 L xs k1z k2z rec1 v3 σ
    else
    if ((xs j2) &&& (63 : Int32)) = (6 : Int32) then
      F_L_law_446 L xs k1z k2z rec1 v3 σ
    else
    if ((xs j2) &&& (63 : Int32)) = (7 : Int32) then
      F_L_law_469 L xs k1z k2z rec1 v3 σ
    else
    if ((xs j2) &&& (63 : Int32)) = (8 : Int32) then
      F_L_law_522 L xs k1z k2z rec1 v3 σ
    else
    if ((xs j2) &&& (63 : Int32)) = (9 : Int32) then
      F_L_law_555 L xs k1z k2z rec1 v3 σ
    else
    if ((xs j2) &&& (63 : Int32)) = (10 : Int32) then
      F_L_law_598 L xs k1z k2z rec1 v3 σ
    else
    if ((xs j2) &&& (63 : Int32)) = (11 : Int32) then
      F_L_law_641 L xs k1z k2z rec1 v3 σ
    else
    if ((xs j2) &&& (63 : Int32)) = (12 : Int32) then
      F_L_law_674 L xs k1z k2z rec1 v3 σ
    else
    if ((xs j2) &&& (63 : Int32)) = (13 : Int32) then
      F_L_law_697 L xs k1z k2z rec1 v3 σ
    else
    if ((xs j2) &&& (63 : Int32)) = (14 : Int32) then
      F_L_law_720 L xs k1z k2z rec1 v3 σ
    else
    if ((xs j2) &&& (63 : Int32)) = (15 : Int32) then
      F_L_law_743 L xs k1z k2z rec1 v3 σ
    else
    if ((xs j2) &&& (63 : Int32)) = (16 : Int32) then
      F_L_law_766 L xs k1z k2z rec1 v3 σ
    else
    if ((xs j2) &&& (63 : Int32)) = (17 : Int32) then
      F_L_law_799 L xs k1z k2z rec1 v3 σ
    else
    if ((xs j2) &&& (63 : Int32)) = (18 : Int32) then
      F_L_law_812 L xs k1z k2z rec1 v3 σ
    else
    if ((xs j2) &&& (63 : Int32)) = (19 : Int32) then
      F_L_law_835 L xs k1z k2z rec1 v3 σ
    else
    if ((xs j2) &&& (63 : Int32)) = (20 : Int32) then
      F_L_law_858 L xs k1z k2z rec1 v3 σ
    else
    if ((xs j2) &&& (63 : Int32)) = (21 : Int32) then
      F_L_law_891 L xs k1z k2z rec1 v3 σ
    else
    if ((xs j2) &&& (63 : Int32)) = (22 : Int32) then
      F_L_law_924 L xs k1z k2z rec1 v3 σ
    else
    if ((xs j2) &&& (63 : Int32)) = (23 : Int32) then
      F_L_law_957 L xs k1z k2z rec1 v3 σ
    else
    if ((xs j2) &&& (63 : Int32)) = (24 : Int32) then
      F_L_law_990 L xs k1z k2z rec1 v3 σ
    else
    if ((xs j2) &&& (63 : Int32)) = (25 : Int32) then
      F_L_law_1013 L xs k1z k2z rec1 v3 σ
    else
    if ((xs j2) &&& (63 : Int32)) = (26 : Int32) then
      F_L_law_1036 L xs k1z k2z rec1 v3 σ
    else
    if ((xs j2) &&& (63 : Int32)) = (27 : Int32) then
      F_L_law_1059 L xs k1z k2z rec1 v3 σ
    else
    if ((xs j2) &&& (63 : Int32)) = (28 : Int32) then
      F_L_law_1082 L xs k1z k2z rec1 v3 σ
    else
    if ((xs j2) &&& (63 : Int32)) = (29 : Int32) then
      F_L_law_1105 L xs k1z k2z rec1 v3 σ
    else
    if ((xs j2) &&& (63 : Int32)) = (30 : Int32) then
      F_L_law_1128 L xs k1z k2z rec1 v3 σ
    else
    if ((xs j2) &&& (63 : Int32)) = (31 : Int32) then
      F_L_law_1151 L xs k1z k2z rec1 v3 σ
    else
    if ((xs j2) &&& (63 : Int32)) = (32 : Int32) then
      F_L_law_1184 L xs k1z k2z rec1 v3 σ
    else
    if ((xs j2) &&& (63 : Int32)) = (33 : Int32) then
      F_L_law_1227 L xs k1z k2z rec1 v3 σ
    else
    if ((xs j2) &&& (63 : Int32)) = (34 : Int32) then
      F_L_law_1250 L xs k1z k2z rec1 v3 σ
    else
    if ((xs j2) &&& (63 : Int32)) = (35 : Int32) then
      F_L_law_1303 L xs k1z k2z rec1 v3 σ
    else
    if ((xs j2) &&& (63 : Int32)) = (36 : Int32) then
      F_L_law_1346 L xs k1z k2z rec1 v3 σ
    else
    if ((xs j2) &&& (63 : Int32)) = (37 : Int32) then
      F_L_law_1389 L xs k1z k2z rec1 v3 σ
    else
    if ((xs j2) &&& (63 : Int32)) = (38 : Int32) then
      F_L_law_1432 L xs k1z k2z rec1 v3 σ
    else
    if ((xs j2) &&& (63 : Int32)) = (39 : Int32) then
      F_L_law_1475 L xs k1z k2z rec1 v3 σ
    else
    if ((xs j2) &&& (63 : Int32)) = (40 : Int32) then
      F_L_law_1508 L xs k1z k2z rec1 v3 σ
    else
    if ((xs j2) &&& (63 : Int32)) = (41 : Int32) then
      F_L_law_1551 L xs k1z k2z rec1 v3 σ
    else
    if ((xs j2) &&& (63 : Int32)) = (42 : Int32) then
      F_L_law_1574 L xs k1z k2z rec1 v3 σ
    else
    if ((xs j2) &&& (63 : Int32)) = (43 : Int32) then
      F_L_law_1597 L xs k1z k2z rec1 v3 σ
    else
    if ((xs j2) &&& (63 : Int32)) = (44 : Int32) then
      F_L_law_1610 L xs k1z k2z rec1 v3 σ
    else
    rec1 (v3 + (5 : Int32)) σ
set_option maxHeartbeats 4000000 in
set_option maxRecDepth 100000 in
theorem w_L_law_228 {l : Launch} {G : Gh} {p : Program} {e : Env} {s : State} {m : MethodId} {below : List Frame} {meth : Method} {c : Code} {b L : Nat} {xs : Nat → Int32} (X : Cx G p s m #[Value.ref b] meth c code RL 4 (some .boolean)) (XL : LawX G b L xs s) {k1z : Nat} {k2z : Nat} (hz1 : kd k1z = 9) (hz2 : kd k2z = 10) {σr : Mem} {rec1 : Int32 → Mem → Option (Int32 × Mem)} (ih1 : ∀ (v3 : Int32) (σ : Mem) (H : Heap) (locs : List Loc) (ls : Array Slot), PW G σ H → va_S (AA G) s.heap H locs → lv_has ls 4 [(0, .ref b), (1, .ref (ga G k1z)), (2, .ref (ga G k2z)), (3, .int v3)] → rec1 v3 σ = some ((1 : Int32), σr) → W p l e room_1 s m #[Value.ref b] below meth c H locs 127 1782 (lw_Z below #[Value.ref b] s) (F0 m 18 ls [])) : ∀ (v3 : Int32) (σ : Mem) (H : Heap) (locs : List Loc) (ls : Array Slot), PW G σ H → va_S (AA G) s.heap H locs → lv_has ls 4 [(0, .ref b), (1, .ref (ga G k1z)), (2, .ref (ga G k2z)), (3, .int v3)] → F_L_law_228 L xs k1z k2z rec1 v3 σ = some ((1 : Int32), σr) → W p l e room_1 s m #[Value.ref b] below meth c H locs 127 1782 (lw_Z below #[Value.ref b] s) (F0 m 228 ls []) := by
  have hx := X.hx
  have hb := X.hb
  intro v3 σ H locs ls hP hS hl h
  unfold F_L_law_228 at h
  refine lv_aload_n (pc := 228) hx hb dL_law_228 rfl (lv_at hl 1 rfl) ?_
  refine lv_aload_n (pc := 229) hx hb dL_law_229 rfl (lv_at hl 0 rfl) ?_
  refine lv_iload_n (pc := 230) hx hb dL_law_230 rfl (lv_at hl 3 rfl) ?_
  refine lv_iconst (pc := 231) (v := 1) hx hb dL_law_231 (by decide) ?_
  refine lv_iadd (pc := 232) hx hb dL_law_232 ?_
  obtain ⟨j5, hj6, h⟩ := bnd1 h
  refine r_sld (pc := 233) X XL hS hj6 dL_law_233 ?_
  refine lv_i2l (pc := 234) (v := (xs j5).toInt64) hx hb dL_law_234 rfl ?_
  refine lv_bipush (pc := 235) (v := (32)) hx hb dL_law_235 (by decide) ?_
  refine lv_lshl (pc := 237) (v := ((xs j5).toInt64 <<< ((32 : Int32).toInt64 &&& 63))) hx hb dL_law_237 rfl ?_
  refine lv_aload_n (pc := 238) hx hb dL_law_238 rfl (lv_at hl 0 rfl) ?_
  refine lv_iload_n (pc := 239) hx hb dL_law_239 rfl (lv_at hl 3 rfl) ?_
  refine lv_iconst (pc := 240) (v := 2) hx hb dL_law_240 (by decide) ?_
  refine lv_iadd (pc := 241) hx hb dL_law_241 ?_
  obtain ⟨j7, hj8, h⟩ := bnd1 h
  refine r_sld (pc := 242) X XL hS hj8 dL_law_242 ?_
  refine lv_i2l (pc := 243) (v := (xs j7).toInt64) hx hb dL_law_243 rfl ?_
  refine lv_ldc2 (pc := 244) (v := (4294967295)) hx hb X.hown (X.tb tw_1612 rfl) dL_law_244 ?_
  refine lv_land (pc := 247) hx hb dL_law_247 ?_
  refine lv_lor (pc := 248) hx hb dL_law_248 ?_
  refine lv_aload_n (pc := 249) hx hb dL_law_249 rfl (lv_at hl 0 rfl) ?_
  refine lv_iload_n (pc := 250) hx hb dL_law_250 rfl (lv_at hl 3 rfl) ?_
  refine lv_iconst (pc := 251) (v := 3) hx hb dL_law_251 (by decide) ?_
  refine lv_iadd (pc := 252) hx hb dL_law_252 ?_
  obtain ⟨j9, hj10, h⟩ := bnd1 h
  refine r_sld (pc := 253) X XL hS hj10 dL_law_253 ?_
  obtain ⟨r13, σ11, e12, h⟩ := bnd2 h
  refine cl_L_15 X hP hS hz1 (As := [.long (((xs j5).toInt64 <<< ((32 : Int32).toInt64 &&& 63)) ||| ((xs j7).toInt64 &&& (4294967295 : Int64))), .int (xs j9)]) (rest := []) (c_X9_feed l G hz1 e12) ⟨rfl, rfl, Nat.le_of_ble_eq_true rfl, Nat.le_of_ble_eq_true rfl⟩ rfl hl.1 rfl (Nat.le_of_ble_eq_true rfl) ⟨Nat.le_of_ble_eq_true rfl, Nat.le_of_ble_eq_true rfl⟩ (pc := 254) dL_law_254 (fun H locs hP hS => ?_)
  change W p l e _ s m _ below meth c H locs _ _ _ (F0 m (254 + 3) ls (.int r13 :: []))
  refine lv_aload_n (pc := 257) hx hb dL_law_257 rfl (lv_at hl 2 rfl) ?_
  refine lv_aload_n (pc := 258) hx hb dL_law_258 rfl (lv_at hl 0 rfl) ?_
  refine lv_iload_n (pc := 259) hx hb dL_law_259 rfl (lv_at hl 3 rfl) ?_
  refine lv_iconst (pc := 260) (v := 1) hx hb dL_law_260 (by decide) ?_
  refine lv_iadd (pc := 261) hx hb dL_law_261 ?_
  obtain ⟨j14, hj15, h⟩ := bnd1 h
  refine r_sld (pc := 262) X XL hS hj15 dL_law_262 ?_
  refine lv_i2l (pc := 263) (v := (xs j14).toInt64) hx hb dL_law_263 rfl ?_
  refine lv_bipush (pc := 264) (v := (32)) hx hb dL_law_264 (by decide) ?_
  refine lv_lshl (pc := 266) (v := ((xs j14).toInt64 <<< ((32 : Int32).toInt64 &&& 63))) hx hb dL_law_266 rfl ?_
  refine lv_aload_n (pc := 267) hx hb dL_law_267 rfl (lv_at hl 0 rfl) ?_
  refine lv_iload_n (pc := 268) hx hb dL_law_268 rfl (lv_at hl 3 rfl) ?_
  refine lv_iconst (pc := 269) (v := 2) hx hb dL_law_269 (by decide) ?_
  refine lv_iadd (pc := 270) hx hb dL_law_270 ?_
  obtain ⟨j16, hj17, h⟩ := bnd1 h
  refine r_sld (pc := 271) X XL hS hj17 dL_law_271 ?_
  refine lv_i2l (pc := 272) (v := (xs j16).toInt64) hx hb dL_law_272 rfl ?_
  refine lv_ldc2 (pc := 273) (v := (4294967295)) hx hb X.hown (X.tb tw_1612 rfl) dL_law_273 ?_
  refine lv_land (pc := 276) hx hb dL_law_276 ?_
  refine lv_lor (pc := 277) hx hb dL_law_277 ?_
  refine lv_aload_n (pc := 278) hx hb dL_law_278 rfl (lv_at hl 0 rfl) ?_
  refine lv_iload_n (pc := 279) hx hb dL_law_279 rfl (lv_at hl 3 rfl) ?_
  refine lv_iconst (pc := 280) (v := 3) hx hb dL_law_280 (by decide) ?_
  refine lv_iadd (pc := 281) hx hb dL_law_281 ?_
  obtain ⟨j18, hj19, h⟩ := bnd1 h
  refine r_sld (pc := 282) X XL hS hj19 dL_law_282 ?_
  obtain ⟨r22, σ20, e21, h⟩ := bnd2 h
  refine cl_L_19 X hP hS hz2 (As := [.long (((xs j14).toInt64 <<< ((32 : Int32).toInt64 &&& 63)) ||| ((xs j16).toInt64 &&& (4294967295 : Int64))), .int (xs j18)]) (rest := [.int r13]) (c_X10_feed l G hz2 e21) ⟨rfl, rfl, Nat.le_of_ble_eq_true rfl, Nat.le_of_ble_eq_true rfl⟩ rfl hl.1 rfl (Nat.le_of_ble_eq_true rfl) ⟨Nat.le_of_ble_eq_true rfl, Nat.le_of_ble_eq_true rfl⟩ (pc := 283) dL_law_283 (fun H locs hP hS => ?_)
  change W p l e _ s m _ below meth c H locs _ _ _ (F0 m (283 + 3) ls (.int r22 :: [.int r13]))
  refine lv_icmp_eq (pc := 286) (tgt := 1623) hx hb dL_law_286 (by decide) (fun c23 => ?_) (fun c23 => ?_)
  · have h := ipos c23 h
    refine lv_iinc (pc := 1623) (v := (v3 + (5 : Int32))) (lv' := [(3, .int (v3 + (5 : Int32))), (0, .ref b), (1, .ref (ga G k1z)), (2, .ref (ga G k2z))]) hx hb dL_law_1623 hl (k := 3) rfl (congrArg (fun z => v3 + z) (by decide)) (by decide) rfl (fun ls hl => ?_)
    refine lv_goto (pc := 1626) (tgt := 18) hx hb dL_law_1626 (by decide) ?_
    exact ih1 _ _ _ _ _ hP hS (lv_sub hl [1, 2, 3, 0] rfl) h
  · have h := ineg c23 h
    refine lv_iconst (pc := 289) (v := 0) hx hb dL_law_289 (by decide) ?_
    exact absurd (inj2 h).1 (by decide)
set_option maxHeartbeats 4000000 in
set_option maxRecDepth 100000 in
theorem w_L_law_291 {l : Launch} {G : Gh} {p : Program} {e : Env} {s : State} {m : MethodId} {below : List Frame} {meth : Method} {c : Code} {b L : Nat} {xs : Nat → Int32} (X : Cx G p s m #[Value.ref b] meth c code RL 4 (some .boolean)) (XL : LawX G b L xs s) {k1z : Nat} {k2z : Nat} (hz1 : kd k1z = 9) (hz2 : kd k2z = 10) {σr : Mem} {rec1 : Int32 → Mem → Option (Int32 × Mem)} (ih1 : ∀ (v3 : Int32) (σ : Mem) (H : Heap) (locs : List Loc) (ls : Array Slot), PW G σ H → va_S (AA G) s.heap H locs → lv_has ls 4 [(0, .ref b), (1, .ref (ga G k1z)), (2, .ref (ga G k2z)), (3, .int v3)] → rec1 v3 σ = some ((1 : Int32), σr) → W p l e room_1 s m #[Value.ref b] below meth c H locs 127 1782 (lw_Z below #[Value.ref b] s) (F0 m 18 ls [])) : ∀ (v3 : Int32) (σ : Mem) (H : Heap) (locs : List Loc) (ls : Array Slot), PW G σ H → va_S (AA G) s.heap H locs → lv_has ls 4 [(0, .ref b), (1, .ref (ga G k1z)), (2, .ref (ga G k2z)), (3, .int v3)] → F_L_law_291 L xs k1z k2z rec1 v3 σ = some ((1 : Int32), σr) → W p l e room_1 s m #[Value.ref b] below meth c H locs 127 1782 (lw_Z below #[Value.ref b] s) (F0 m 291 ls []) := by
  have hx := X.hx
  have hb := X.hb
  intro v3 σ H locs ls hP hS hl h
  unfold F_L_law_291 at h
  refine lv_aload_n (pc := 291) hx hb dL_law_291 rfl (lv_at hl 1 rfl) ?_
  obtain ⟨r27, σ25, e26, h⟩ := bnd2 h
  refine cl_L_20 X hP hS hz1 (As := []) (rest := []) (c_X9_hall l G hz1 e26) ⟨rfl, rfl, Nat.le_of_ble_eq_true rfl, Nat.le_of_ble_eq_true rfl⟩ rfl hl.1 rfl (Nat.le_of_ble_eq_true rfl) ⟨Nat.le_of_ble_eq_true rfl, Nat.le_of_ble_eq_true rfl⟩ (pc := 292) dL_law_292 (fun H locs hP hS => ?_)
  change W p l e _ s m _ below meth c H locs _ _ _ (F0 m (292 + 3) ls (.int r27 :: []))
  refine lv_aload_n (pc := 295) hx hb dL_law_295 rfl (lv_at hl 2 rfl) ?_
  obtain ⟨r30, σ28, e29, h⟩ := bnd2 h
  refine cl_L_24 X hP hS hz2 (As := []) (rest := [.int r27]) (c_X10_hall l G hz2 e29) ⟨rfl, rfl, Nat.le_of_ble_eq_true rfl, Nat.le_of_ble_eq_true rfl⟩ rfl hl.1 rfl (Nat.le_of_ble_eq_true rfl) ⟨Nat.le_of_ble_eq_true rfl, Nat.le_of_ble_eq_true rfl⟩ (pc := 296) dL_law_296 (fun H locs hP hS => ?_)
  change W p l e _ s m _ below meth c H locs _ _ _ (F0 m (296 + 3) ls (.int r30 :: [.int r27]))
  refine lv_icmp_eq (pc := 299) (tgt := 1623) hx hb dL_law_299 (by decide) (fun c31 => ?_) (fun c31 => ?_)
  · have h := ipos c31 h
    refine lv_iinc (pc := 1623) (v := (v3 + (5 : Int32))) (lv' := [(3, .int (v3 + (5 : Int32))), (0, .ref b), (1, .ref (ga G k1z)), (2, .ref (ga G k2z))]) hx hb dL_law_1623 hl (k := 3) rfl (congrArg (fun z => v3 + z) (by decide)) (by decide) rfl (fun ls hl => ?_)
    refine lv_goto (pc := 1626) (tgt := 18) hx hb dL_law_1626 (by decide) ?_
    exact ih1 _ _ _ _ _ hP hS (lv_sub hl [1, 2, 3, 0] rfl) h
  · have h := ineg c31 h
    refine lv_iconst (pc := 302) (v := 0) hx hb dL_law_302 (by decide) ?_
    exact absurd (inj2 h).1 (by decide)
set_option maxHeartbeats 4000000 in
set_option maxRecDepth 100000 in
theorem w_L_law_304 {l : Launch} {G : Gh} {p : Program} {e : Env} {s : State} {m : MethodId} {below : List Frame} {meth : Method} {c : Code} {b L : Nat} {xs : Nat → Int32} (X : Cx G p s m #[Value.ref b] meth c code RL 4 (some .boolean)) (XL : LawX G b L xs s) {k1z : Nat} {k2z : Nat} (hz1 : kd k1z = 9) (hz2 : kd k2z = 10) {σr : Mem} {rec1 : Int32 → Mem → Option (Int32 × Mem)} (ih1 : ∀ (v3 : Int32) (σ : Mem) (H : Heap) (locs : List Loc) (ls : Array Slot), PW G σ H → va_S (AA G) s.heap H locs → lv_has ls 4 [(0, .ref b), (1, .ref (ga G k1z)), (2, .ref (ga G k2z)), (3, .int v3)] → rec1 v3 σ = some ((1 : Int32), σr) → W p l e room_1 s m #[Value.ref b] below meth c H locs 127 1782 (lw_Z below #[Value.ref b] s) (F0 m 18 ls [])) : ∀ (v3 : Int32) (σ : Mem) (H : Heap) (locs : List Loc) (ls : Array Slot), PW G σ H → va_S (AA G) s.heap H locs → lv_has ls 4 [(0, .ref b), (1, .ref (ga G k1z)), (2, .ref (ga G k2z)), (3, .int v3)] → F_L_law_304 L xs k1z k2z rec1 v3 σ = some ((1 : Int32), σr) → W p l e room_1 s m #[Value.ref b] below meth c H locs 127 1782 (lw_Z below #[Value.ref b] s) (F0 m 304 ls []) := by
  have hx := X.hx
  have hb := X.hb
  intro v3 σ H locs ls hP hS hl h
  unfold F_L_law_304 at h
  refine lv_aload_n (pc := 304) hx hb dL_law_304 rfl (lv_at hl 1 rfl) ?_
  refine lv_aload_n (pc := 305) hx hb dL_law_305 rfl (lv_at hl 0 rfl) ?_
  refine lv_iload_n (pc := 306) hx hb dL_law_306 rfl (lv_at hl 3 rfl) ?_
  refine lv_iconst (pc := 307) (v := 1) hx hb dL_law_307 (by decide) ?_
  refine lv_iadd (pc := 308) hx hb dL_law_308 ?_
  obtain ⟨j33, hj34, h⟩ := bnd1 h
  refine r_sld (pc := 309) X XL hS hj34 dL_law_309 ?_
  refine lv_aload_n (pc := 310) hx hb dL_law_310 rfl (lv_at hl 0 rfl) ?_
  refine lv_iload_n (pc := 311) hx hb dL_law_311 rfl (lv_at hl 3 rfl) ?_
  refine lv_iconst (pc := 312) (v := 2) hx hb dL_law_312 (by decide) ?_
  refine lv_iadd (pc := 313) hx hb dL_law_313 ?_
  obtain ⟨j35, hj36, h⟩ := bnd1 h
  refine r_sld (pc := 314) X XL hS hj36 dL_law_314 ?_
  obtain ⟨r39, σ37, e38, h⟩ := bnd2 h
  refine cl_L_25 X hP hS hz1 (As := [.int (xs j33), .int (xs j35)]) (rest := []) (c_X9_lot l G hz1 e38) ⟨rfl, rfl, Nat.le_of_ble_eq_true rfl, Nat.le_of_ble_eq_true rfl⟩ rfl hl.1 rfl (Nat.le_of_ble_eq_true rfl) ⟨Nat.le_of_ble_eq_true rfl, Nat.le_of_ble_eq_true rfl⟩ (pc := 315) dL_law_315 (fun H locs hP hS => ?_)
  change W p l e _ s m _ below meth c H locs _ _ _ (F0 m (315 + 3) ls (.int r39 :: []))
  refine lv_aload_n (pc := 318) hx hb dL_law_318 rfl (lv_at hl 2 rfl) ?_
  refine lv_aload_n (pc := 319) hx hb dL_law_319 rfl (lv_at hl 0 rfl) ?_
  refine lv_iload_n (pc := 320) hx hb dL_law_320 rfl (lv_at hl 3 rfl) ?_
  refine lv_iconst (pc := 321) (v := 1) hx hb dL_law_321 (by decide) ?_
  refine lv_iadd (pc := 322) hx hb dL_law_322 ?_
  obtain ⟨j40, hj41, h⟩ := bnd1 h
  refine r_sld (pc := 323) X XL hS hj41 dL_law_323 ?_
  refine lv_aload_n (pc := 324) hx hb dL_law_324 rfl (lv_at hl 0 rfl) ?_
  refine lv_iload_n (pc := 325) hx hb dL_law_325 rfl (lv_at hl 3 rfl) ?_
  refine lv_iconst (pc := 326) (v := 2) hx hb dL_law_326 (by decide) ?_
  refine lv_iadd (pc := 327) hx hb dL_law_327 ?_
  obtain ⟨j42, hj43, h⟩ := bnd1 h
  refine r_sld (pc := 328) X XL hS hj43 dL_law_328 ?_
  obtain ⟨r46, σ44, e45, h⟩ := bnd2 h
  refine cl_L_29 X hP hS hz2 (As := [.int (xs j40), .int (xs j42)]) (rest := [.int r39]) (c_X10_lot l G hz2 e45) ⟨rfl, rfl, Nat.le_of_ble_eq_true rfl, Nat.le_of_ble_eq_true rfl⟩ rfl hl.1 rfl (Nat.le_of_ble_eq_true rfl) ⟨Nat.le_of_ble_eq_true rfl, Nat.le_of_ble_eq_true rfl⟩ (pc := 329) dL_law_329 (fun H locs hP hS => ?_)
  change W p l e _ s m _ below meth c H locs _ _ _ (F0 m (329 + 3) ls (.int r46 :: [.int r39]))
  refine lv_icmp_eq (pc := 332) (tgt := 1623) hx hb dL_law_332 (by decide) (fun c47 => ?_) (fun c47 => ?_)
  · have h := ipos c47 h
    refine lv_iinc (pc := 1623) (v := (v3 + (5 : Int32))) (lv' := [(3, .int (v3 + (5 : Int32))), (0, .ref b), (1, .ref (ga G k1z)), (2, .ref (ga G k2z))]) hx hb dL_law_1623 hl (k := 3) rfl (congrArg (fun z => v3 + z) (by decide)) (by decide) rfl (fun ls hl => ?_)
    refine lv_goto (pc := 1626) (tgt := 18) hx hb dL_law_1626 (by decide) ?_
    exact ih1 _ _ _ _ _ hP hS (lv_sub hl [1, 2, 3, 0] rfl) h
  · have h := ineg c47 h
    refine lv_iconst (pc := 335) (v := 0) hx hb dL_law_335 (by decide) ?_
    exact absurd (inj2 h).1 (by decide)
set_option maxHeartbeats 4000000 in
set_option maxRecDepth 100000 in
theorem w_L_law_337 {l : Launch} {G : Gh} {p : Program} {e : Env} {s : State} {m : MethodId} {below : List Frame} {meth : Method} {c : Code} {b L : Nat} {xs : Nat → Int32} (X : Cx G p s m #[Value.ref b] meth c code RL 4 (some .boolean)) (XL : LawX G b L xs s) {k1z : Nat} {k2z : Nat} (hz1 : kd k1z = 9) (hz2 : kd k2z = 10) {σr : Mem} {rec1 : Int32 → Mem → Option (Int32 × Mem)} (ih1 : ∀ (v3 : Int32) (σ : Mem) (H : Heap) (locs : List Loc) (ls : Array Slot), PW G σ H → va_S (AA G) s.heap H locs → lv_has ls 4 [(0, .ref b), (1, .ref (ga G k1z)), (2, .ref (ga G k2z)), (3, .int v3)] → rec1 v3 σ = some ((1 : Int32), σr) → W p l e room_1 s m #[Value.ref b] below meth c H locs 127 1782 (lw_Z below #[Value.ref b] s) (F0 m 18 ls [])) : ∀ (v3 : Int32) (σ : Mem) (H : Heap) (locs : List Loc) (ls : Array Slot), PW G σ H → va_S (AA G) s.heap H locs → lv_has ls 4 [(0, .ref b), (1, .ref (ga G k1z)), (2, .ref (ga G k2z)), (3, .int v3)] → F_L_law_337 L xs k1z k2z rec1 v3 σ = some ((1 : Int32), σr) → W p l e room_1 s m #[Value.ref b] below meth c H locs 127 1782 (lw_Z below #[Value.ref b] s) (F0 m 337 ls []) := by
  have hx := X.hx
  have hb := X.hb
  intro v3 σ H locs ls hP hS hl h
  unfold F_L_law_337 at h
  refine lv_aload_n (pc := 337) hx hb dL_law_337 rfl (lv_at hl 1 rfl) ?_
  refine lv_aload_n (pc := 338) hx hb dL_law_338 rfl (lv_at hl 0 rfl) ?_
  refine lv_iload_n (pc := 339) hx hb dL_law_339 rfl (lv_at hl 3 rfl) ?_
  refine lv_iconst (pc := 340) (v := 1) hx hb dL_law_340 (by decide) ?_
  refine lv_iadd (pc := 341) hx hb dL_law_341 ?_
  obtain ⟨j49, hj50, h⟩ := bnd1 h
  refine r_sld (pc := 342) X XL hS hj50 dL_law_342 ?_
  refine lv_aload_n (pc := 343) hx hb dL_law_343 rfl (lv_at hl 0 rfl) ?_
  refine lv_iload_n (pc := 344) hx hb dL_law_344 rfl (lv_at hl 3 rfl) ?_
  refine lv_iconst (pc := 345) (v := 2) hx hb dL_law_345 (by decide) ?_
  refine lv_iadd (pc := 346) hx hb dL_law_346 ?_
  obtain ⟨j51, hj52, h⟩ := bnd1 h
  refine r_sld (pc := 347) X XL hS hj52 dL_law_347 ?_
  obtain ⟨r55, σ53, e54, h⟩ := bnd2 h
  refine cl_L_30 X hP hS hz1 (As := [.int (xs j49), .int (xs j51)]) (rest := []) (c_X9_lotOf l G hz1 e54) ⟨rfl, rfl, Nat.le_of_ble_eq_true rfl, Nat.le_of_ble_eq_true rfl⟩ rfl hl.1 rfl (Nat.le_of_ble_eq_true rfl) ⟨Nat.le_of_ble_eq_true rfl, Nat.le_of_ble_eq_true rfl⟩ (pc := 348) dL_law_348 (fun H locs hP hS => ?_)
  change W p l e _ s m _ below meth c H locs _ _ _ (F0 m (348 + 3) ls (.int r55 :: []))
  refine lv_aload_n (pc := 351) hx hb dL_law_351 rfl (lv_at hl 2 rfl) ?_
  refine lv_aload_n (pc := 352) hx hb dL_law_352 rfl (lv_at hl 0 rfl) ?_
  refine lv_iload_n (pc := 353) hx hb dL_law_353 rfl (lv_at hl 3 rfl) ?_
  refine lv_iconst (pc := 354) (v := 1) hx hb dL_law_354 (by decide) ?_
  refine lv_iadd (pc := 355) hx hb dL_law_355 ?_
  obtain ⟨j56, hj57, h⟩ := bnd1 h
  refine r_sld (pc := 356) X XL hS hj57 dL_law_356 ?_
  refine lv_aload_n (pc := 357) hx hb dL_law_357 rfl (lv_at hl 0 rfl) ?_
  refine lv_iload_n (pc := 358) hx hb dL_law_358 rfl (lv_at hl 3 rfl) ?_
  refine lv_iconst (pc := 359) (v := 2) hx hb dL_law_359 (by decide) ?_
  refine lv_iadd (pc := 360) hx hb dL_law_360 ?_
  obtain ⟨j58, hj59, h⟩ := bnd1 h
  refine r_sld (pc := 361) X XL hS hj59 dL_law_361 ?_
  obtain ⟨r62, σ60, e61, h⟩ := bnd2 h
  refine cl_L_33 X hP hS hz2 (As := [.int (xs j56), .int (xs j58)]) (rest := [.int r55]) (c_X10_lotOf l G hz2 e61) ⟨rfl, rfl, Nat.le_of_ble_eq_true rfl, Nat.le_of_ble_eq_true rfl⟩ rfl hl.1 rfl (Nat.le_of_ble_eq_true rfl) ⟨Nat.le_of_ble_eq_true rfl, Nat.le_of_ble_eq_true rfl⟩ (pc := 362) dL_law_362 (fun H locs hP hS => ?_)
  change W p l e _ s m _ below meth c H locs _ _ _ (F0 m (362 + 3) ls (.int r62 :: [.int r55]))
  refine lv_icmp_eq (pc := 365) (tgt := 1623) hx hb dL_law_365 (by decide) (fun c63 => ?_) (fun c63 => ?_)
  · have h := ipos c63 h
    refine lv_iinc (pc := 1623) (v := (v3 + (5 : Int32))) (lv' := [(3, .int (v3 + (5 : Int32))), (0, .ref b), (1, .ref (ga G k1z)), (2, .ref (ga G k2z))]) hx hb dL_law_1623 hl (k := 3) rfl (congrArg (fun z => v3 + z) (by decide)) (by decide) rfl (fun ls hl => ?_)
    refine lv_goto (pc := 1626) (tgt := 18) hx hb dL_law_1626 (by decide) ?_
    exact ih1 _ _ _ _ _ hP hS (lv_sub hl [1, 2, 3, 0] rfl) h
  · have h := ineg c63 h
    refine lv_iconst (pc := 368) (v := 0) hx hb dL_law_368 (by decide) ?_
    exact absurd (inj2 h).1 (by decide)
set_option maxHeartbeats 4000000 in
set_option maxRecDepth 100000 in
theorem w_L_law_370 {l : Launch} {G : Gh} {p : Program} {e : Env} {s : State} {m : MethodId} {below : List Frame} {meth : Method} {c : Code} {b L : Nat} {xs : Nat → Int32} (X : Cx G p s m #[Value.ref b] meth c code RL 4 (some .boolean)) (XL : LawX G b L xs s) {k1z : Nat} {k2z : Nat} (hz1 : kd k1z = 9) (hz2 : kd k2z = 10) {σr : Mem} {rec1 : Int32 → Mem → Option (Int32 × Mem)} (ih1 : ∀ (v3 : Int32) (σ : Mem) (H : Heap) (locs : List Loc) (ls : Array Slot), PW G σ H → va_S (AA G) s.heap H locs → lv_has ls 4 [(0, .ref b), (1, .ref (ga G k1z)), (2, .ref (ga G k2z)), (3, .int v3)] → rec1 v3 σ = some ((1 : Int32), σr) → W p l e room_1 s m #[Value.ref b] below meth c H locs 127 1782 (lw_Z below #[Value.ref b] s) (F0 m 18 ls [])) : ∀ (v3 : Int32) (σ : Mem) (H : Heap) (locs : List Loc) (ls : Array Slot), PW G σ H → va_S (AA G) s.heap H locs → lv_has ls 4 [(0, .ref b), (1, .ref (ga G k1z)), (2, .ref (ga G k2z)), (3, .int v3)] → F_L_law_370 L xs k1z k2z rec1 v3 σ = some ((1 : Int32), σr) → W p l e room_1 s m #[Value.ref b] below meth c H locs 127 1782 (lw_Z below #[Value.ref b] s) (F0 m 370 ls []) := by
  have hx := X.hx
  have hb := X.hb
  intro v3 σ H locs ls hP hS hl h
  unfold F_L_law_370 at h
  refine lv_aload_n (pc := 370) hx hb dL_law_370 rfl (lv_at hl 1 rfl) ?_
  refine lv_aload_n (pc := 371) hx hb dL_law_371 rfl (lv_at hl 0 rfl) ?_
  refine lv_iload_n (pc := 372) hx hb dL_law_372 rfl (lv_at hl 3 rfl) ?_
  refine lv_iconst (pc := 373) (v := 1) hx hb dL_law_373 (by decide) ?_
  refine lv_iadd (pc := 374) hx hb dL_law_374 ?_
  obtain ⟨j65, hj66, h⟩ := bnd1 h
  refine r_sld (pc := 375) X XL hS hj66 dL_law_375 ?_
  refine lv_aload_n (pc := 376) hx hb dL_law_376 rfl (lv_at hl 0 rfl) ?_
  refine lv_iload_n (pc := 377) hx hb dL_law_377 rfl (lv_at hl 3 rfl) ?_
  refine lv_iconst (pc := 378) (v := 2) hx hb dL_law_378 (by decide) ?_
  refine lv_iadd (pc := 379) hx hb dL_law_379 ?_
  obtain ⟨j67, hj68, h⟩ := bnd1 h
  refine r_sld (pc := 380) X XL hS hj68 dL_law_380 ?_
  refine lv_aload_n (pc := 381) hx hb dL_law_381 rfl (lv_at hl 0 rfl) ?_
  refine lv_iload_n (pc := 382) hx hb dL_law_382 rfl (lv_at hl 3 rfl) ?_
  refine lv_iconst (pc := 383) (v := 3) hx hb dL_law_383 (by decide) ?_
  refine lv_iadd (pc := 384) hx hb dL_law_384 ?_
  obtain ⟨j69, hj70, h⟩ := bnd1 h
  refine r_sld (pc := 385) X XL hS hj70 dL_law_385 ?_
  obtain ⟨r73, σ71, e72, h⟩ := bnd2 h
  refine cl_L_34 X hP hS hz1 (As := [.int (xs j65), .int (xs j67), .int (xs j69)]) (rest := []) (c_X9_trim l G hz1 e72) ⟨rfl, rfl, Nat.le_of_ble_eq_true rfl, Nat.le_of_ble_eq_true rfl⟩ rfl hl.1 rfl (Nat.le_of_ble_eq_true rfl) ⟨Nat.le_of_ble_eq_true rfl, Nat.le_of_ble_eq_true rfl⟩ (pc := 386) dL_law_386 (fun H locs hP hS => ?_)
  change W p l e _ s m _ below meth c H locs _ _ _ (F0 m (386 + 3) ls (.int r73 :: []))
  refine lv_aload_n (pc := 389) hx hb dL_law_389 rfl (lv_at hl 2 rfl) ?_
  refine lv_aload_n (pc := 390) hx hb dL_law_390 rfl (lv_at hl 0 rfl) ?_
  refine lv_iload_n (pc := 391) hx hb dL_law_391 rfl (lv_at hl 3 rfl) ?_
  refine lv_iconst (pc := 392) (v := 1) hx hb dL_law_392 (by decide) ?_
  refine lv_iadd (pc := 393) hx hb dL_law_393 ?_
  obtain ⟨j74, hj75, h⟩ := bnd1 h
  refine r_sld (pc := 394) X XL hS hj75 dL_law_394 ?_
  refine lv_aload_n (pc := 395) hx hb dL_law_395 rfl (lv_at hl 0 rfl) ?_
  refine lv_iload_n (pc := 396) hx hb dL_law_396 rfl (lv_at hl 3 rfl) ?_
  refine lv_iconst (pc := 397) (v := 2) hx hb dL_law_397 (by decide) ?_
  refine lv_iadd (pc := 398) hx hb dL_law_398 ?_
  obtain ⟨j76, hj77, h⟩ := bnd1 h
  refine r_sld (pc := 399) X XL hS hj77 dL_law_399 ?_
  refine lv_aload_n (pc := 400) hx hb dL_law_400 rfl (lv_at hl 0 rfl) ?_
  refine lv_iload_n (pc := 401) hx hb dL_law_401 rfl (lv_at hl 3 rfl) ?_
  refine lv_iconst (pc := 402) (v := 3) hx hb dL_law_402 (by decide) ?_
  refine lv_iadd (pc := 403) hx hb dL_law_403 ?_
  obtain ⟨j78, hj79, h⟩ := bnd1 h
  refine r_sld (pc := 404) X XL hS hj79 dL_law_404 ?_
  obtain ⟨r82, σ80, e81, h⟩ := bnd2 h
  refine cl_L_38 X hP hS hz2 (As := [.int (xs j74), .int (xs j76), .int (xs j78)]) (rest := [.int r73]) (c_X10_trim l G hz2 e81) ⟨rfl, rfl, Nat.le_of_ble_eq_true rfl, Nat.le_of_ble_eq_true rfl⟩ rfl hl.1 rfl (Nat.le_of_ble_eq_true rfl) ⟨Nat.le_of_ble_eq_true rfl, Nat.le_of_ble_eq_true rfl⟩ (pc := 405) dL_law_405 (fun H locs hP hS => ?_)
  change W p l e _ s m _ below meth c H locs _ _ _ (F0 m (405 + 3) ls (.int r82 :: [.int r73]))
  refine lv_icmp_eq (pc := 408) (tgt := 1623) hx hb dL_law_408 (by decide) (fun c83 => ?_) (fun c83 => ?_)
  · have h := ipos c83 h
    refine lv_iinc (pc := 1623) (v := (v3 + (5 : Int32))) (lv' := [(3, .int (v3 + (5 : Int32))), (0, .ref b), (1, .ref (ga G k1z)), (2, .ref (ga G k2z))]) hx hb dL_law_1623 hl (k := 3) rfl (congrArg (fun z => v3 + z) (by decide)) (by decide) rfl (fun ls hl => ?_)
    refine lv_goto (pc := 1626) (tgt := 18) hx hb dL_law_1626 (by decide) ?_
    exact ih1 _ _ _ _ _ hP hS (lv_sub hl [1, 2, 3, 0] rfl) h
  · have h := ineg c83 h
    refine lv_iconst (pc := 411) (v := 0) hx hb dL_law_411 (by decide) ?_
    exact absurd (inj2 h).1 (by decide)
set_option maxHeartbeats 4000000 in
set_option maxRecDepth 100000 in
theorem w_L_law_413 {l : Launch} {G : Gh} {p : Program} {e : Env} {s : State} {m : MethodId} {below : List Frame} {meth : Method} {c : Code} {b L : Nat} {xs : Nat → Int32} (X : Cx G p s m #[Value.ref b] meth c code RL 4 (some .boolean)) (XL : LawX G b L xs s) {k1z : Nat} {k2z : Nat} (hz1 : kd k1z = 9) (hz2 : kd k2z = 10) {σr : Mem} {rec1 : Int32 → Mem → Option (Int32 × Mem)} (ih1 : ∀ (v3 : Int32) (σ : Mem) (H : Heap) (locs : List Loc) (ls : Array Slot), PW G σ H → va_S (AA G) s.heap H locs → lv_has ls 4 [(0, .ref b), (1, .ref (ga G k1z)), (2, .ref (ga G k2z)), (3, .int v3)] → rec1 v3 σ = some ((1 : Int32), σr) → W p l e room_1 s m #[Value.ref b] below meth c H locs 127 1782 (lw_Z below #[Value.ref b] s) (F0 m 18 ls [])) : ∀ (v3 : Int32) (σ : Mem) (H : Heap) (locs : List Loc) (ls : Array Slot), PW G σ H → va_S (AA G) s.heap H locs → lv_has ls 4 [(0, .ref b), (1, .ref (ga G k1z)), (2, .ref (ga G k2z)), (3, .int v3)] → F_L_law_413 L xs k1z k2z rec1 v3 σ = some ((1 : Int32), σr) → W p l e room_1 s m #[Value.ref b] below meth c H locs 127 1782 (lw_Z below #[Value.ref b] s) (F0 m 413 ls []) := by
  have hx := X.hx
  have hb := X.hb
  intro v3 σ H locs ls hP hS hl h
  unfold F_L_law_413 at h
  refine lv_aload_n (pc := 413) hx hb dL_law_413 rfl (lv_at hl 1 rfl) ?_
  refine lv_aload_n (pc := 414) hx hb dL_law_414 rfl (lv_at hl 0 rfl) ?_
  refine lv_iload_n (pc := 415) hx hb dL_law_415 rfl (lv_at hl 3 rfl) ?_
  refine lv_iconst (pc := 416) (v := 1) hx hb dL_law_416 (by decide) ?_
  refine lv_iadd (pc := 417) hx hb dL_law_417 ?_
  obtain ⟨j85, hj86, h⟩ := bnd1 h
  refine r_sld (pc := 418) X XL hS hj86 dL_law_418 ?_
  refine lv_aload_n (pc := 419) hx hb dL_law_419 rfl (lv_at hl 0 rfl) ?_
  refine lv_iload_n (pc := 420) hx hb dL_law_420 rfl (lv_at hl 3 rfl) ?_
  refine lv_iconst (pc := 421) (v := 2) hx hb dL_law_421 (by decide) ?_
  refine lv_iadd (pc := 422) hx hb dL_law_422 ?_
  obtain ⟨j87, hj88, h⟩ := bnd1 h
  refine r_sld (pc := 423) X XL hS hj88 dL_law_423 ?_
  obtain ⟨r91, σ89, e90, h⟩ := bnd2 h
  refine cl_L_39 X hP hS hz1 (As := [.int (xs j85), .int (xs j87)]) (rest := []) (c_X9_draught l G hz1 e90) ⟨rfl, rfl, Nat.le_of_ble_eq_true rfl, Nat.le_of_ble_eq_true rfl⟩ rfl hl.1 rfl (Nat.le_of_ble_eq_true rfl) ⟨Nat.le_of_ble_eq_true rfl, Nat.le_of_ble_eq_true rfl⟩ (pc := 424) dL_law_424 (fun H locs hP hS => ?_)
  change W p l e _ s m _ below meth c H locs _ _ _ (F0 m (424 + 3) ls (.int r91 :: []))
  refine lv_aload_n (pc := 427) hx hb dL_law_427 rfl (lv_at hl 2 rfl) ?_
  refine lv_aload_n (pc := 428) hx hb dL_law_428 rfl (lv_at hl 0 rfl) ?_
  refine lv_iload_n (pc := 429) hx hb dL_law_429 rfl (lv_at hl 3 rfl) ?_
  refine lv_iconst (pc := 430) (v := 1) hx hb dL_law_430 (by decide) ?_
  refine lv_iadd (pc := 431) hx hb dL_law_431 ?_
  obtain ⟨j92, hj93, h⟩ := bnd1 h
  refine r_sld (pc := 432) X XL hS hj93 dL_law_432 ?_
  refine lv_aload_n (pc := 433) hx hb dL_law_433 rfl (lv_at hl 0 rfl) ?_
  refine lv_iload_n (pc := 434) hx hb dL_law_434 rfl (lv_at hl 3 rfl) ?_
  refine lv_iconst (pc := 435) (v := 2) hx hb dL_law_435 (by decide) ?_
  refine lv_iadd (pc := 436) hx hb dL_law_436 ?_
  obtain ⟨j94, hj95, h⟩ := bnd1 h
  refine r_sld (pc := 437) X XL hS hj95 dL_law_437 ?_
  obtain ⟨r98, σ96, e97, h⟩ := bnd2 h
  refine cl_L_42 X hP hS hz2 (As := [.int (xs j92), .int (xs j94)]) (rest := [.int r91]) (c_X10_draught l G hz2 e97) ⟨rfl, rfl, Nat.le_of_ble_eq_true rfl, Nat.le_of_ble_eq_true rfl⟩ rfl hl.1 rfl (Nat.le_of_ble_eq_true rfl) ⟨Nat.le_of_ble_eq_true rfl, Nat.le_of_ble_eq_true rfl⟩ (pc := 438) dL_law_438 (fun H locs hP hS => ?_)
  change W p l e _ s m _ below meth c H locs _ _ _ (F0 m (438 + 3) ls (.int r98 :: [.int r91]))
  refine lv_icmp_eq (pc := 441) (tgt := 1623) hx hb dL_law_441 (by decide) (fun c99 => ?_) (fun c99 => ?_)
  · have h := ipos c99 h
    refine lv_iinc (pc := 1623) (v := (v3 + (5 : Int32))) (lv' := [(3, .int (v3 + (5 : Int32))), (0, .ref b), (1, .ref (ga G k1z)), (2, .ref (ga G k2z))]) hx hb dL_law_1623 hl (k := 3) rfl (congrArg (fun z => v3 + z) (by decide)) (by decide) rfl (fun ls hl => ?_)
    refine lv_goto (pc := 1626) (tgt := 18) hx hb dL_law_1626 (by decide) ?_
    exact ih1 _ _ _ _ _ hP hS (lv_sub hl [1, 2, 3, 0] rfl) h
  · have h := ineg c99 h
    refine lv_iconst (pc := 444) (v := 0) hx hb dL_law_444 (by decide) ?_
    exact absurd (inj2 h).1 (by decide)
set_option maxHeartbeats 4000000 in
set_option maxRecDepth 100000 in
theorem w_L_law_446 {l : Launch} {G : Gh} {p : Program} {e : Env} {s : State} {m : MethodId} {below : List Frame} {meth : Method} {c : Code} {b L : Nat} {xs : Nat → Int32} (X : Cx G p s m #[Value.ref b] meth c code RL 4 (some .boolean)) (XL : LawX G b L xs s) {k1z : Nat} {k2z : Nat} (hz1 : kd k1z = 9) (hz2 : kd k2z = 10) {σr : Mem} {rec1 : Int32 → Mem → Option (Int32 × Mem)} (ih1 : ∀ (v3 : Int32) (σ : Mem) (H : Heap) (locs : List Loc) (ls : Array Slot), PW G σ H → va_S (AA G) s.heap H locs → lv_has ls 4 [(0, .ref b), (1, .ref (ga G k1z)), (2, .ref (ga G k2z)), (3, .int v3)] → rec1 v3 σ = some ((1 : Int32), σr) → W p l e room_1 s m #[Value.ref b] below meth c H locs 127 1782 (lw_Z below #[Value.ref b] s) (F0 m 18 ls [])) : ∀ (v3 : Int32) (σ : Mem) (H : Heap) (locs : List Loc) (ls : Array Slot), PW G σ H → va_S (AA G) s.heap H locs → lv_has ls 4 [(0, .ref b), (1, .ref (ga G k1z)), (2, .ref (ga G k2z)), (3, .int v3)] → F_L_law_446 L xs k1z k2z rec1 v3 σ = some ((1 : Int32), σr) → W p l e room_1 s m #[Value.ref b] below meth c H locs 127 1782 (lw_Z below #[Value.ref b] s) (F0 m 446 ls []) := by
  have hx := X.hx
  have hb := X.hb
  intro v3 σ H locs ls hP hS hl h
  unfold F_L_law_446 at h
  refine lv_aload_n (pc := 446) hx hb dL_law_446 rfl (lv_at hl 1 rfl) ?_
  refine lv_aload_n (pc := 447) hx hb dL_law_447 rfl (lv_at hl 0 rfl) ?_
  refine lv_iload_n (pc := 448) hx hb dL_law_448 rfl (lv_at hl 3 rfl) ?_
  refine lv_iconst (pc := 449) (v := 1) hx hb dL_law_449 (by decide) ?_
  refine lv_iadd (pc := 450) hx hb dL_law_450 ?_
  obtain ⟨j101, hj102, h⟩ := bnd1 h
  refine r_sld (pc := 451) X XL hS hj102 dL_law_451 ?_
  obtain ⟨r105, σ103, e104, h⟩ := bnd2 h
  refine cl_L_43 X hP hS hz1 (As := [.int (xs j101)]) (rest := []) (c_X9_step l G hz1 e104) ⟨rfl, rfl, Nat.le_of_ble_eq_true rfl, Nat.le_of_ble_eq_true rfl⟩ rfl hl.1 rfl (Nat.le_of_ble_eq_true rfl) ⟨Nat.le_of_ble_eq_true rfl, Nat.le_of_ble_eq_true rfl⟩ (pc := 452) dL_law_452 (fun H locs hP hS => ?_)
  change W p l e _ s m _ below meth c H locs _ _ _ (F0 m (452 + 3) ls (.int r105 :: []))
  refine lv_aload_n (pc := 455) hx hb dL_law_455 rfl (lv_at hl 2 rfl) ?_
  refine lv_aload_n (pc := 456) hx hb dL_law_456 rfl (lv_at hl 0 rfl) ?_
  refine lv_iload_n (pc := 457) hx hb dL_law_457 rfl (lv_at hl 3 rfl) ?_
  refine lv_iconst (pc := 458) (v := 1) hx hb dL_law_458 (by decide) ?_
  refine lv_iadd (pc := 459) hx hb dL_law_459 ?_
  obtain ⟨j106, hj107, h⟩ := bnd1 h
  refine r_sld (pc := 460) X XL hS hj107 dL_law_460 ?_
  obtain ⟨r110, σ108, e109, h⟩ := bnd2 h
  refine cl_L_47 X hP hS hz2 (As := [.int (xs j106)]) (rest := [.int r105]) (c_X10_step l G hz2 e109) ⟨rfl, rfl, Nat.le_of_ble_eq_true rfl, Nat.le_of_ble_eq_true rfl⟩ rfl hl.1 rfl (Nat.le_of_ble_eq_true rfl) ⟨Nat.le_of_ble_eq_true rfl, Nat.le_of_ble_eq_true rfl⟩ (pc := 461) dL_law_461 (fun H locs hP hS => ?_)
  change W p l e _ s m _ below meth c H locs _ _ _ (F0 m (461 + 3) ls (.int r110 :: [.int r105]))
  refine lv_icmp_eq (pc := 464) (tgt := 1623) hx hb dL_law_464 (by decide) (fun c111 => ?_) (fun c111 => ?_)
  · have h := ipos c111 h
    refine lv_iinc (pc := 1623) (v := (v3 + (5 : Int32))) (lv' := [(3, .int (v3 + (5 : Int32))), (0, .ref b), (1, .ref (ga G k1z)), (2, .ref (ga G k2z))]) hx hb dL_law_1623 hl (k := 3) rfl (congrArg (fun z => v3 + z) (by decide)) (by decide) rfl (fun ls hl => ?_)
    refine lv_goto (pc := 1626) (tgt := 18) hx hb dL_law_1626 (by decide) ?_
    exact ih1 _ _ _ _ _ hP hS (lv_sub hl [1, 2, 3, 0] rfl) h
  · have h := ineg c111 h
    refine lv_iconst (pc := 467) (v := 0) hx hb dL_law_467 (by decide) ?_
    exact absurd (inj2 h).1 (by decide)
set_option maxHeartbeats 4000000 in
set_option maxRecDepth 100000 in
theorem w_L_law_469 {l : Launch} {G : Gh} {p : Program} {e : Env} {s : State} {m : MethodId} {below : List Frame} {meth : Method} {c : Code} {b L : Nat} {xs : Nat → Int32} (X : Cx G p s m #[Value.ref b] meth c code RL 4 (some .boolean)) (XL : LawX G b L xs s) {k1z : Nat} {k2z : Nat} (hz1 : kd k1z = 9) (hz2 : kd k2z = 10) {σr : Mem} {rec1 : Int32 → Mem → Option (Int32 × Mem)} (ih1 : ∀ (v3 : Int32) (σ : Mem) (H : Heap) (locs : List Loc) (ls : Array Slot), PW G σ H → va_S (AA G) s.heap H locs → lv_has ls 4 [(0, .ref b), (1, .ref (ga G k1z)), (2, .ref (ga G k2z)), (3, .int v3)] → rec1 v3 σ = some ((1 : Int32), σr) → W p l e room_1 s m #[Value.ref b] below meth c H locs 127 1782 (lw_Z below #[Value.ref b] s) (F0 m 18 ls [])) : ∀ (v3 : Int32) (σ : Mem) (H : Heap) (locs : List Loc) (ls : Array Slot), PW G σ H → va_S (AA G) s.heap H locs → lv_has ls 4 [(0, .ref b), (1, .ref (ga G k1z)), (2, .ref (ga G k2z)), (3, .int v3)] → F_L_law_469 L xs k1z k2z rec1 v3 σ = some ((1 : Int32), σr) → W p l e room_1 s m #[Value.ref b] below meth c H locs 127 1782 (lw_Z below #[Value.ref b] s) (F0 m 469 ls []) := by
  have hx := X.hx
  have hb := X.hb
  intro v3 σ H locs ls hP hS hl h
  unfold F_L_law_469 at h
  refine lv_aload_n (pc := 469) hx hb dL_law_469 rfl (lv_at hl 1 rfl) ?_
  refine lv_aload_n (pc := 470) hx hb dL_law_470 rfl (lv_at hl 0 rfl) ?_
  refine lv_iload_n (pc := 471) hx hb dL_law_471 rfl (lv_at hl 3 rfl) ?_
  refine lv_iconst (pc := 472) (v := 1) hx hb dL_law_472 (by decide) ?_
  refine lv_iadd (pc := 473) hx hb dL_law_473 ?_
  obtain ⟨j113, hj114, h⟩ := bnd1 h
  refine r_sld (pc := 474) X XL hS hj114 dL_law_474 ?_
  refine lv_aload_n (pc := 475) hx hb dL_law_475 rfl (lv_at hl 0 rfl) ?_
  refine lv_iload_n (pc := 476) hx hb dL_law_476 rfl (lv_at hl 3 rfl) ?_
  refine lv_iconst (pc := 477) (v := 2) hx hb dL_law_477 (by decide) ?_
  refine lv_iadd (pc := 478) hx hb dL_law_478 ?_
  obtain ⟨j115, hj116, h⟩ := bnd1 h
  refine r_sld (pc := 479) X XL hS hj116 dL_law_479 ?_
  refine lv_aload_n (pc := 480) hx hb dL_law_480 rfl (lv_at hl 0 rfl) ?_
  refine lv_iload_n (pc := 481) hx hb dL_law_481 rfl (lv_at hl 3 rfl) ?_
  refine lv_iconst (pc := 482) (v := 3) hx hb dL_law_482 (by decide) ?_
  refine lv_iadd (pc := 483) hx hb dL_law_483 ?_
  obtain ⟨j117, hj118, h⟩ := bnd1 h
  refine r_sld (pc := 484) X XL hS hj118 dL_law_484 ?_
  refine lv_aload_n (pc := 485) hx hb dL_law_485 rfl (lv_at hl 0 rfl) ?_
  refine lv_iload_n (pc := 486) hx hb dL_law_486 rfl (lv_at hl 3 rfl) ?_
  refine lv_iconst (pc := 487) (v := 4) hx hb dL_law_487 (by decide) ?_
  refine lv_iadd (pc := 488) hx hb dL_law_488 ?_
  obtain ⟨j119, hj120, h⟩ := bnd1 h
  refine r_sld (pc := 489) X XL hS hj120 dL_law_489 ?_
  obtain ⟨r123, σ121, e122, h⟩ := bnd2 h
  refine cl_L_48 X hP hS hz1 (As := [.int (xs j113), .int (xs j115), .int (xs j117), .int (xs j119)]) (rest := []) (c_X9_bidder l G hz1 e122) ⟨rfl, rfl, Nat.le_of_ble_eq_true rfl, Nat.le_of_ble_eq_true rfl⟩ rfl hl.1 rfl (Nat.le_of_ble_eq_true rfl) ⟨Nat.le_of_ble_eq_true rfl, Nat.le_of_ble_eq_true rfl⟩ (pc := 490) dL_law_490 (fun H locs hP hS => ?_)
  change W p l e _ s m _ below meth c H locs _ _ _ (F0 m (490 + 3) ls (.int r123 :: []))
  refine lv_aload_n (pc := 493) hx hb dL_law_493 rfl (lv_at hl 2 rfl) ?_
  refine lv_aload_n (pc := 494) hx hb dL_law_494 rfl (lv_at hl 0 rfl) ?_
  refine lv_iload_n (pc := 495) hx hb dL_law_495 rfl (lv_at hl 3 rfl) ?_
  refine lv_iconst (pc := 496) (v := 1) hx hb dL_law_496 (by decide) ?_
  refine lv_iadd (pc := 497) hx hb dL_law_497 ?_
  obtain ⟨j124, hj125, h⟩ := bnd1 h
  refine r_sld (pc := 498) X XL hS hj125 dL_law_498 ?_
  refine lv_aload_n (pc := 499) hx hb dL_law_499 rfl (lv_at hl 0 rfl) ?_
  refine lv_iload_n (pc := 500) hx hb dL_law_500 rfl (lv_at hl 3 rfl) ?_
  refine lv_iconst (pc := 501) (v := 2) hx hb dL_law_501 (by decide) ?_
  refine lv_iadd (pc := 502) hx hb dL_law_502 ?_
  obtain ⟨j126, hj127, h⟩ := bnd1 h
  refine r_sld (pc := 503) X XL hS hj127 dL_law_503 ?_
  refine lv_aload_n (pc := 504) hx hb dL_law_504 rfl (lv_at hl 0 rfl) ?_
  refine lv_iload_n (pc := 505) hx hb dL_law_505 rfl (lv_at hl 3 rfl) ?_
  refine lv_iconst (pc := 506) (v := 3) hx hb dL_law_506 (by decide) ?_
  refine lv_iadd (pc := 507) hx hb dL_law_507 ?_
  obtain ⟨j128, hj129, h⟩ := bnd1 h
  refine r_sld (pc := 508) X XL hS hj129 dL_law_508 ?_
  refine lv_aload_n (pc := 509) hx hb dL_law_509 rfl (lv_at hl 0 rfl) ?_
  refine lv_iload_n (pc := 510) hx hb dL_law_510 rfl (lv_at hl 3 rfl) ?_
  refine lv_iconst (pc := 511) (v := 4) hx hb dL_law_511 (by decide) ?_
  refine lv_iadd (pc := 512) hx hb dL_law_512 ?_
  obtain ⟨j130, hj131, h⟩ := bnd1 h
  refine r_sld (pc := 513) X XL hS hj131 dL_law_513 ?_
  obtain ⟨r134, σ132, e133, h⟩ := bnd2 h
  refine cl_L_52 X hP hS hz2 (As := [.int (xs j124), .int (xs j126), .int (xs j128), .int (xs j130)]) (rest := [.int r123]) (c_X10_bidder l G hz2 e133) ⟨rfl, rfl, Nat.le_of_ble_eq_true rfl, Nat.le_of_ble_eq_true rfl⟩ rfl hl.1 rfl (Nat.le_of_ble_eq_true rfl) ⟨Nat.le_of_ble_eq_true rfl, Nat.le_of_ble_eq_true rfl⟩ (pc := 514) dL_law_514 (fun H locs hP hS => ?_)
  change W p l e _ s m _ below meth c H locs _ _ _ (F0 m (514 + 3) ls (.int r134 :: [.int r123]))
  refine lv_icmp_eq (pc := 517) (tgt := 1623) hx hb dL_law_517 (by decide) (fun c135 => ?_) (fun c135 => ?_)
  · have h := ipos c135 h
    refine lv_iinc (pc := 1623) (v := (v3 + (5 : Int32))) (lv' := [(3, .int (v3 + (5 : Int32))), (0, .ref b), (1, .ref (ga G k1z)), (2, .ref (ga G k2z))]) hx hb dL_law_1623 hl (k := 3) rfl (congrArg (fun z => v3 + z) (by decide)) (by decide) rfl (fun ls hl => ?_)
    refine lv_goto (pc := 1626) (tgt := 18) hx hb dL_law_1626 (by decide) ?_
    exact ih1 _ _ _ _ _ hP hS (lv_sub hl [1, 2, 3, 0] rfl) h
  · have h := ineg c135 h
    refine lv_iconst (pc := 520) (v := 0) hx hb dL_law_520 (by decide) ?_
    exact absurd (inj2 h).1 (by decide)
set_option maxHeartbeats 4000000 in
set_option maxRecDepth 100000 in
theorem w_L_law_522 {l : Launch} {G : Gh} {p : Program} {e : Env} {s : State} {m : MethodId} {below : List Frame} {meth : Method} {c : Code} {b L : Nat} {xs : Nat → Int32} (X : Cx G p s m #[Value.ref b] meth c code RL 4 (some .boolean)) (XL : LawX G b L xs s) {k1z : Nat} {k2z : Nat} (hz1 : kd k1z = 9) (hz2 : kd k2z = 10) {σr : Mem} {rec1 : Int32 → Mem → Option (Int32 × Mem)} (ih1 : ∀ (v3 : Int32) (σ : Mem) (H : Heap) (locs : List Loc) (ls : Array Slot), PW G σ H → va_S (AA G) s.heap H locs → lv_has ls 4 [(0, .ref b), (1, .ref (ga G k1z)), (2, .ref (ga G k2z)), (3, .int v3)] → rec1 v3 σ = some ((1 : Int32), σr) → W p l e room_1 s m #[Value.ref b] below meth c H locs 127 1782 (lw_Z below #[Value.ref b] s) (F0 m 18 ls [])) : ∀ (v3 : Int32) (σ : Mem) (H : Heap) (locs : List Loc) (ls : Array Slot), PW G σ H → va_S (AA G) s.heap H locs → lv_has ls 4 [(0, .ref b), (1, .ref (ga G k1z)), (2, .ref (ga G k2z)), (3, .int v3)] → F_L_law_522 L xs k1z k2z rec1 v3 σ = some ((1 : Int32), σr) → W p l e room_1 s m #[Value.ref b] below meth c H locs 127 1782 (lw_Z below #[Value.ref b] s) (F0 m 522 ls []) := by
  have hx := X.hx
  have hb := X.hb
  intro v3 σ H locs ls hP hS hl h
  unfold F_L_law_522 at h
  refine lv_aload_n (pc := 522) hx hb dL_law_522 rfl (lv_at hl 1 rfl) ?_
  refine lv_aload_n (pc := 523) hx hb dL_law_523 rfl (lv_at hl 0 rfl) ?_
  refine lv_iload_n (pc := 524) hx hb dL_law_524 rfl (lv_at hl 3 rfl) ?_
  refine lv_iconst (pc := 525) (v := 1) hx hb dL_law_525 (by decide) ?_
  refine lv_iadd (pc := 526) hx hb dL_law_526 ?_
  obtain ⟨j137, hj138, h⟩ := bnd1 h
  refine r_sld (pc := 527) X XL hS hj138 dL_law_527 ?_
  refine lv_aload_n (pc := 528) hx hb dL_law_528 rfl (lv_at hl 0 rfl) ?_
  refine lv_iload_n (pc := 529) hx hb dL_law_529 rfl (lv_at hl 3 rfl) ?_
  refine lv_iconst (pc := 530) (v := 2) hx hb dL_law_530 (by decide) ?_
  refine lv_iadd (pc := 531) hx hb dL_law_531 ?_
  obtain ⟨j139, hj140, h⟩ := bnd1 h
  refine r_sld (pc := 532) X XL hS hj140 dL_law_532 ?_
  obtain ⟨r143, σ141, e142, h⟩ := bnd2 h
  refine cl_L_53 X hP hS hz1 (As := [.int (xs j137), .int (xs j139)]) (rest := []) (c_X9_bidderOf l G hz1 e142) ⟨rfl, rfl, Nat.le_of_ble_eq_true rfl, Nat.le_of_ble_eq_true rfl⟩ rfl hl.1 rfl (Nat.le_of_ble_eq_true rfl) ⟨Nat.le_of_ble_eq_true rfl, Nat.le_of_ble_eq_true rfl⟩ (pc := 533) dL_law_533 (fun H locs hP hS => ?_)
  change W p l e _ s m _ below meth c H locs _ _ _ (F0 m (533 + 3) ls (.int r143 :: []))
  refine lv_aload_n (pc := 536) hx hb dL_law_536 rfl (lv_at hl 2 rfl) ?_
  refine lv_aload_n (pc := 537) hx hb dL_law_537 rfl (lv_at hl 0 rfl) ?_
  refine lv_iload_n (pc := 538) hx hb dL_law_538 rfl (lv_at hl 3 rfl) ?_
  refine lv_iconst (pc := 539) (v := 1) hx hb dL_law_539 (by decide) ?_
  refine lv_iadd (pc := 540) hx hb dL_law_540 ?_
  obtain ⟨j144, hj145, h⟩ := bnd1 h
  refine r_sld (pc := 541) X XL hS hj145 dL_law_541 ?_
  refine lv_aload_n (pc := 542) hx hb dL_law_542 rfl (lv_at hl 0 rfl) ?_
  refine lv_iload_n (pc := 543) hx hb dL_law_543 rfl (lv_at hl 3 rfl) ?_
  refine lv_iconst (pc := 544) (v := 2) hx hb dL_law_544 (by decide) ?_
  refine lv_iadd (pc := 545) hx hb dL_law_545 ?_
  obtain ⟨j146, hj147, h⟩ := bnd1 h
  refine r_sld (pc := 546) X XL hS hj147 dL_law_546 ?_
  obtain ⟨r150, σ148, e149, h⟩ := bnd2 h
  refine cl_L_56 X hP hS hz2 (As := [.int (xs j144), .int (xs j146)]) (rest := [.int r143]) (c_X10_bidderOf l G hz2 e149) ⟨rfl, rfl, Nat.le_of_ble_eq_true rfl, Nat.le_of_ble_eq_true rfl⟩ rfl hl.1 rfl (Nat.le_of_ble_eq_true rfl) ⟨Nat.le_of_ble_eq_true rfl, Nat.le_of_ble_eq_true rfl⟩ (pc := 547) dL_law_547 (fun H locs hP hS => ?_)
  change W p l e _ s m _ below meth c H locs _ _ _ (F0 m (547 + 3) ls (.int r150 :: [.int r143]))
  refine lv_icmp_eq (pc := 550) (tgt := 1623) hx hb dL_law_550 (by decide) (fun c151 => ?_) (fun c151 => ?_)
  · have h := ipos c151 h
    refine lv_iinc (pc := 1623) (v := (v3 + (5 : Int32))) (lv' := [(3, .int (v3 + (5 : Int32))), (0, .ref b), (1, .ref (ga G k1z)), (2, .ref (ga G k2z))]) hx hb dL_law_1623 hl (k := 3) rfl (congrArg (fun z => v3 + z) (by decide)) (by decide) rfl (fun ls hl => ?_)
    refine lv_goto (pc := 1626) (tgt := 18) hx hb dL_law_1626 (by decide) ?_
    exact ih1 _ _ _ _ _ hP hS (lv_sub hl [1, 2, 3, 0] rfl) h
  · have h := ineg c151 h
    refine lv_iconst (pc := 553) (v := 0) hx hb dL_law_553 (by decide) ?_
    exact absurd (inj2 h).1 (by decide)
set_option maxHeartbeats 4000000 in
set_option maxRecDepth 100000 in
theorem w_L_law_555 {l : Launch} {G : Gh} {p : Program} {e : Env} {s : State} {m : MethodId} {below : List Frame} {meth : Method} {c : Code} {b L : Nat} {xs : Nat → Int32} (X : Cx G p s m #[Value.ref b] meth c code RL 4 (some .boolean)) (XL : LawX G b L xs s) {k1z : Nat} {k2z : Nat} (hz1 : kd k1z = 9) (hz2 : kd k2z = 10) {σr : Mem} {rec1 : Int32 → Mem → Option (Int32 × Mem)} (ih1 : ∀ (v3 : Int32) (σ : Mem) (H : Heap) (locs : List Loc) (ls : Array Slot), PW G σ H → va_S (AA G) s.heap H locs → lv_has ls 4 [(0, .ref b), (1, .ref (ga G k1z)), (2, .ref (ga G k2z)), (3, .int v3)] → rec1 v3 σ = some ((1 : Int32), σr) → W p l e room_1 s m #[Value.ref b] below meth c H locs 127 1782 (lw_Z below #[Value.ref b] s) (F0 m 18 ls [])) : ∀ (v3 : Int32) (σ : Mem) (H : Heap) (locs : List Loc) (ls : Array Slot), PW G σ H → va_S (AA G) s.heap H locs → lv_has ls 4 [(0, .ref b), (1, .ref (ga G k1z)), (2, .ref (ga G k2z)), (3, .int v3)] → F_L_law_555 L xs k1z k2z rec1 v3 σ = some ((1 : Int32), σr) → W p l e room_1 s m #[Value.ref b] below meth c H locs 127 1782 (lw_Z below #[Value.ref b] s) (F0 m 555 ls []) := by
  have hx := X.hx
  have hb := X.hb
  intro v3 σ H locs ls hP hS hl h
  unfold F_L_law_555 at h
  refine lv_aload_n (pc := 555) hx hb dL_law_555 rfl (lv_at hl 1 rfl) ?_
  refine lv_aload_n (pc := 556) hx hb dL_law_556 rfl (lv_at hl 0 rfl) ?_
  refine lv_iload_n (pc := 557) hx hb dL_law_557 rfl (lv_at hl 3 rfl) ?_
  refine lv_iconst (pc := 558) (v := 1) hx hb dL_law_558 (by decide) ?_
  refine lv_iadd (pc := 559) hx hb dL_law_559 ?_
  obtain ⟨j153, hj154, h⟩ := bnd1 h
  refine r_sld (pc := 560) X XL hS hj154 dL_law_560 ?_
  refine lv_aload_n (pc := 561) hx hb dL_law_561 rfl (lv_at hl 0 rfl) ?_
  refine lv_iload_n (pc := 562) hx hb dL_law_562 rfl (lv_at hl 3 rfl) ?_
  refine lv_iconst (pc := 563) (v := 2) hx hb dL_law_563 (by decide) ?_
  refine lv_iadd (pc := 564) hx hb dL_law_564 ?_
  obtain ⟨j155, hj156, h⟩ := bnd1 h
  refine r_sld (pc := 565) X XL hS hj156 dL_law_565 ?_
  refine lv_aload_n (pc := 566) hx hb dL_law_566 rfl (lv_at hl 0 rfl) ?_
  refine lv_iload_n (pc := 567) hx hb dL_law_567 rfl (lv_at hl 3 rfl) ?_
  refine lv_iconst (pc := 568) (v := 3) hx hb dL_law_568 (by decide) ?_
  refine lv_iadd (pc := 569) hx hb dL_law_569 ?_
  obtain ⟨j157, hj158, h⟩ := bnd1 h
  refine r_sld (pc := 570) X XL hS hj158 dL_law_570 ?_
  obtain ⟨r161, σ159, e160, h⟩ := bnd2 h
  refine cl_L_57 X hP hS hz1 (As := [.int (xs j153), .int (xs j155), .int (xs j157)]) (rest := []) (c_X9_mind l G hz1 e160) ⟨rfl, rfl, Nat.le_of_ble_eq_true rfl, Nat.le_of_ble_eq_true rfl⟩ rfl hl.1 rfl (Nat.le_of_ble_eq_true rfl) ⟨Nat.le_of_ble_eq_true rfl, Nat.le_of_ble_eq_true rfl⟩ (pc := 571) dL_law_571 (fun H locs hP hS => ?_)
  change W p l e _ s m _ below meth c H locs _ _ _ (F0 m (571 + 3) ls (.int r161 :: []))
  refine lv_aload_n (pc := 574) hx hb dL_law_574 rfl (lv_at hl 2 rfl) ?_
  refine lv_aload_n (pc := 575) hx hb dL_law_575 rfl (lv_at hl 0 rfl) ?_
  refine lv_iload_n (pc := 576) hx hb dL_law_576 rfl (lv_at hl 3 rfl) ?_
  refine lv_iconst (pc := 577) (v := 1) hx hb dL_law_577 (by decide) ?_
  refine lv_iadd (pc := 578) hx hb dL_law_578 ?_
  obtain ⟨j162, hj163, h⟩ := bnd1 h
  refine r_sld (pc := 579) X XL hS hj163 dL_law_579 ?_
  refine lv_aload_n (pc := 580) hx hb dL_law_580 rfl (lv_at hl 0 rfl) ?_
  refine lv_iload_n (pc := 581) hx hb dL_law_581 rfl (lv_at hl 3 rfl) ?_
  refine lv_iconst (pc := 582) (v := 2) hx hb dL_law_582 (by decide) ?_
  refine lv_iadd (pc := 583) hx hb dL_law_583 ?_
  obtain ⟨j164, hj165, h⟩ := bnd1 h
  refine r_sld (pc := 584) X XL hS hj165 dL_law_584 ?_
  refine lv_aload_n (pc := 585) hx hb dL_law_585 rfl (lv_at hl 0 rfl) ?_
  refine lv_iload_n (pc := 586) hx hb dL_law_586 rfl (lv_at hl 3 rfl) ?_
  refine lv_iconst (pc := 587) (v := 3) hx hb dL_law_587 (by decide) ?_
  refine lv_iadd (pc := 588) hx hb dL_law_588 ?_
  obtain ⟨j166, hj167, h⟩ := bnd1 h
  refine r_sld (pc := 589) X XL hS hj167 dL_law_589 ?_
  obtain ⟨r170, σ168, e169, h⟩ := bnd2 h
  refine cl_L_60 X hP hS hz2 (As := [.int (xs j162), .int (xs j164), .int (xs j166)]) (rest := [.int r161]) (c_X10_mind l G hz2 e169) ⟨rfl, rfl, Nat.le_of_ble_eq_true rfl, Nat.le_of_ble_eq_true rfl⟩ rfl hl.1 rfl (Nat.le_of_ble_eq_true rfl) ⟨Nat.le_of_ble_eq_true rfl, Nat.le_of_ble_eq_true rfl⟩ (pc := 590) dL_law_590 (fun H locs hP hS => ?_)
  change W p l e _ s m _ below meth c H locs _ _ _ (F0 m (590 + 3) ls (.int r170 :: [.int r161]))
  refine lv_icmp_eq (pc := 593) (tgt := 1623) hx hb dL_law_593 (by decide) (fun c171 => ?_) (fun c171 => ?_)
  · have h := ipos c171 h
    refine lv_iinc (pc := 1623) (v := (v3 + (5 : Int32))) (lv' := [(3, .int (v3 + (5 : Int32))), (0, .ref b), (1, .ref (ga G k1z)), (2, .ref (ga G k2z))]) hx hb dL_law_1623 hl (k := 3) rfl (congrArg (fun z => v3 + z) (by decide)) (by decide) rfl (fun ls hl => ?_)
    refine lv_goto (pc := 1626) (tgt := 18) hx hb dL_law_1626 (by decide) ?_
    exact ih1 _ _ _ _ _ hP hS (lv_sub hl [1, 2, 3, 0] rfl) h
  · have h := ineg c171 h
    refine lv_iconst (pc := 596) (v := 0) hx hb dL_law_596 (by decide) ?_
    exact absurd (inj2 h).1 (by decide)
set_option maxHeartbeats 4000000 in
set_option maxRecDepth 100000 in
theorem w_L_law_598 {l : Launch} {G : Gh} {p : Program} {e : Env} {s : State} {m : MethodId} {below : List Frame} {meth : Method} {c : Code} {b L : Nat} {xs : Nat → Int32} (X : Cx G p s m #[Value.ref b] meth c code RL 4 (some .boolean)) (XL : LawX G b L xs s) {k1z : Nat} {k2z : Nat} (hz1 : kd k1z = 9) (hz2 : kd k2z = 10) {σr : Mem} {rec1 : Int32 → Mem → Option (Int32 × Mem)} (ih1 : ∀ (v3 : Int32) (σ : Mem) (H : Heap) (locs : List Loc) (ls : Array Slot), PW G σ H → va_S (AA G) s.heap H locs → lv_has ls 4 [(0, .ref b), (1, .ref (ga G k1z)), (2, .ref (ga G k2z)), (3, .int v3)] → rec1 v3 σ = some ((1 : Int32), σr) → W p l e room_1 s m #[Value.ref b] below meth c H locs 127 1782 (lw_Z below #[Value.ref b] s) (F0 m 18 ls [])) : ∀ (v3 : Int32) (σ : Mem) (H : Heap) (locs : List Loc) (ls : Array Slot), PW G σ H → va_S (AA G) s.heap H locs → lv_has ls 4 [(0, .ref b), (1, .ref (ga G k1z)), (2, .ref (ga G k2z)), (3, .int v3)] → F_L_law_598 L xs k1z k2z rec1 v3 σ = some ((1 : Int32), σr) → W p l e room_1 s m #[Value.ref b] below meth c H locs 127 1782 (lw_Z below #[Value.ref b] s) (F0 m 598 ls []) := by
  have hx := X.hx
  have hb := X.hb
  intro v3 σ H locs ls hP hS hl h
  unfold F_L_law_598 at h
  refine lv_aload_n (pc := 598) hx hb dL_law_598 rfl (lv_at hl 1 rfl) ?_
  refine lv_aload_n (pc := 599) hx hb dL_law_599 rfl (lv_at hl 0 rfl) ?_
  refine lv_iload_n (pc := 600) hx hb dL_law_600 rfl (lv_at hl 3 rfl) ?_
  refine lv_iconst (pc := 601) (v := 1) hx hb dL_law_601 (by decide) ?_
  refine lv_iadd (pc := 602) hx hb dL_law_602 ?_
  obtain ⟨j173, hj174, h⟩ := bnd1 h
  refine r_sld (pc := 603) X XL hS hj174 dL_law_603 ?_
  refine lv_aload_n (pc := 604) hx hb dL_law_604 rfl (lv_at hl 0 rfl) ?_
  refine lv_iload_n (pc := 605) hx hb dL_law_605 rfl (lv_at hl 3 rfl) ?_
  refine lv_iconst (pc := 606) (v := 2) hx hb dL_law_606 (by decide) ?_
  refine lv_iadd (pc := 607) hx hb dL_law_607 ?_
  obtain ⟨j175, hj176, h⟩ := bnd1 h
  refine r_sld (pc := 608) X XL hS hj176 dL_law_608 ?_
  refine lv_aload_n (pc := 609) hx hb dL_law_609 rfl (lv_at hl 0 rfl) ?_
  refine lv_iload_n (pc := 610) hx hb dL_law_610 rfl (lv_at hl 3 rfl) ?_
  refine lv_iconst (pc := 611) (v := 3) hx hb dL_law_611 (by decide) ?_
  refine lv_iadd (pc := 612) hx hb dL_law_612 ?_
  obtain ⟨j177, hj178, h⟩ := bnd1 h
  refine r_sld (pc := 613) X XL hS hj178 dL_law_613 ?_
  obtain ⟨r181, σ179, e180, h⟩ := bnd2 h
  refine cl_L_61 X hP hS hz1 (As := [.int (xs j173), .int (xs j175), .int (xs j177)]) (rest := []) (c_X9_purse l G hz1 e180) ⟨rfl, rfl, Nat.le_of_ble_eq_true rfl, Nat.le_of_ble_eq_true rfl⟩ rfl hl.1 rfl (Nat.le_of_ble_eq_true rfl) ⟨Nat.le_of_ble_eq_true rfl, Nat.le_of_ble_eq_true rfl⟩ (pc := 614) dL_law_614 (fun H locs hP hS => ?_)
  change W p l e _ s m _ below meth c H locs _ _ _ (F0 m (614 + 3) ls (.int r181 :: []))
  refine lv_aload_n (pc := 617) hx hb dL_law_617 rfl (lv_at hl 2 rfl) ?_
  refine lv_aload_n (pc := 618) hx hb dL_law_618 rfl (lv_at hl 0 rfl) ?_
  refine lv_iload_n (pc := 619) hx hb dL_law_619 rfl (lv_at hl 3 rfl) ?_
  refine lv_iconst (pc := 620) (v := 1) hx hb dL_law_620 (by decide) ?_
  refine lv_iadd (pc := 621) hx hb dL_law_621 ?_
  obtain ⟨j182, hj183, h⟩ := bnd1 h
  refine r_sld (pc := 622) X XL hS hj183 dL_law_622 ?_
  refine lv_aload_n (pc := 623) hx hb dL_law_623 rfl (lv_at hl 0 rfl) ?_
  refine lv_iload_n (pc := 624) hx hb dL_law_624 rfl (lv_at hl 3 rfl) ?_
  refine lv_iconst (pc := 625) (v := 2) hx hb dL_law_625 (by decide) ?_
  refine lv_iadd (pc := 626) hx hb dL_law_626 ?_
  obtain ⟨j184, hj185, h⟩ := bnd1 h
  refine r_sld (pc := 627) X XL hS hj185 dL_law_627 ?_
  refine lv_aload_n (pc := 628) hx hb dL_law_628 rfl (lv_at hl 0 rfl) ?_
  refine lv_iload_n (pc := 629) hx hb dL_law_629 rfl (lv_at hl 3 rfl) ?_
  refine lv_iconst (pc := 630) (v := 3) hx hb dL_law_630 (by decide) ?_
  refine lv_iadd (pc := 631) hx hb dL_law_631 ?_
  obtain ⟨j186, hj187, h⟩ := bnd1 h
  refine r_sld (pc := 632) X XL hS hj187 dL_law_632 ?_
  obtain ⟨r190, σ188, e189, h⟩ := bnd2 h
  refine cl_L_64 X hP hS hz2 (As := [.int (xs j182), .int (xs j184), .int (xs j186)]) (rest := [.int r181]) (c_X10_purse l G hz2 e189) ⟨rfl, rfl, Nat.le_of_ble_eq_true rfl, Nat.le_of_ble_eq_true rfl⟩ rfl hl.1 rfl (Nat.le_of_ble_eq_true rfl) ⟨Nat.le_of_ble_eq_true rfl, Nat.le_of_ble_eq_true rfl⟩ (pc := 633) dL_law_633 (fun H locs hP hS => ?_)
  change W p l e _ s m _ below meth c H locs _ _ _ (F0 m (633 + 3) ls (.int r190 :: [.int r181]))
  refine lv_icmp_eq (pc := 636) (tgt := 1623) hx hb dL_law_636 (by decide) (fun c191 => ?_) (fun c191 => ?_)
  · have h := ipos c191 h
    refine lv_iinc (pc := 1623) (v := (v3 + (5 : Int32))) (lv' := [(3, .int (v3 + (5 : Int32))), (0, .ref b), (1, .ref (ga G k1z)), (2, .ref (ga G k2z))]) hx hb dL_law_1623 hl (k := 3) rfl (congrArg (fun z => v3 + z) (by decide)) (by decide) rfl (fun ls hl => ?_)
    refine lv_goto (pc := 1626) (tgt := 18) hx hb dL_law_1626 (by decide) ?_
    exact ih1 _ _ _ _ _ hP hS (lv_sub hl [1, 2, 3, 0] rfl) h
  · have h := ineg c191 h
    refine lv_iconst (pc := 639) (v := 0) hx hb dL_law_639 (by decide) ?_
    exact absurd (inj2 h).1 (by decide)
set_option maxHeartbeats 4000000 in
set_option maxRecDepth 100000 in
theorem w_L_law_641 {l : Launch} {G : Gh} {p : Program} {e : Env} {s : State} {m : MethodId} {below : List Frame} {meth : Method} {c : Code} {b L : Nat} {xs : Nat → Int32} (X : Cx G p s m #[Value.ref b] meth c code RL 4 (some .boolean)) (XL : LawX G b L xs s) {k1z : Nat} {k2z : Nat} (hz1 : kd k1z = 9) (hz2 : kd k2z = 10) {σr : Mem} {rec1 : Int32 → Mem → Option (Int32 × Mem)} (ih1 : ∀ (v3 : Int32) (σ : Mem) (H : Heap) (locs : List Loc) (ls : Array Slot), PW G σ H → va_S (AA G) s.heap H locs → lv_has ls 4 [(0, .ref b), (1, .ref (ga G k1z)), (2, .ref (ga G k2z)), (3, .int v3)] → rec1 v3 σ = some ((1 : Int32), σr) → W p l e room_1 s m #[Value.ref b] below meth c H locs 127 1782 (lw_Z below #[Value.ref b] s) (F0 m 18 ls [])) : ∀ (v3 : Int32) (σ : Mem) (H : Heap) (locs : List Loc) (ls : Array Slot), PW G σ H → va_S (AA G) s.heap H locs → lv_has ls 4 [(0, .ref b), (1, .ref (ga G k1z)), (2, .ref (ga G k2z)), (3, .int v3)] → F_L_law_641 L xs k1z k2z rec1 v3 σ = some ((1 : Int32), σr) → W p l e room_1 s m #[Value.ref b] below meth c H locs 127 1782 (lw_Z below #[Value.ref b] s) (F0 m 641 ls []) := by
  have hx := X.hx
  have hb := X.hb
  intro v3 σ H locs ls hP hS hl h
  unfold F_L_law_641 at h
  refine lv_aload_n (pc := 641) hx hb dL_law_641 rfl (lv_at hl 1 rfl) ?_
  refine lv_aload_n (pc := 642) hx hb dL_law_642 rfl (lv_at hl 0 rfl) ?_
  refine lv_iload_n (pc := 643) hx hb dL_law_643 rfl (lv_at hl 3 rfl) ?_
  refine lv_iconst (pc := 644) (v := 1) hx hb dL_law_644 (by decide) ?_
  refine lv_iadd (pc := 645) hx hb dL_law_645 ?_
  obtain ⟨j193, hj194, h⟩ := bnd1 h
  refine r_sld (pc := 646) X XL hS hj194 dL_law_646 ?_
  refine lv_aload_n (pc := 647) hx hb dL_law_647 rfl (lv_at hl 0 rfl) ?_
  refine lv_iload_n (pc := 648) hx hb dL_law_648 rfl (lv_at hl 3 rfl) ?_
  refine lv_iconst (pc := 649) (v := 2) hx hb dL_law_649 (by decide) ?_
  refine lv_iadd (pc := 650) hx hb dL_law_650 ?_
  obtain ⟨j195, hj196, h⟩ := bnd1 h
  refine r_sld (pc := 651) X XL hS hj196 dL_law_651 ?_
  obtain ⟨r199, σ197, e198, h⟩ := bnd2 h
  refine cl_L_65 X hP hS hz1 (As := [.int (xs j193), .int (xs j195)]) (rest := []) (c_X9_limit l G hz1 e198) ⟨rfl, rfl, Nat.le_of_ble_eq_true rfl, Nat.le_of_ble_eq_true rfl⟩ rfl hl.1 rfl (Nat.le_of_ble_eq_true rfl) ⟨Nat.le_of_ble_eq_true rfl, Nat.le_of_ble_eq_true rfl⟩ (pc := 652) dL_law_652 (fun H locs hP hS => ?_)
  change W p l e _ s m _ below meth c H locs _ _ _ (F0 m (652 + 3) ls (.int r199 :: []))
  refine lv_aload_n (pc := 655) hx hb dL_law_655 rfl (lv_at hl 2 rfl) ?_
  refine lv_aload_n (pc := 656) hx hb dL_law_656 rfl (lv_at hl 0 rfl) ?_
  refine lv_iload_n (pc := 657) hx hb dL_law_657 rfl (lv_at hl 3 rfl) ?_
  refine lv_iconst (pc := 658) (v := 1) hx hb dL_law_658 (by decide) ?_
  refine lv_iadd (pc := 659) hx hb dL_law_659 ?_
  obtain ⟨j200, hj201, h⟩ := bnd1 h
  refine r_sld (pc := 660) X XL hS hj201 dL_law_660 ?_
  refine lv_aload_n (pc := 661) hx hb dL_law_661 rfl (lv_at hl 0 rfl) ?_
  refine lv_iload_n (pc := 662) hx hb dL_law_662 rfl (lv_at hl 3 rfl) ?_
  refine lv_iconst (pc := 663) (v := 2) hx hb dL_law_663 (by decide) ?_
  refine lv_iadd (pc := 664) hx hb dL_law_664 ?_
  obtain ⟨j202, hj203, h⟩ := bnd1 h
  refine r_sld (pc := 665) X XL hS hj203 dL_law_665 ?_
  obtain ⟨r206, σ204, e205, h⟩ := bnd2 h
  refine cl_L_68 X hP hS hz2 (As := [.int (xs j200), .int (xs j202)]) (rest := [.int r199]) (c_X10_limit l G hz2 e205) ⟨rfl, rfl, Nat.le_of_ble_eq_true rfl, Nat.le_of_ble_eq_true rfl⟩ rfl hl.1 rfl (Nat.le_of_ble_eq_true rfl) ⟨Nat.le_of_ble_eq_true rfl, Nat.le_of_ble_eq_true rfl⟩ (pc := 666) dL_law_666 (fun H locs hP hS => ?_)
  change W p l e _ s m _ below meth c H locs _ _ _ (F0 m (666 + 3) ls (.int r206 :: [.int r199]))
  refine lv_icmp_eq (pc := 669) (tgt := 1623) hx hb dL_law_669 (by decide) (fun c207 => ?_) (fun c207 => ?_)
  · have h := ipos c207 h
    refine lv_iinc (pc := 1623) (v := (v3 + (5 : Int32))) (lv' := [(3, .int (v3 + (5 : Int32))), (0, .ref b), (1, .ref (ga G k1z)), (2, .ref (ga G k2z))]) hx hb dL_law_1623 hl (k := 3) rfl (congrArg (fun z => v3 + z) (by decide)) (by decide) rfl (fun ls hl => ?_)
    refine lv_goto (pc := 1626) (tgt := 18) hx hb dL_law_1626 (by decide) ?_
    exact ih1 _ _ _ _ _ hP hS (lv_sub hl [1, 2, 3, 0] rfl) h
  · have h := ineg c207 h
    refine lv_iconst (pc := 672) (v := 0) hx hb dL_law_672 (by decide) ?_
    exact absurd (inj2 h).1 (by decide)
set_option maxHeartbeats 4000000 in
set_option maxRecDepth 100000 in
theorem w_L_law_674 {l : Launch} {G : Gh} {p : Program} {e : Env} {s : State} {m : MethodId} {below : List Frame} {meth : Method} {c : Code} {b L : Nat} {xs : Nat → Int32} (X : Cx G p s m #[Value.ref b] meth c code RL 4 (some .boolean)) (XL : LawX G b L xs s) {k1z : Nat} {k2z : Nat} (hz1 : kd k1z = 9) (hz2 : kd k2z = 10) {σr : Mem} {rec1 : Int32 → Mem → Option (Int32 × Mem)} (ih1 : ∀ (v3 : Int32) (σ : Mem) (H : Heap) (locs : List Loc) (ls : Array Slot), PW G σ H → va_S (AA G) s.heap H locs → lv_has ls 4 [(0, .ref b), (1, .ref (ga G k1z)), (2, .ref (ga G k2z)), (3, .int v3)] → rec1 v3 σ = some ((1 : Int32), σr) → W p l e room_1 s m #[Value.ref b] below meth c H locs 127 1782 (lw_Z below #[Value.ref b] s) (F0 m 18 ls [])) : ∀ (v3 : Int32) (σ : Mem) (H : Heap) (locs : List Loc) (ls : Array Slot), PW G σ H → va_S (AA G) s.heap H locs → lv_has ls 4 [(0, .ref b), (1, .ref (ga G k1z)), (2, .ref (ga G k2z)), (3, .int v3)] → F_L_law_674 L xs k1z k2z rec1 v3 σ = some ((1 : Int32), σr) → W p l e room_1 s m #[Value.ref b] below meth c H locs 127 1782 (lw_Z below #[Value.ref b] s) (F0 m 674 ls []) := by
  have hx := X.hx
  have hb := X.hb
  intro v3 σ H locs ls hP hS hl h
  unfold F_L_law_674 at h
  refine lv_aload_n (pc := 674) hx hb dL_law_674 rfl (lv_at hl 1 rfl) ?_
  refine lv_aload_n (pc := 675) hx hb dL_law_675 rfl (lv_at hl 0 rfl) ?_
  refine lv_iload_n (pc := 676) hx hb dL_law_676 rfl (lv_at hl 3 rfl) ?_
  refine lv_iconst (pc := 677) (v := 1) hx hb dL_law_677 (by decide) ?_
  refine lv_iadd (pc := 678) hx hb dL_law_678 ?_
  obtain ⟨j209, hj210, h⟩ := bnd1 h
  refine r_sld (pc := 679) X XL hS hj210 dL_law_679 ?_
  obtain ⟨r213, σ211, e212, h⟩ := bnd2 h
  refine cl_L_69 X hP hS hz1 (As := [.int (xs j209)]) (rest := []) (c_X9_light l G hz1 e212) ⟨rfl, rfl, Nat.le_of_ble_eq_true rfl, Nat.le_of_ble_eq_true rfl⟩ rfl hl.1 rfl (Nat.le_of_ble_eq_true rfl) ⟨Nat.le_of_ble_eq_true rfl, Nat.le_of_ble_eq_true rfl⟩ (pc := 680) dL_law_680 (fun H locs hP hS => ?_)
  change W p l e _ s m _ below meth c H locs _ _ _ (F0 m (680 + 3) ls (.int r213 :: []))
  refine lv_aload_n (pc := 683) hx hb dL_law_683 rfl (lv_at hl 2 rfl) ?_
  refine lv_aload_n (pc := 684) hx hb dL_law_684 rfl (lv_at hl 0 rfl) ?_
  refine lv_iload_n (pc := 685) hx hb dL_law_685 rfl (lv_at hl 3 rfl) ?_
  refine lv_iconst (pc := 686) (v := 1) hx hb dL_law_686 (by decide) ?_
  refine lv_iadd (pc := 687) hx hb dL_law_687 ?_
  obtain ⟨j214, hj215, h⟩ := bnd1 h
  refine r_sld (pc := 688) X XL hS hj215 dL_law_688 ?_
  obtain ⟨r218, σ216, e217, h⟩ := bnd2 h
  refine cl_L_72 X hP hS hz2 (As := [.int (xs j214)]) (rest := [.int r213]) (c_X10_light l G hz2 e217) ⟨rfl, rfl, Nat.le_of_ble_eq_true rfl, Nat.le_of_ble_eq_true rfl⟩ rfl hl.1 rfl (Nat.le_of_ble_eq_true rfl) ⟨Nat.le_of_ble_eq_true rfl, Nat.le_of_ble_eq_true rfl⟩ (pc := 689) dL_law_689 (fun H locs hP hS => ?_)
  change W p l e _ s m _ below meth c H locs _ _ _ (F0 m (689 + 3) ls (.int r218 :: [.int r213]))
  refine lv_icmp_eq (pc := 692) (tgt := 1623) hx hb dL_law_692 (by decide) (fun c219 => ?_) (fun c219 => ?_)
  · have h := ipos c219 h
    refine lv_iinc (pc := 1623) (v := (v3 + (5 : Int32))) (lv' := [(3, .int (v3 + (5 : Int32))), (0, .ref b), (1, .ref (ga G k1z)), (2, .ref (ga G k2z))]) hx hb dL_law_1623 hl (k := 3) rfl (congrArg (fun z => v3 + z) (by decide)) (by decide) rfl (fun ls hl => ?_)
    refine lv_goto (pc := 1626) (tgt := 18) hx hb dL_law_1626 (by decide) ?_
    exact ih1 _ _ _ _ _ hP hS (lv_sub hl [1, 2, 3, 0] rfl) h
  · have h := ineg c219 h
    refine lv_iconst (pc := 695) (v := 0) hx hb dL_law_695 (by decide) ?_
    exact absurd (inj2 h).1 (by decide)
set_option maxHeartbeats 4000000 in
set_option maxRecDepth 100000 in
theorem w_L_law_697 {l : Launch} {G : Gh} {p : Program} {e : Env} {s : State} {m : MethodId} {below : List Frame} {meth : Method} {c : Code} {b L : Nat} {xs : Nat → Int32} (X : Cx G p s m #[Value.ref b] meth c code RL 4 (some .boolean)) (XL : LawX G b L xs s) {k1z : Nat} {k2z : Nat} (hz1 : kd k1z = 9) (hz2 : kd k2z = 10) {σr : Mem} {rec1 : Int32 → Mem → Option (Int32 × Mem)} (ih1 : ∀ (v3 : Int32) (σ : Mem) (H : Heap) (locs : List Loc) (ls : Array Slot), PW G σ H → va_S (AA G) s.heap H locs → lv_has ls 4 [(0, .ref b), (1, .ref (ga G k1z)), (2, .ref (ga G k2z)), (3, .int v3)] → rec1 v3 σ = some ((1 : Int32), σr) → W p l e room_1 s m #[Value.ref b] below meth c H locs 127 1782 (lw_Z below #[Value.ref b] s) (F0 m 18 ls [])) : ∀ (v3 : Int32) (σ : Mem) (H : Heap) (locs : List Loc) (ls : Array Slot), PW G σ H → va_S (AA G) s.heap H locs → lv_has ls 4 [(0, .ref b), (1, .ref (ga G k1z)), (2, .ref (ga G k2z)), (3, .int v3)] → F_L_law_697 L xs k1z k2z rec1 v3 σ = some ((1 : Int32), σr) → W p l e room_1 s m #[Value.ref b] below meth c H locs 127 1782 (lw_Z below #[Value.ref b] s) (F0 m 697 ls []) := by
  have hx := X.hx
  have hb := X.hb
  intro v3 σ H locs ls hP hS hl h
  unfold F_L_law_697 at h
  refine lv_aload_n (pc := 697) hx hb dL_law_697 rfl (lv_at hl 1 rfl) ?_
  refine lv_aload_n (pc := 698) hx hb dL_law_698 rfl (lv_at hl 0 rfl) ?_
  refine lv_iload_n (pc := 699) hx hb dL_law_699 rfl (lv_at hl 3 rfl) ?_
  refine lv_iconst (pc := 700) (v := 1) hx hb dL_law_700 (by decide) ?_
  refine lv_iadd (pc := 701) hx hb dL_law_701 ?_
  obtain ⟨j221, hj222, h⟩ := bnd1 h
  refine r_sld (pc := 702) X XL hS hj222 dL_law_702 ?_
  obtain ⟨r225, σ223, e224, h⟩ := bnd2 h
  refine cl_L_73 X hP hS hz1 (As := [.int (xs j221)]) (rest := []) (c_X9_now l G hz1 e224) ⟨rfl, rfl, Nat.le_of_ble_eq_true rfl, Nat.le_of_ble_eq_true rfl⟩ rfl hl.1 rfl (Nat.le_of_ble_eq_true rfl) ⟨Nat.le_of_ble_eq_true rfl, Nat.le_of_ble_eq_true rfl⟩ (pc := 703) dL_law_703 (fun H locs hP hS => ?_)
  change W p l e _ s m _ below meth c H locs _ _ _ (F0 m (703 + 3) ls (.int r225 :: []))
  refine lv_aload_n (pc := 706) hx hb dL_law_706 rfl (lv_at hl 2 rfl) ?_
  refine lv_aload_n (pc := 707) hx hb dL_law_707 rfl (lv_at hl 0 rfl) ?_
  refine lv_iload_n (pc := 708) hx hb dL_law_708 rfl (lv_at hl 3 rfl) ?_
  refine lv_iconst (pc := 709) (v := 1) hx hb dL_law_709 (by decide) ?_
  refine lv_iadd (pc := 710) hx hb dL_law_710 ?_
  obtain ⟨j226, hj227, h⟩ := bnd1 h
  refine r_sld (pc := 711) X XL hS hj227 dL_law_711 ?_
  obtain ⟨r230, σ228, e229, h⟩ := bnd2 h
  refine cl_L_76 X hP hS hz2 (As := [.int (xs j226)]) (rest := [.int r225]) (c_X10_now l G hz2 e229) ⟨rfl, rfl, Nat.le_of_ble_eq_true rfl, Nat.le_of_ble_eq_true rfl⟩ rfl hl.1 rfl (Nat.le_of_ble_eq_true rfl) ⟨Nat.le_of_ble_eq_true rfl, Nat.le_of_ble_eq_true rfl⟩ (pc := 712) dL_law_712 (fun H locs hP hS => ?_)
  change W p l e _ s m _ below meth c H locs _ _ _ (F0 m (712 + 3) ls (.int r230 :: [.int r225]))
  refine lv_icmp_eq (pc := 715) (tgt := 1623) hx hb dL_law_715 (by decide) (fun c231 => ?_) (fun c231 => ?_)
  · have h := ipos c231 h
    refine lv_iinc (pc := 1623) (v := (v3 + (5 : Int32))) (lv' := [(3, .int (v3 + (5 : Int32))), (0, .ref b), (1, .ref (ga G k1z)), (2, .ref (ga G k2z))]) hx hb dL_law_1623 hl (k := 3) rfl (congrArg (fun z => v3 + z) (by decide)) (by decide) rfl (fun ls hl => ?_)
    refine lv_goto (pc := 1626) (tgt := 18) hx hb dL_law_1626 (by decide) ?_
    exact ih1 _ _ _ _ _ hP hS (lv_sub hl [1, 2, 3, 0] rfl) h
  · have h := ineg c231 h
    refine lv_iconst (pc := 718) (v := 0) hx hb dL_law_718 (by decide) ?_
    exact absurd (inj2 h).1 (by decide)
set_option maxHeartbeats 4000000 in
set_option maxRecDepth 100000 in
theorem w_L_law_720 {l : Launch} {G : Gh} {p : Program} {e : Env} {s : State} {m : MethodId} {below : List Frame} {meth : Method} {c : Code} {b L : Nat} {xs : Nat → Int32} (X : Cx G p s m #[Value.ref b] meth c code RL 4 (some .boolean)) (XL : LawX G b L xs s) {k1z : Nat} {k2z : Nat} (hz1 : kd k1z = 9) (hz2 : kd k2z = 10) {σr : Mem} {rec1 : Int32 → Mem → Option (Int32 × Mem)} (ih1 : ∀ (v3 : Int32) (σ : Mem) (H : Heap) (locs : List Loc) (ls : Array Slot), PW G σ H → va_S (AA G) s.heap H locs → lv_has ls 4 [(0, .ref b), (1, .ref (ga G k1z)), (2, .ref (ga G k2z)), (3, .int v3)] → rec1 v3 σ = some ((1 : Int32), σr) → W p l e room_1 s m #[Value.ref b] below meth c H locs 127 1782 (lw_Z below #[Value.ref b] s) (F0 m 18 ls [])) : ∀ (v3 : Int32) (σ : Mem) (H : Heap) (locs : List Loc) (ls : Array Slot), PW G σ H → va_S (AA G) s.heap H locs → lv_has ls 4 [(0, .ref b), (1, .ref (ga G k1z)), (2, .ref (ga G k2z)), (3, .int v3)] → F_L_law_720 L xs k1z k2z rec1 v3 σ = some ((1 : Int32), σr) → W p l e room_1 s m #[Value.ref b] below meth c H locs 127 1782 (lw_Z below #[Value.ref b] s) (F0 m 720 ls []) := by
  have hx := X.hx
  have hb := X.hb
  intro v3 σ H locs ls hP hS hl h
  unfold F_L_law_720 at h
  refine lv_aload_n (pc := 720) hx hb dL_law_720 rfl (lv_at hl 1 rfl) ?_
  refine lv_aload_n (pc := 721) hx hb dL_law_721 rfl (lv_at hl 0 rfl) ?_
  refine lv_iload_n (pc := 722) hx hb dL_law_722 rfl (lv_at hl 3 rfl) ?_
  refine lv_iconst (pc := 723) (v := 1) hx hb dL_law_723 (by decide) ?_
  refine lv_iadd (pc := 724) hx hb dL_law_724 ?_
  obtain ⟨j233, hj234, h⟩ := bnd1 h
  refine r_sld (pc := 725) X XL hS hj234 dL_law_725 ?_
  obtain ⟨r237, σ235, e236, h⟩ := bnd2 h
  refine cl_L_77 X hP hS hz1 (As := [.int (xs j233)]) (rest := []) (c_X9_would l G hz1 e236) ⟨rfl, rfl, Nat.le_of_ble_eq_true rfl, Nat.le_of_ble_eq_true rfl⟩ rfl hl.1 rfl (Nat.le_of_ble_eq_true rfl) ⟨Nat.le_of_ble_eq_true rfl, Nat.le_of_ble_eq_true rfl⟩ (pc := 726) dL_law_726 (fun H locs hP hS => ?_)
  change W p l e _ s m _ below meth c H locs _ _ _ (F0 m (726 + 3) ls (.int r237 :: []))
  refine lv_aload_n (pc := 729) hx hb dL_law_729 rfl (lv_at hl 2 rfl) ?_
  refine lv_aload_n (pc := 730) hx hb dL_law_730 rfl (lv_at hl 0 rfl) ?_
  refine lv_iload_n (pc := 731) hx hb dL_law_731 rfl (lv_at hl 3 rfl) ?_
  refine lv_iconst (pc := 732) (v := 1) hx hb dL_law_732 (by decide) ?_
  refine lv_iadd (pc := 733) hx hb dL_law_733 ?_
  obtain ⟨j238, hj239, h⟩ := bnd1 h
  refine r_sld (pc := 734) X XL hS hj239 dL_law_734 ?_
  obtain ⟨r242, σ240, e241, h⟩ := bnd2 h
  refine cl_L_80 X hP hS hz2 (As := [.int (xs j238)]) (rest := [.int r237]) (c_X10_would l G hz2 e241) ⟨rfl, rfl, Nat.le_of_ble_eq_true rfl, Nat.le_of_ble_eq_true rfl⟩ rfl hl.1 rfl (Nat.le_of_ble_eq_true rfl) ⟨Nat.le_of_ble_eq_true rfl, Nat.le_of_ble_eq_true rfl⟩ (pc := 735) dL_law_735 (fun H locs hP hS => ?_)
  change W p l e _ s m _ below meth c H locs _ _ _ (F0 m (735 + 3) ls (.int r242 :: [.int r237]))
  refine lv_icmp_eq (pc := 738) (tgt := 1623) hx hb dL_law_738 (by decide) (fun c243 => ?_) (fun c243 => ?_)
  · have h := ipos c243 h
    refine lv_iinc (pc := 1623) (v := (v3 + (5 : Int32))) (lv' := [(3, .int (v3 + (5 : Int32))), (0, .ref b), (1, .ref (ga G k1z)), (2, .ref (ga G k2z))]) hx hb dL_law_1623 hl (k := 3) rfl (congrArg (fun z => v3 + z) (by decide)) (by decide) rfl (fun ls hl => ?_)
    refine lv_goto (pc := 1626) (tgt := 18) hx hb dL_law_1626 (by decide) ?_
    exact ih1 _ _ _ _ _ hP hS (lv_sub hl [1, 2, 3, 0] rfl) h
  · have h := ineg c243 h
    refine lv_iconst (pc := 741) (v := 0) hx hb dL_law_741 (by decide) ?_
    exact absurd (inj2 h).1 (by decide)
set_option maxHeartbeats 4000000 in
set_option maxRecDepth 100000 in
theorem w_L_law_743 {l : Launch} {G : Gh} {p : Program} {e : Env} {s : State} {m : MethodId} {below : List Frame} {meth : Method} {c : Code} {b L : Nat} {xs : Nat → Int32} (X : Cx G p s m #[Value.ref b] meth c code RL 4 (some .boolean)) (XL : LawX G b L xs s) {k1z : Nat} {k2z : Nat} (hz1 : kd k1z = 9) (hz2 : kd k2z = 10) {σr : Mem} {rec1 : Int32 → Mem → Option (Int32 × Mem)} (ih1 : ∀ (v3 : Int32) (σ : Mem) (H : Heap) (locs : List Loc) (ls : Array Slot), PW G σ H → va_S (AA G) s.heap H locs → lv_has ls 4 [(0, .ref b), (1, .ref (ga G k1z)), (2, .ref (ga G k2z)), (3, .int v3)] → rec1 v3 σ = some ((1 : Int32), σr) → W p l e room_1 s m #[Value.ref b] below meth c H locs 127 1782 (lw_Z below #[Value.ref b] s) (F0 m 18 ls [])) : ∀ (v3 : Int32) (σ : Mem) (H : Heap) (locs : List Loc) (ls : Array Slot), PW G σ H → va_S (AA G) s.heap H locs → lv_has ls 4 [(0, .ref b), (1, .ref (ga G k1z)), (2, .ref (ga G k2z)), (3, .int v3)] → F_L_law_743 L xs k1z k2z rec1 v3 σ = some ((1 : Int32), σr) → W p l e room_1 s m #[Value.ref b] below meth c H locs 127 1782 (lw_Z below #[Value.ref b] s) (F0 m 743 ls []) := by
  have hx := X.hx
  have hb := X.hb
  intro v3 σ H locs ls hP hS hl h
  unfold F_L_law_743 at h
  refine lv_aload_n (pc := 743) hx hb dL_law_743 rfl (lv_at hl 1 rfl) ?_
  refine lv_aload_n (pc := 744) hx hb dL_law_744 rfl (lv_at hl 0 rfl) ?_
  refine lv_iload_n (pc := 745) hx hb dL_law_745 rfl (lv_at hl 3 rfl) ?_
  refine lv_iconst (pc := 746) (v := 1) hx hb dL_law_746 (by decide) ?_
  refine lv_iadd (pc := 747) hx hb dL_law_747 ?_
  obtain ⟨j245, hj246, h⟩ := bnd1 h
  refine r_sld (pc := 748) X XL hS hj246 dL_law_748 ?_
  obtain ⟨r249, σ247, e248, h⟩ := bnd2 h
  refine cl_L_81 X hP hS hz1 (As := [.int (xs j245)]) (rest := []) (c_X9_ticks l G hz1 e248) ⟨rfl, rfl, Nat.le_of_ble_eq_true rfl, Nat.le_of_ble_eq_true rfl⟩ rfl hl.1 rfl (Nat.le_of_ble_eq_true rfl) ⟨Nat.le_of_ble_eq_true rfl, Nat.le_of_ble_eq_true rfl⟩ (pc := 749) dL_law_749 (fun H locs hP hS => ?_)
  change W p l e _ s m _ below meth c H locs _ _ _ (F0 m (749 + 3) ls (.int r249 :: []))
  refine lv_aload_n (pc := 752) hx hb dL_law_752 rfl (lv_at hl 2 rfl) ?_
  refine lv_aload_n (pc := 753) hx hb dL_law_753 rfl (lv_at hl 0 rfl) ?_
  refine lv_iload_n (pc := 754) hx hb dL_law_754 rfl (lv_at hl 3 rfl) ?_
  refine lv_iconst (pc := 755) (v := 1) hx hb dL_law_755 (by decide) ?_
  refine lv_iadd (pc := 756) hx hb dL_law_756 ?_
  obtain ⟨j250, hj251, h⟩ := bnd1 h
  refine r_sld (pc := 757) X XL hS hj251 dL_law_757 ?_
  obtain ⟨r254, σ252, e253, h⟩ := bnd2 h
  refine cl_L_84 X hP hS hz2 (As := [.int (xs j250)]) (rest := [.int r249]) (c_X10_ticks l G hz2 e253) ⟨rfl, rfl, Nat.le_of_ble_eq_true rfl, Nat.le_of_ble_eq_true rfl⟩ rfl hl.1 rfl (Nat.le_of_ble_eq_true rfl) ⟨Nat.le_of_ble_eq_true rfl, Nat.le_of_ble_eq_true rfl⟩ (pc := 758) dL_law_758 (fun H locs hP hS => ?_)
  change W p l e _ s m _ below meth c H locs _ _ _ (F0 m (758 + 3) ls (.int r254 :: [.int r249]))
  refine lv_icmp_eq (pc := 761) (tgt := 1623) hx hb dL_law_761 (by decide) (fun c255 => ?_) (fun c255 => ?_)
  · have h := ipos c255 h
    refine lv_iinc (pc := 1623) (v := (v3 + (5 : Int32))) (lv' := [(3, .int (v3 + (5 : Int32))), (0, .ref b), (1, .ref (ga G k1z)), (2, .ref (ga G k2z))]) hx hb dL_law_1623 hl (k := 3) rfl (congrArg (fun z => v3 + z) (by decide)) (by decide) rfl (fun ls hl => ?_)
    refine lv_goto (pc := 1626) (tgt := 18) hx hb dL_law_1626 (by decide) ?_
    exact ih1 _ _ _ _ _ hP hS (lv_sub hl [1, 2, 3, 0] rfl) h
  · have h := ineg c255 h
    refine lv_iconst (pc := 764) (v := 0) hx hb dL_law_764 (by decide) ?_
    exact absurd (inj2 h).1 (by decide)
set_option maxHeartbeats 4000000 in
set_option maxRecDepth 100000 in
theorem w_L_law_766 {l : Launch} {G : Gh} {p : Program} {e : Env} {s : State} {m : MethodId} {below : List Frame} {meth : Method} {c : Code} {b L : Nat} {xs : Nat → Int32} (X : Cx G p s m #[Value.ref b] meth c code RL 4 (some .boolean)) (XL : LawX G b L xs s) {k1z : Nat} {k2z : Nat} (hz1 : kd k1z = 9) (hz2 : kd k2z = 10) {σr : Mem} {rec1 : Int32 → Mem → Option (Int32 × Mem)} (ih1 : ∀ (v3 : Int32) (σ : Mem) (H : Heap) (locs : List Loc) (ls : Array Slot), PW G σ H → va_S (AA G) s.heap H locs → lv_has ls 4 [(0, .ref b), (1, .ref (ga G k1z)), (2, .ref (ga G k2z)), (3, .int v3)] → rec1 v3 σ = some ((1 : Int32), σr) → W p l e room_1 s m #[Value.ref b] below meth c H locs 127 1782 (lw_Z below #[Value.ref b] s) (F0 m 18 ls [])) : ∀ (v3 : Int32) (σ : Mem) (H : Heap) (locs : List Loc) (ls : Array Slot), PW G σ H → va_S (AA G) s.heap H locs → lv_has ls 4 [(0, .ref b), (1, .ref (ga G k1z)), (2, .ref (ga G k2z)), (3, .int v3)] → F_L_law_766 L xs k1z k2z rec1 v3 σ = some ((1 : Int32), σr) → W p l e room_1 s m #[Value.ref b] below meth c H locs 127 1782 (lw_Z below #[Value.ref b] s) (F0 m 766 ls []) := by
  have hx := X.hx
  have hb := X.hb
  intro v3 σ H locs ls hP hS hl h
  unfold F_L_law_766 at h
  refine lv_aload_n (pc := 766) hx hb dL_law_766 rfl (lv_at hl 1 rfl) ?_
  refine lv_aload_n (pc := 767) hx hb dL_law_767 rfl (lv_at hl 0 rfl) ?_
  refine lv_iload_n (pc := 768) hx hb dL_law_768 rfl (lv_at hl 3 rfl) ?_
  refine lv_iconst (pc := 769) (v := 1) hx hb dL_law_769 (by decide) ?_
  refine lv_iadd (pc := 770) hx hb dL_law_770 ?_
  obtain ⟨j257, hj258, h⟩ := bnd1 h
  refine r_sld (pc := 771) X XL hS hj258 dL_law_771 ?_
  refine lv_aload_n (pc := 772) hx hb dL_law_772 rfl (lv_at hl 0 rfl) ?_
  refine lv_iload_n (pc := 773) hx hb dL_law_773 rfl (lv_at hl 3 rfl) ?_
  refine lv_iconst (pc := 774) (v := 2) hx hb dL_law_774 (by decide) ?_
  refine lv_iadd (pc := 775) hx hb dL_law_775 ?_
  obtain ⟨j259, hj260, h⟩ := bnd1 h
  refine r_sld (pc := 776) X XL hS hj260 dL_law_776 ?_
  obtain ⟨r263, σ261, e262, h⟩ := bnd2 h
  refine cl_L_85 X hP hS hz1 (As := [.int (xs j257), .int (xs j259)]) (rest := []) (c_X9_call l G hz1 e262) ⟨rfl, rfl, Nat.le_of_ble_eq_true rfl, Nat.le_of_ble_eq_true rfl⟩ rfl hl.1 rfl (Nat.le_of_ble_eq_true rfl) ⟨Nat.le_of_ble_eq_true rfl, Nat.le_of_ble_eq_true rfl⟩ (pc := 777) dL_law_777 (fun H locs hP hS => ?_)
  change W p l e _ s m _ below meth c H locs _ _ _ (F0 m (777 + 3) ls (.int r263 :: []))
  refine lv_aload_n (pc := 780) hx hb dL_law_780 rfl (lv_at hl 2 rfl) ?_
  refine lv_aload_n (pc := 781) hx hb dL_law_781 rfl (lv_at hl 0 rfl) ?_
  refine lv_iload_n (pc := 782) hx hb dL_law_782 rfl (lv_at hl 3 rfl) ?_
  refine lv_iconst (pc := 783) (v := 1) hx hb dL_law_783 (by decide) ?_
  refine lv_iadd (pc := 784) hx hb dL_law_784 ?_
  obtain ⟨j264, hj265, h⟩ := bnd1 h
  refine r_sld (pc := 785) X XL hS hj265 dL_law_785 ?_
  refine lv_aload_n (pc := 786) hx hb dL_law_786 rfl (lv_at hl 0 rfl) ?_
  refine lv_iload_n (pc := 787) hx hb dL_law_787 rfl (lv_at hl 3 rfl) ?_
  refine lv_iconst (pc := 788) (v := 2) hx hb dL_law_788 (by decide) ?_
  refine lv_iadd (pc := 789) hx hb dL_law_789 ?_
  obtain ⟨j266, hj267, h⟩ := bnd1 h
  refine r_sld (pc := 790) X XL hS hj267 dL_law_790 ?_
  obtain ⟨r270, σ268, e269, h⟩ := bnd2 h
  refine cl_L_88 X hP hS hz2 (As := [.int (xs j264), .int (xs j266)]) (rest := [.int r263]) (c_X10_call l G hz2 e269) ⟨rfl, rfl, Nat.le_of_ble_eq_true rfl, Nat.le_of_ble_eq_true rfl⟩ rfl hl.1 rfl (Nat.le_of_ble_eq_true rfl) ⟨Nat.le_of_ble_eq_true rfl, Nat.le_of_ble_eq_true rfl⟩ (pc := 791) dL_law_791 (fun H locs hP hS => ?_)
  change W p l e _ s m _ below meth c H locs _ _ _ (F0 m (791 + 3) ls (.int r270 :: [.int r263]))
  refine lv_icmp_eq (pc := 794) (tgt := 1623) hx hb dL_law_794 (by decide) (fun c271 => ?_) (fun c271 => ?_)
  · have h := ipos c271 h
    refine lv_iinc (pc := 1623) (v := (v3 + (5 : Int32))) (lv' := [(3, .int (v3 + (5 : Int32))), (0, .ref b), (1, .ref (ga G k1z)), (2, .ref (ga G k2z))]) hx hb dL_law_1623 hl (k := 3) rfl (congrArg (fun z => v3 + z) (by decide)) (by decide) rfl (fun ls hl => ?_)
    refine lv_goto (pc := 1626) (tgt := 18) hx hb dL_law_1626 (by decide) ?_
    exact ih1 _ _ _ _ _ hP hS (lv_sub hl [1, 2, 3, 0] rfl) h
  · have h := ineg c271 h
    refine lv_iconst (pc := 797) (v := 0) hx hb dL_law_797 (by decide) ?_
    exact absurd (inj2 h).1 (by decide)
set_option maxHeartbeats 4000000 in
set_option maxRecDepth 100000 in
theorem w_L_law_799 {l : Launch} {G : Gh} {p : Program} {e : Env} {s : State} {m : MethodId} {below : List Frame} {meth : Method} {c : Code} {b L : Nat} {xs : Nat → Int32} (X : Cx G p s m #[Value.ref b] meth c code RL 4 (some .boolean)) (XL : LawX G b L xs s) {k1z : Nat} {k2z : Nat} (hz1 : kd k1z = 9) (hz2 : kd k2z = 10) {σr : Mem} {rec1 : Int32 → Mem → Option (Int32 × Mem)} (ih1 : ∀ (v3 : Int32) (σ : Mem) (H : Heap) (locs : List Loc) (ls : Array Slot), PW G σ H → va_S (AA G) s.heap H locs → lv_has ls 4 [(0, .ref b), (1, .ref (ga G k1z)), (2, .ref (ga G k2z)), (3, .int v3)] → rec1 v3 σ = some ((1 : Int32), σr) → W p l e room_1 s m #[Value.ref b] below meth c H locs 127 1782 (lw_Z below #[Value.ref b] s) (F0 m 18 ls [])) : ∀ (v3 : Int32) (σ : Mem) (H : Heap) (locs : List Loc) (ls : Array Slot), PW G σ H → va_S (AA G) s.heap H locs → lv_has ls 4 [(0, .ref b), (1, .ref (ga G k1z)), (2, .ref (ga G k2z)), (3, .int v3)] → F_L_law_799 L xs k1z k2z rec1 v3 σ = some ((1 : Int32), σr) → W p l e room_1 s m #[Value.ref b] below meth c H locs 127 1782 (lw_Z below #[Value.ref b] s) (F0 m 799 ls []) := by
  have hx := X.hx
  have hb := X.hb
  intro v3 σ H locs ls hP hS hl h
  unfold F_L_law_799 at h
  refine lv_aload_n (pc := 799) hx hb dL_law_799 rfl (lv_at hl 1 rfl) ?_
  obtain ⟨r275, σ273, e274, h⟩ := bnd2 h
  refine cl_L_89 X hP hS hz1 (As := []) (rest := []) (c_X9_snuff l G hz1 e274) ⟨rfl, rfl, Nat.le_of_ble_eq_true rfl, Nat.le_of_ble_eq_true rfl⟩ rfl hl.1 rfl (Nat.le_of_ble_eq_true rfl) ⟨Nat.le_of_ble_eq_true rfl, Nat.le_of_ble_eq_true rfl⟩ (pc := 800) dL_law_800 (fun H locs hP hS => ?_)
  change W p l e _ s m _ below meth c H locs _ _ _ (F0 m (800 + 3) ls (.int r275 :: []))
  refine lv_aload_n (pc := 803) hx hb dL_law_803 rfl (lv_at hl 2 rfl) ?_
  obtain ⟨r278, σ276, e277, h⟩ := bnd2 h
  refine cl_L_92 X hP hS hz2 (As := []) (rest := [.int r275]) (c_X10_snuff l G hz2 e277) ⟨rfl, rfl, Nat.le_of_ble_eq_true rfl, Nat.le_of_ble_eq_true rfl⟩ rfl hl.1 rfl (Nat.le_of_ble_eq_true rfl) ⟨Nat.le_of_ble_eq_true rfl, Nat.le_of_ble_eq_true rfl⟩ (pc := 804) dL_law_804 (fun H locs hP hS => ?_)
  change W p l e _ s m _ below meth c H locs _ _ _ (F0 m (804 + 3) ls (.int r278 :: [.int r275]))
  refine lv_icmp_eq (pc := 807) (tgt := 1623) hx hb dL_law_807 (by decide) (fun c279 => ?_) (fun c279 => ?_)
  · have h := ipos c279 h
    refine lv_iinc (pc := 1623) (v := (v3 + (5 : Int32))) (lv' := [(3, .int (v3 + (5 : Int32))), (0, .ref b), (1, .ref (ga G k1z)), (2, .ref (ga G k2z))]) hx hb dL_law_1623 hl (k := 3) rfl (congrArg (fun z => v3 + z) (by decide)) (by decide) rfl (fun ls hl => ?_)
    refine lv_goto (pc := 1626) (tgt := 18) hx hb dL_law_1626 (by decide) ?_
    exact ih1 _ _ _ _ _ hP hS (lv_sub hl [1, 2, 3, 0] rfl) h
  · have h := ineg c279 h
    refine lv_iconst (pc := 810) (v := 0) hx hb dL_law_810 (by decide) ?_
    exact absurd (inj2 h).1 (by decide)
set_option maxHeartbeats 4000000 in
set_option maxRecDepth 100000 in
theorem w_L_law_812 {l : Launch} {G : Gh} {p : Program} {e : Env} {s : State} {m : MethodId} {below : List Frame} {meth : Method} {c : Code} {b L : Nat} {xs : Nat → Int32} (X : Cx G p s m #[Value.ref b] meth c code RL 4 (some .boolean)) (XL : LawX G b L xs s) {k1z : Nat} {k2z : Nat} (hz1 : kd k1z = 9) (hz2 : kd k2z = 10) {σr : Mem} {rec1 : Int32 → Mem → Option (Int32 × Mem)} (ih1 : ∀ (v3 : Int32) (σ : Mem) (H : Heap) (locs : List Loc) (ls : Array Slot), PW G σ H → va_S (AA G) s.heap H locs → lv_has ls 4 [(0, .ref b), (1, .ref (ga G k1z)), (2, .ref (ga G k2z)), (3, .int v3)] → rec1 v3 σ = some ((1 : Int32), σr) → W p l e room_1 s m #[Value.ref b] below meth c H locs 127 1782 (lw_Z below #[Value.ref b] s) (F0 m 18 ls [])) : ∀ (v3 : Int32) (σ : Mem) (H : Heap) (locs : List Loc) (ls : Array Slot), PW G σ H → va_S (AA G) s.heap H locs → lv_has ls 4 [(0, .ref b), (1, .ref (ga G k1z)), (2, .ref (ga G k2z)), (3, .int v3)] → F_L_law_812 L xs k1z k2z rec1 v3 σ = some ((1 : Int32), σr) → W p l e room_1 s m #[Value.ref b] below meth c H locs 127 1782 (lw_Z below #[Value.ref b] s) (F0 m 812 ls []) := by
  have hx := X.hx
  have hb := X.hb
  intro v3 σ H locs ls hP hS hl h
  unfold F_L_law_812 at h
  refine lv_aload_n (pc := 812) hx hb dL_law_812 rfl (lv_at hl 1 rfl) ?_
  refine lv_aload_n (pc := 813) hx hb dL_law_813 rfl (lv_at hl 0 rfl) ?_
  refine lv_iload_n (pc := 814) hx hb dL_law_814 rfl (lv_at hl 3 rfl) ?_
  refine lv_iconst (pc := 815) (v := 1) hx hb dL_law_815 (by decide) ?_
  refine lv_iadd (pc := 816) hx hb dL_law_816 ?_
  obtain ⟨j281, hj282, h⟩ := bnd1 h
  refine r_sld (pc := 817) X XL hS hj282 dL_law_817 ?_
  obtain ⟨r285, σ283, e284, h⟩ := bnd2 h
  refine cl_L_93 X hP hS hz1 (As := [.int (xs j281)]) (rest := []) (c_X9_back l G hz1 e284) ⟨rfl, rfl, Nat.le_of_ble_eq_true rfl, Nat.le_of_ble_eq_true rfl⟩ rfl hl.1 rfl (Nat.le_of_ble_eq_true rfl) ⟨Nat.le_of_ble_eq_true rfl, Nat.le_of_ble_eq_true rfl⟩ (pc := 818) dL_law_818 (fun H locs hP hS => ?_)
  change W p l e _ s m _ below meth c H locs _ _ _ (F0 m (818 + 3) ls (.int r285 :: []))
  refine lv_aload_n (pc := 821) hx hb dL_law_821 rfl (lv_at hl 2 rfl) ?_
  refine lv_aload_n (pc := 822) hx hb dL_law_822 rfl (lv_at hl 0 rfl) ?_
  refine lv_iload_n (pc := 823) hx hb dL_law_823 rfl (lv_at hl 3 rfl) ?_
  refine lv_iconst (pc := 824) (v := 1) hx hb dL_law_824 (by decide) ?_
  refine lv_iadd (pc := 825) hx hb dL_law_825 ?_
  obtain ⟨j286, hj287, h⟩ := bnd1 h
  refine r_sld (pc := 826) X XL hS hj287 dL_law_826 ?_
  obtain ⟨r290, σ288, e289, h⟩ := bnd2 h
  refine cl_L_96 X hP hS hz2 (As := [.int (xs j286)]) (rest := [.int r285]) (c_X10_back l G hz2 e289) ⟨rfl, rfl, Nat.le_of_ble_eq_true rfl, Nat.le_of_ble_eq_true rfl⟩ rfl hl.1 rfl (Nat.le_of_ble_eq_true rfl) ⟨Nat.le_of_ble_eq_true rfl, Nat.le_of_ble_eq_true rfl⟩ (pc := 827) dL_law_827 (fun H locs hP hS => ?_)
  change W p l e _ s m _ below meth c H locs _ _ _ (F0 m (827 + 3) ls (.int r290 :: [.int r285]))
  refine lv_icmp_eq (pc := 830) (tgt := 1623) hx hb dL_law_830 (by decide) (fun c291 => ?_) (fun c291 => ?_)
  · have h := ipos c291 h
    refine lv_iinc (pc := 1623) (v := (v3 + (5 : Int32))) (lv' := [(3, .int (v3 + (5 : Int32))), (0, .ref b), (1, .ref (ga G k1z)), (2, .ref (ga G k2z))]) hx hb dL_law_1623 hl (k := 3) rfl (congrArg (fun z => v3 + z) (by decide)) (by decide) rfl (fun ls hl => ?_)
    refine lv_goto (pc := 1626) (tgt := 18) hx hb dL_law_1626 (by decide) ?_
    exact ih1 _ _ _ _ _ hP hS (lv_sub hl [1, 2, 3, 0] rfl) h
  · have h := ineg c291 h
    refine lv_iconst (pc := 833) (v := 0) hx hb dL_law_833 (by decide) ?_
    exact absurd (inj2 h).1 (by decide)
set_option maxHeartbeats 4000000 in
set_option maxRecDepth 100000 in
theorem w_L_law_835 {l : Launch} {G : Gh} {p : Program} {e : Env} {s : State} {m : MethodId} {below : List Frame} {meth : Method} {c : Code} {b L : Nat} {xs : Nat → Int32} (X : Cx G p s m #[Value.ref b] meth c code RL 4 (some .boolean)) (XL : LawX G b L xs s) {k1z : Nat} {k2z : Nat} (hz1 : kd k1z = 9) (hz2 : kd k2z = 10) {σr : Mem} {rec1 : Int32 → Mem → Option (Int32 × Mem)} (ih1 : ∀ (v3 : Int32) (σ : Mem) (H : Heap) (locs : List Loc) (ls : Array Slot), PW G σ H → va_S (AA G) s.heap H locs → lv_has ls 4 [(0, .ref b), (1, .ref (ga G k1z)), (2, .ref (ga G k2z)), (3, .int v3)] → rec1 v3 σ = some ((1 : Int32), σr) → W p l e room_1 s m #[Value.ref b] below meth c H locs 127 1782 (lw_Z below #[Value.ref b] s) (F0 m 18 ls [])) : ∀ (v3 : Int32) (σ : Mem) (H : Heap) (locs : List Loc) (ls : Array Slot), PW G σ H → va_S (AA G) s.heap H locs → lv_has ls 4 [(0, .ref b), (1, .ref (ga G k1z)), (2, .ref (ga G k2z)), (3, .int v3)] → F_L_law_835 L xs k1z k2z rec1 v3 σ = some ((1 : Int32), σr) → W p l e room_1 s m #[Value.ref b] below meth c H locs 127 1782 (lw_Z below #[Value.ref b] s) (F0 m 835 ls []) := by
  have hx := X.hx
  have hb := X.hb
  intro v3 σ H locs ls hP hS hl h
  unfold F_L_law_835 at h
  refine lv_aload_n (pc := 835) hx hb dL_law_835 rfl (lv_at hl 1 rfl) ?_
  refine lv_aload_n (pc := 836) hx hb dL_law_836 rfl (lv_at hl 0 rfl) ?_
  refine lv_iload_n (pc := 837) hx hb dL_law_837 rfl (lv_at hl 3 rfl) ?_
  refine lv_iconst (pc := 838) (v := 1) hx hb dL_law_838 (by decide) ?_
  refine lv_iadd (pc := 839) hx hb dL_law_839 ?_
  obtain ⟨j293, hj294, h⟩ := bnd1 h
  refine r_sld (pc := 840) X XL hS hj294 dL_law_840 ?_
  obtain ⟨r297, σ295, e296, h⟩ := bnd2 h
  refine cl_L_97 X hP hS hz1 (As := [.int (xs j293)]) (rest := []) (c_X9_end l G hz1 e296) ⟨rfl, rfl, Nat.le_of_ble_eq_true rfl, Nat.le_of_ble_eq_true rfl⟩ rfl hl.1 rfl (Nat.le_of_ble_eq_true rfl) ⟨Nat.le_of_ble_eq_true rfl, Nat.le_of_ble_eq_true rfl⟩ (pc := 841) dL_law_841 (fun H locs hP hS => ?_)
  change W p l e _ s m _ below meth c H locs _ _ _ (F0 m (841 + 3) ls (.int r297 :: []))
  refine lv_aload_n (pc := 844) hx hb dL_law_844 rfl (lv_at hl 2 rfl) ?_
  refine lv_aload_n (pc := 845) hx hb dL_law_845 rfl (lv_at hl 0 rfl) ?_
  refine lv_iload_n (pc := 846) hx hb dL_law_846 rfl (lv_at hl 3 rfl) ?_
  refine lv_iconst (pc := 847) (v := 1) hx hb dL_law_847 (by decide) ?_
  refine lv_iadd (pc := 848) hx hb dL_law_848 ?_
  obtain ⟨j298, hj299, h⟩ := bnd1 h
  refine r_sld (pc := 849) X XL hS hj299 dL_law_849 ?_
  obtain ⟨r302, σ300, e301, h⟩ := bnd2 h
  refine cl_L_100 X hP hS hz2 (As := [.int (xs j298)]) (rest := [.int r297]) (c_X10_end l G hz2 e301) ⟨rfl, rfl, Nat.le_of_ble_eq_true rfl, Nat.le_of_ble_eq_true rfl⟩ rfl hl.1 rfl (Nat.le_of_ble_eq_true rfl) ⟨Nat.le_of_ble_eq_true rfl, Nat.le_of_ble_eq_true rfl⟩ (pc := 850) dL_law_850 (fun H locs hP hS => ?_)
  change W p l e _ s m _ below meth c H locs _ _ _ (F0 m (850 + 3) ls (.int r302 :: [.int r297]))
  refine lv_icmp_eq (pc := 853) (tgt := 1623) hx hb dL_law_853 (by decide) (fun c303 => ?_) (fun c303 => ?_)
  · have h := ipos c303 h
    refine lv_iinc (pc := 1623) (v := (v3 + (5 : Int32))) (lv' := [(3, .int (v3 + (5 : Int32))), (0, .ref b), (1, .ref (ga G k1z)), (2, .ref (ga G k2z))]) hx hb dL_law_1623 hl (k := 3) rfl (congrArg (fun z => v3 + z) (by decide)) (by decide) rfl (fun ls hl => ?_)
    refine lv_goto (pc := 1626) (tgt := 18) hx hb dL_law_1626 (by decide) ?_
    exact ih1 _ _ _ _ _ hP hS (lv_sub hl [1, 2, 3, 0] rfl) h
  · have h := ineg c303 h
    refine lv_iconst (pc := 856) (v := 0) hx hb dL_law_856 (by decide) ?_
    exact absurd (inj2 h).1 (by decide)
set_option maxHeartbeats 4000000 in
set_option maxRecDepth 100000 in
theorem w_L_law_858 {l : Launch} {G : Gh} {p : Program} {e : Env} {s : State} {m : MethodId} {below : List Frame} {meth : Method} {c : Code} {b L : Nat} {xs : Nat → Int32} (X : Cx G p s m #[Value.ref b] meth c code RL 4 (some .boolean)) (XL : LawX G b L xs s) {k1z : Nat} {k2z : Nat} (hz1 : kd k1z = 9) (hz2 : kd k2z = 10) {σr : Mem} {rec1 : Int32 → Mem → Option (Int32 × Mem)} (ih1 : ∀ (v3 : Int32) (σ : Mem) (H : Heap) (locs : List Loc) (ls : Array Slot), PW G σ H → va_S (AA G) s.heap H locs → lv_has ls 4 [(0, .ref b), (1, .ref (ga G k1z)), (2, .ref (ga G k2z)), (3, .int v3)] → rec1 v3 σ = some ((1 : Int32), σr) → W p l e room_1 s m #[Value.ref b] below meth c H locs 127 1782 (lw_Z below #[Value.ref b] s) (F0 m 18 ls [])) : ∀ (v3 : Int32) (σ : Mem) (H : Heap) (locs : List Loc) (ls : Array Slot), PW G σ H → va_S (AA G) s.heap H locs → lv_has ls 4 [(0, .ref b), (1, .ref (ga G k1z)), (2, .ref (ga G k2z)), (3, .int v3)] → F_L_law_858 L xs k1z k2z rec1 v3 σ = some ((1 : Int32), σr) → W p l e room_1 s m #[Value.ref b] below meth c H locs 127 1782 (lw_Z below #[Value.ref b] s) (F0 m 858 ls []) := by
  have hx := X.hx
  have hb := X.hb
  intro v3 σ H locs ls hP hS hl h
  unfold F_L_law_858 at h
  refine lv_aload_n (pc := 858) hx hb dL_law_858 rfl (lv_at hl 1 rfl) ?_
  refine lv_aload_n (pc := 859) hx hb dL_law_859 rfl (lv_at hl 0 rfl) ?_
  refine lv_iload_n (pc := 860) hx hb dL_law_860 rfl (lv_at hl 3 rfl) ?_
  refine lv_iconst (pc := 861) (v := 1) hx hb dL_law_861 (by decide) ?_
  refine lv_iadd (pc := 862) hx hb dL_law_862 ?_
  obtain ⟨j305, hj306, h⟩ := bnd1 h
  refine r_sld (pc := 863) X XL hS hj306 dL_law_863 ?_
  refine lv_aload_n (pc := 864) hx hb dL_law_864 rfl (lv_at hl 0 rfl) ?_
  refine lv_iload_n (pc := 865) hx hb dL_law_865 rfl (lv_at hl 3 rfl) ?_
  refine lv_iconst (pc := 866) (v := 2) hx hb dL_law_866 (by decide) ?_
  refine lv_iadd (pc := 867) hx hb dL_law_867 ?_
  obtain ⟨j307, hj308, h⟩ := bnd1 h
  refine r_sld (pc := 868) X XL hS hj308 dL_law_868 ?_
  obtain ⟨r311, σ309, e310, h⟩ := bnd2 h
  refine cl_L_101 X hP hS hz1 (As := [.int (xs j305), .int (xs j307)]) (rest := []) (c_X9_wins l G hz1 e310) ⟨rfl, rfl, Nat.le_of_ble_eq_true rfl, Nat.le_of_ble_eq_true rfl⟩ rfl hl.1 rfl (Nat.le_of_ble_eq_true rfl) ⟨Nat.le_of_ble_eq_true rfl, Nat.le_of_ble_eq_true rfl⟩ (pc := 869) dL_law_869 (fun H locs hP hS => ?_)
  change W p l e _ s m _ below meth c H locs _ _ _ (F0 m (869 + 3) ls (.int r311 :: []))
  refine lv_aload_n (pc := 872) hx hb dL_law_872 rfl (lv_at hl 2 rfl) ?_
  refine lv_aload_n (pc := 873) hx hb dL_law_873 rfl (lv_at hl 0 rfl) ?_
  refine lv_iload_n (pc := 874) hx hb dL_law_874 rfl (lv_at hl 3 rfl) ?_
  refine lv_iconst (pc := 875) (v := 1) hx hb dL_law_875 (by decide) ?_
  refine lv_iadd (pc := 876) hx hb dL_law_876 ?_
  obtain ⟨j312, hj313, h⟩ := bnd1 h
  refine r_sld (pc := 877) X XL hS hj313 dL_law_877 ?_
  refine lv_aload_n (pc := 878) hx hb dL_law_878 rfl (lv_at hl 0 rfl) ?_
  refine lv_iload_n (pc := 879) hx hb dL_law_879 rfl (lv_at hl 3 rfl) ?_
  refine lv_iconst (pc := 880) (v := 2) hx hb dL_law_880 (by decide) ?_
  refine lv_iadd (pc := 881) hx hb dL_law_881 ?_
  obtain ⟨j314, hj315, h⟩ := bnd1 h
  refine r_sld (pc := 882) X XL hS hj315 dL_law_882 ?_
  obtain ⟨r318, σ316, e317, h⟩ := bnd2 h
  refine cl_L_104 X hP hS hz2 (As := [.int (xs j312), .int (xs j314)]) (rest := [.int r311]) (c_X10_wins l G hz2 e317) ⟨rfl, rfl, Nat.le_of_ble_eq_true rfl, Nat.le_of_ble_eq_true rfl⟩ rfl hl.1 rfl (Nat.le_of_ble_eq_true rfl) ⟨Nat.le_of_ble_eq_true rfl, Nat.le_of_ble_eq_true rfl⟩ (pc := 883) dL_law_883 (fun H locs hP hS => ?_)
  change W p l e _ s m _ below meth c H locs _ _ _ (F0 m (883 + 3) ls (.int r318 :: [.int r311]))
  refine lv_icmp_eq (pc := 886) (tgt := 1623) hx hb dL_law_886 (by decide) (fun c319 => ?_) (fun c319 => ?_)
  · have h := ipos c319 h
    refine lv_iinc (pc := 1623) (v := (v3 + (5 : Int32))) (lv' := [(3, .int (v3 + (5 : Int32))), (0, .ref b), (1, .ref (ga G k1z)), (2, .ref (ga G k2z))]) hx hb dL_law_1623 hl (k := 3) rfl (congrArg (fun z => v3 + z) (by decide)) (by decide) rfl (fun ls hl => ?_)
    refine lv_goto (pc := 1626) (tgt := 18) hx hb dL_law_1626 (by decide) ?_
    exact ih1 _ _ _ _ _ hP hS (lv_sub hl [1, 2, 3, 0] rfl) h
  · have h := ineg c319 h
    refine lv_iconst (pc := 889) (v := 0) hx hb dL_law_889 (by decide) ?_
    exact absurd (inj2 h).1 (by decide)
set_option maxHeartbeats 4000000 in
set_option maxRecDepth 100000 in
theorem w_L_law_891 {l : Launch} {G : Gh} {p : Program} {e : Env} {s : State} {m : MethodId} {below : List Frame} {meth : Method} {c : Code} {b L : Nat} {xs : Nat → Int32} (X : Cx G p s m #[Value.ref b] meth c code RL 4 (some .boolean)) (XL : LawX G b L xs s) {k1z : Nat} {k2z : Nat} (hz1 : kd k1z = 9) (hz2 : kd k2z = 10) {σr : Mem} {rec1 : Int32 → Mem → Option (Int32 × Mem)} (ih1 : ∀ (v3 : Int32) (σ : Mem) (H : Heap) (locs : List Loc) (ls : Array Slot), PW G σ H → va_S (AA G) s.heap H locs → lv_has ls 4 [(0, .ref b), (1, .ref (ga G k1z)), (2, .ref (ga G k2z)), (3, .int v3)] → rec1 v3 σ = some ((1 : Int32), σr) → W p l e room_1 s m #[Value.ref b] below meth c H locs 127 1782 (lw_Z below #[Value.ref b] s) (F0 m 18 ls [])) : ∀ (v3 : Int32) (σ : Mem) (H : Heap) (locs : List Loc) (ls : Array Slot), PW G σ H → va_S (AA G) s.heap H locs → lv_has ls 4 [(0, .ref b), (1, .ref (ga G k1z)), (2, .ref (ga G k2z)), (3, .int v3)] → F_L_law_891 L xs k1z k2z rec1 v3 σ = some ((1 : Int32), σr) → W p l e room_1 s m #[Value.ref b] below meth c H locs 127 1782 (lw_Z below #[Value.ref b] s) (F0 m 891 ls []) := by
  have hx := X.hx
  have hb := X.hb
  intro v3 σ H locs ls hP hS hl h
  unfold F_L_law_891 at h
  refine lv_aload_n (pc := 891) hx hb dL_law_891 rfl (lv_at hl 1 rfl) ?_
  refine lv_aload_n (pc := 892) hx hb dL_law_892 rfl (lv_at hl 0 rfl) ?_
  refine lv_iload_n (pc := 893) hx hb dL_law_893 rfl (lv_at hl 3 rfl) ?_
  refine lv_iconst (pc := 894) (v := 1) hx hb dL_law_894 (by decide) ?_
  refine lv_iadd (pc := 895) hx hb dL_law_895 ?_
  obtain ⟨j321, hj322, h⟩ := bnd1 h
  refine r_sld (pc := 896) X XL hS hj322 dL_law_896 ?_
  refine lv_aload_n (pc := 897) hx hb dL_law_897 rfl (lv_at hl 0 rfl) ?_
  refine lv_iload_n (pc := 898) hx hb dL_law_898 rfl (lv_at hl 3 rfl) ?_
  refine lv_iconst (pc := 899) (v := 2) hx hb dL_law_899 (by decide) ?_
  refine lv_iadd (pc := 900) hx hb dL_law_900 ?_
  obtain ⟨j323, hj324, h⟩ := bnd1 h
  refine r_sld (pc := 901) X XL hS hj324 dL_law_901 ?_
  obtain ⟨r327, σ325, e326, h⟩ := bnd2 h
  refine cl_L_105 X hP hS hz1 (As := [.int (xs j321), .int (xs j323)]) (rest := []) (c_X9_patience l G hz1 e326) ⟨rfl, rfl, Nat.le_of_ble_eq_true rfl, Nat.le_of_ble_eq_true rfl⟩ rfl hl.1 rfl (Nat.le_of_ble_eq_true rfl) ⟨Nat.le_of_ble_eq_true rfl, Nat.le_of_ble_eq_true rfl⟩ (pc := 902) dL_law_902 (fun H locs hP hS => ?_)
  change W p l e _ s m _ below meth c H locs _ _ _ (F0 m (902 + 3) ls (.int r327 :: []))
  refine lv_aload_n (pc := 905) hx hb dL_law_905 rfl (lv_at hl 2 rfl) ?_
  refine lv_aload_n (pc := 906) hx hb dL_law_906 rfl (lv_at hl 0 rfl) ?_
  refine lv_iload_n (pc := 907) hx hb dL_law_907 rfl (lv_at hl 3 rfl) ?_
  refine lv_iconst (pc := 908) (v := 1) hx hb dL_law_908 (by decide) ?_
  refine lv_iadd (pc := 909) hx hb dL_law_909 ?_
  obtain ⟨j328, hj329, h⟩ := bnd1 h
  refine r_sld (pc := 910) X XL hS hj329 dL_law_910 ?_
  refine lv_aload_n (pc := 911) hx hb dL_law_911 rfl (lv_at hl 0 rfl) ?_
  refine lv_iload_n (pc := 912) hx hb dL_law_912 rfl (lv_at hl 3 rfl) ?_
  refine lv_iconst (pc := 913) (v := 2) hx hb dL_law_913 (by decide) ?_
  refine lv_iadd (pc := 914) hx hb dL_law_914 ?_
  obtain ⟨j330, hj331, h⟩ := bnd1 h
  refine r_sld (pc := 915) X XL hS hj331 dL_law_915 ?_
  obtain ⟨r334, σ332, e333, h⟩ := bnd2 h
  refine cl_L_108 X hP hS hz2 (As := [.int (xs j328), .int (xs j330)]) (rest := [.int r327]) (c_X10_patience l G hz2 e333) ⟨rfl, rfl, Nat.le_of_ble_eq_true rfl, Nat.le_of_ble_eq_true rfl⟩ rfl hl.1 rfl (Nat.le_of_ble_eq_true rfl) ⟨Nat.le_of_ble_eq_true rfl, Nat.le_of_ble_eq_true rfl⟩ (pc := 916) dL_law_916 (fun H locs hP hS => ?_)
  change W p l e _ s m _ below meth c H locs _ _ _ (F0 m (916 + 3) ls (.int r334 :: [.int r327]))
  refine lv_icmp_eq (pc := 919) (tgt := 1623) hx hb dL_law_919 (by decide) (fun c335 => ?_) (fun c335 => ?_)
  · have h := ipos c335 h
    refine lv_iinc (pc := 1623) (v := (v3 + (5 : Int32))) (lv' := [(3, .int (v3 + (5 : Int32))), (0, .ref b), (1, .ref (ga G k1z)), (2, .ref (ga G k2z))]) hx hb dL_law_1623 hl (k := 3) rfl (congrArg (fun z => v3 + z) (by decide)) (by decide) rfl (fun ls hl => ?_)
    refine lv_goto (pc := 1626) (tgt := 18) hx hb dL_law_1626 (by decide) ?_
    exact ih1 _ _ _ _ _ hP hS (lv_sub hl [1, 2, 3, 0] rfl) h
  · have h := ineg c335 h
    refine lv_iconst (pc := 922) (v := 0) hx hb dL_law_922 (by decide) ?_
    exact absurd (inj2 h).1 (by decide)
set_option maxHeartbeats 4000000 in
set_option maxRecDepth 100000 in
theorem w_L_law_924 {l : Launch} {G : Gh} {p : Program} {e : Env} {s : State} {m : MethodId} {below : List Frame} {meth : Method} {c : Code} {b L : Nat} {xs : Nat → Int32} (X : Cx G p s m #[Value.ref b] meth c code RL 4 (some .boolean)) (XL : LawX G b L xs s) {k1z : Nat} {k2z : Nat} (hz1 : kd k1z = 9) (hz2 : kd k2z = 10) {σr : Mem} {rec1 : Int32 → Mem → Option (Int32 × Mem)} (ih1 : ∀ (v3 : Int32) (σ : Mem) (H : Heap) (locs : List Loc) (ls : Array Slot), PW G σ H → va_S (AA G) s.heap H locs → lv_has ls 4 [(0, .ref b), (1, .ref (ga G k1z)), (2, .ref (ga G k2z)), (3, .int v3)] → rec1 v3 σ = some ((1 : Int32), σr) → W p l e room_1 s m #[Value.ref b] below meth c H locs 127 1782 (lw_Z below #[Value.ref b] s) (F0 m 18 ls [])) : ∀ (v3 : Int32) (σ : Mem) (H : Heap) (locs : List Loc) (ls : Array Slot), PW G σ H → va_S (AA G) s.heap H locs → lv_has ls 4 [(0, .ref b), (1, .ref (ga G k1z)), (2, .ref (ga G k2z)), (3, .int v3)] → F_L_law_924 L xs k1z k2z rec1 v3 σ = some ((1 : Int32), σr) → W p l e room_1 s m #[Value.ref b] below meth c H locs 127 1782 (lw_Z below #[Value.ref b] s) (F0 m 924 ls []) := by
  have hx := X.hx
  have hb := X.hb
  intro v3 σ H locs ls hP hS hl h
  unfold F_L_law_924 at h
  refine lv_aload_n (pc := 924) hx hb dL_law_924 rfl (lv_at hl 1 rfl) ?_
  refine lv_aload_n (pc := 925) hx hb dL_law_925 rfl (lv_at hl 0 rfl) ?_
  refine lv_iload_n (pc := 926) hx hb dL_law_926 rfl (lv_at hl 3 rfl) ?_
  refine lv_iconst (pc := 927) (v := 1) hx hb dL_law_927 (by decide) ?_
  refine lv_iadd (pc := 928) hx hb dL_law_928 ?_
  obtain ⟨j337, hj338, h⟩ := bnd1 h
  refine r_sld (pc := 929) X XL hS hj338 dL_law_929 ?_
  refine lv_aload_n (pc := 930) hx hb dL_law_930 rfl (lv_at hl 0 rfl) ?_
  refine lv_iload_n (pc := 931) hx hb dL_law_931 rfl (lv_at hl 3 rfl) ?_
  refine lv_iconst (pc := 932) (v := 2) hx hb dL_law_932 (by decide) ?_
  refine lv_iadd (pc := 933) hx hb dL_law_933 ?_
  obtain ⟨j339, hj340, h⟩ := bnd1 h
  refine r_sld (pc := 934) X XL hS hj340 dL_law_934 ?_
  obtain ⟨r343, σ341, e342, h⟩ := bnd2 h
  refine cl_L_109 X hP hS hz1 (As := [.int (xs j337), .int (xs j339)]) (rest := []) (c_X9_gust l G hz1 e342) ⟨rfl, rfl, Nat.le_of_ble_eq_true rfl, Nat.le_of_ble_eq_true rfl⟩ rfl hl.1 rfl (Nat.le_of_ble_eq_true rfl) ⟨Nat.le_of_ble_eq_true rfl, Nat.le_of_ble_eq_true rfl⟩ (pc := 935) dL_law_935 (fun H locs hP hS => ?_)
  change W p l e _ s m _ below meth c H locs _ _ _ (F0 m (935 + 3) ls (.int r343 :: []))
  refine lv_aload_n (pc := 938) hx hb dL_law_938 rfl (lv_at hl 2 rfl) ?_
  refine lv_aload_n (pc := 939) hx hb dL_law_939 rfl (lv_at hl 0 rfl) ?_
  refine lv_iload_n (pc := 940) hx hb dL_law_940 rfl (lv_at hl 3 rfl) ?_
  refine lv_iconst (pc := 941) (v := 1) hx hb dL_law_941 (by decide) ?_
  refine lv_iadd (pc := 942) hx hb dL_law_942 ?_
  obtain ⟨j344, hj345, h⟩ := bnd1 h
  refine r_sld (pc := 943) X XL hS hj345 dL_law_943 ?_
  refine lv_aload_n (pc := 944) hx hb dL_law_944 rfl (lv_at hl 0 rfl) ?_
  refine lv_iload_n (pc := 945) hx hb dL_law_945 rfl (lv_at hl 3 rfl) ?_
  refine lv_iconst (pc := 946) (v := 2) hx hb dL_law_946 (by decide) ?_
  refine lv_iadd (pc := 947) hx hb dL_law_947 ?_
  obtain ⟨j346, hj347, h⟩ := bnd1 h
  refine r_sld (pc := 948) X XL hS hj347 dL_law_948 ?_
  obtain ⟨r350, σ348, e349, h⟩ := bnd2 h
  refine cl_L_112 X hP hS hz2 (As := [.int (xs j344), .int (xs j346)]) (rest := [.int r343]) (c_X10_gust l G hz2 e349) ⟨rfl, rfl, Nat.le_of_ble_eq_true rfl, Nat.le_of_ble_eq_true rfl⟩ rfl hl.1 rfl (Nat.le_of_ble_eq_true rfl) ⟨Nat.le_of_ble_eq_true rfl, Nat.le_of_ble_eq_true rfl⟩ (pc := 949) dL_law_949 (fun H locs hP hS => ?_)
  change W p l e _ s m _ below meth c H locs _ _ _ (F0 m (949 + 3) ls (.int r350 :: [.int r343]))
  refine lv_icmp_eq (pc := 952) (tgt := 1623) hx hb dL_law_952 (by decide) (fun c351 => ?_) (fun c351 => ?_)
  · have h := ipos c351 h
    refine lv_iinc (pc := 1623) (v := (v3 + (5 : Int32))) (lv' := [(3, .int (v3 + (5 : Int32))), (0, .ref b), (1, .ref (ga G k1z)), (2, .ref (ga G k2z))]) hx hb dL_law_1623 hl (k := 3) rfl (congrArg (fun z => v3 + z) (by decide)) (by decide) rfl (fun ls hl => ?_)
    refine lv_goto (pc := 1626) (tgt := 18) hx hb dL_law_1626 (by decide) ?_
    exact ih1 _ _ _ _ _ hP hS (lv_sub hl [1, 2, 3, 0] rfl) h
  · have h := ineg c351 h
    refine lv_iconst (pc := 955) (v := 0) hx hb dL_law_955 (by decide) ?_
    exact absurd (inj2 h).1 (by decide)
set_option maxHeartbeats 4000000 in
set_option maxRecDepth 100000 in
theorem w_L_law_957 {l : Launch} {G : Gh} {p : Program} {e : Env} {s : State} {m : MethodId} {below : List Frame} {meth : Method} {c : Code} {b L : Nat} {xs : Nat → Int32} (X : Cx G p s m #[Value.ref b] meth c code RL 4 (some .boolean)) (XL : LawX G b L xs s) {k1z : Nat} {k2z : Nat} (hz1 : kd k1z = 9) (hz2 : kd k2z = 10) {σr : Mem} {rec1 : Int32 → Mem → Option (Int32 × Mem)} (ih1 : ∀ (v3 : Int32) (σ : Mem) (H : Heap) (locs : List Loc) (ls : Array Slot), PW G σ H → va_S (AA G) s.heap H locs → lv_has ls 4 [(0, .ref b), (1, .ref (ga G k1z)), (2, .ref (ga G k2z)), (3, .int v3)] → rec1 v3 σ = some ((1 : Int32), σr) → W p l e room_1 s m #[Value.ref b] below meth c H locs 127 1782 (lw_Z below #[Value.ref b] s) (F0 m 18 ls [])) : ∀ (v3 : Int32) (σ : Mem) (H : Heap) (locs : List Loc) (ls : Array Slot), PW G σ H → va_S (AA G) s.heap H locs → lv_has ls 4 [(0, .ref b), (1, .ref (ga G k1z)), (2, .ref (ga G k2z)), (3, .int v3)] → F_L_law_957 L xs k1z k2z rec1 v3 σ = some ((1 : Int32), σr) → W p l e room_1 s m #[Value.ref b] below meth c H locs 127 1782 (lw_Z below #[Value.ref b] s) (F0 m 957 ls []) := by
  have hx := X.hx
  have hb := X.hb
  intro v3 σ H locs ls hP hS hl h
  unfold F_L_law_957 at h
  refine lv_aload_n (pc := 957) hx hb dL_law_957 rfl (lv_at hl 1 rfl) ?_
  refine lv_aload_n (pc := 958) hx hb dL_law_958 rfl (lv_at hl 0 rfl) ?_
  refine lv_iload_n (pc := 959) hx hb dL_law_959 rfl (lv_at hl 3 rfl) ?_
  refine lv_iconst (pc := 960) (v := 1) hx hb dL_law_960 (by decide) ?_
  refine lv_iadd (pc := 961) hx hb dL_law_961 ?_
  obtain ⟨j353, hj354, h⟩ := bnd1 h
  refine r_sld (pc := 962) X XL hS hj354 dL_law_962 ?_
  refine lv_aload_n (pc := 963) hx hb dL_law_963 rfl (lv_at hl 0 rfl) ?_
  refine lv_iload_n (pc := 964) hx hb dL_law_964 rfl (lv_at hl 3 rfl) ?_
  refine lv_iconst (pc := 965) (v := 2) hx hb dL_law_965 (by decide) ?_
  refine lv_iadd (pc := 966) hx hb dL_law_966 ?_
  obtain ⟨j355, hj356, h⟩ := bnd1 h
  refine r_sld (pc := 967) X XL hS hj356 dL_law_967 ?_
  obtain ⟨r359, σ357, e358, h⟩ := bnd2 h
  refine cl_L_113 X hP hS hz1 (As := [.int (xs j353), .int (xs j355)]) (rest := []) (c_X9_wax l G hz1 e358) ⟨rfl, rfl, Nat.le_of_ble_eq_true rfl, Nat.le_of_ble_eq_true rfl⟩ rfl hl.1 rfl (Nat.le_of_ble_eq_true rfl) ⟨Nat.le_of_ble_eq_true rfl, Nat.le_of_ble_eq_true rfl⟩ (pc := 968) dL_law_968 (fun H locs hP hS => ?_)
  change W p l e _ s m _ below meth c H locs _ _ _ (F0 m (968 + 3) ls (.int r359 :: []))
  refine lv_aload_n (pc := 971) hx hb dL_law_971 rfl (lv_at hl 2 rfl) ?_
  refine lv_aload_n (pc := 972) hx hb dL_law_972 rfl (lv_at hl 0 rfl) ?_
  refine lv_iload_n (pc := 973) hx hb dL_law_973 rfl (lv_at hl 3 rfl) ?_
  refine lv_iconst (pc := 974) (v := 1) hx hb dL_law_974 (by decide) ?_
  refine lv_iadd (pc := 975) hx hb dL_law_975 ?_
  obtain ⟨j360, hj361, h⟩ := bnd1 h
  refine r_sld (pc := 976) X XL hS hj361 dL_law_976 ?_
  refine lv_aload_n (pc := 977) hx hb dL_law_977 rfl (lv_at hl 0 rfl) ?_
  refine lv_iload_n (pc := 978) hx hb dL_law_978 rfl (lv_at hl 3 rfl) ?_
  refine lv_iconst (pc := 979) (v := 2) hx hb dL_law_979 (by decide) ?_
  refine lv_iadd (pc := 980) hx hb dL_law_980 ?_
  obtain ⟨j362, hj363, h⟩ := bnd1 h
  refine r_sld (pc := 981) X XL hS hj363 dL_law_981 ?_
  obtain ⟨r366, σ364, e365, h⟩ := bnd2 h
  refine cl_L_116 X hP hS hz2 (As := [.int (xs j360), .int (xs j362)]) (rest := [.int r359]) (c_X10_wax l G hz2 e365) ⟨rfl, rfl, Nat.le_of_ble_eq_true rfl, Nat.le_of_ble_eq_true rfl⟩ rfl hl.1 rfl (Nat.le_of_ble_eq_true rfl) ⟨Nat.le_of_ble_eq_true rfl, Nat.le_of_ble_eq_true rfl⟩ (pc := 982) dL_law_982 (fun H locs hP hS => ?_)
  change W p l e _ s m _ below meth c H locs _ _ _ (F0 m (982 + 3) ls (.int r366 :: [.int r359]))
  refine lv_icmp_eq (pc := 985) (tgt := 1623) hx hb dL_law_985 (by decide) (fun c367 => ?_) (fun c367 => ?_)
  · have h := ipos c367 h
    refine lv_iinc (pc := 1623) (v := (v3 + (5 : Int32))) (lv' := [(3, .int (v3 + (5 : Int32))), (0, .ref b), (1, .ref (ga G k1z)), (2, .ref (ga G k2z))]) hx hb dL_law_1623 hl (k := 3) rfl (congrArg (fun z => v3 + z) (by decide)) (by decide) rfl (fun ls hl => ?_)
    refine lv_goto (pc := 1626) (tgt := 18) hx hb dL_law_1626 (by decide) ?_
    exact ih1 _ _ _ _ _ hP hS (lv_sub hl [1, 2, 3, 0] rfl) h
  · have h := ineg c367 h
    refine lv_iconst (pc := 988) (v := 0) hx hb dL_law_988 (by decide) ?_
    exact absurd (inj2 h).1 (by decide)
set_option maxHeartbeats 4000000 in
set_option maxRecDepth 100000 in
theorem w_L_law_990 {l : Launch} {G : Gh} {p : Program} {e : Env} {s : State} {m : MethodId} {below : List Frame} {meth : Method} {c : Code} {b L : Nat} {xs : Nat → Int32} (X : Cx G p s m #[Value.ref b] meth c code RL 4 (some .boolean)) (XL : LawX G b L xs s) {k1z : Nat} {k2z : Nat} (hz1 : kd k1z = 9) (hz2 : kd k2z = 10) {σr : Mem} {rec1 : Int32 → Mem → Option (Int32 × Mem)} (ih1 : ∀ (v3 : Int32) (σ : Mem) (H : Heap) (locs : List Loc) (ls : Array Slot), PW G σ H → va_S (AA G) s.heap H locs → lv_has ls 4 [(0, .ref b), (1, .ref (ga G k1z)), (2, .ref (ga G k2z)), (3, .int v3)] → rec1 v3 σ = some ((1 : Int32), σr) → W p l e room_1 s m #[Value.ref b] below meth c H locs 127 1782 (lw_Z below #[Value.ref b] s) (F0 m 18 ls [])) : ∀ (v3 : Int32) (σ : Mem) (H : Heap) (locs : List Loc) (ls : Array Slot), PW G σ H → va_S (AA G) s.heap H locs → lv_has ls 4 [(0, .ref b), (1, .ref (ga G k1z)), (2, .ref (ga G k2z)), (3, .int v3)] → F_L_law_990 L xs k1z k2z rec1 v3 σ = some ((1 : Int32), σr) → W p l e room_1 s m #[Value.ref b] below meth c H locs 127 1782 (lw_Z below #[Value.ref b] s) (F0 m 990 ls []) := by
  have hx := X.hx
  have hb := X.hb
  intro v3 σ H locs ls hP hS hl h
  unfold F_L_law_990 at h
  refine lv_aload_n (pc := 990) hx hb dL_law_990 rfl (lv_at hl 1 rfl) ?_
  refine lv_aload_n (pc := 991) hx hb dL_law_991 rfl (lv_at hl 0 rfl) ?_
  refine lv_iload_n (pc := 992) hx hb dL_law_992 rfl (lv_at hl 3 rfl) ?_
  refine lv_iconst (pc := 993) (v := 1) hx hb dL_law_993 (by decide) ?_
  refine lv_iadd (pc := 994) hx hb dL_law_994 ?_
  obtain ⟨j369, hj370, h⟩ := bnd1 h
  refine r_sld (pc := 995) X XL hS hj370 dL_law_995 ?_
  obtain ⟨r373, σ371, e372, h⟩ := bnd2 h
  refine cl_L_117 X hP hS hz1 (As := [.int (xs j369)]) (rest := []) (c_X9_silent l G hz1 e372) ⟨rfl, rfl, Nat.le_of_ble_eq_true rfl, Nat.le_of_ble_eq_true rfl⟩ rfl hl.1 rfl (Nat.le_of_ble_eq_true rfl) ⟨Nat.le_of_ble_eq_true rfl, Nat.le_of_ble_eq_true rfl⟩ (pc := 996) dL_law_996 (fun H locs hP hS => ?_)
  change W p l e _ s m _ below meth c H locs _ _ _ (F0 m (996 + 3) ls (.int r373 :: []))
  refine lv_aload_n (pc := 999) hx hb dL_law_999 rfl (lv_at hl 2 rfl) ?_
  refine lv_aload_n (pc := 1000) hx hb dL_law_1000 rfl (lv_at hl 0 rfl) ?_
  refine lv_iload_n (pc := 1001) hx hb dL_law_1001 rfl (lv_at hl 3 rfl) ?_
  refine lv_iconst (pc := 1002) (v := 1) hx hb dL_law_1002 (by decide) ?_
  refine lv_iadd (pc := 1003) hx hb dL_law_1003 ?_
  obtain ⟨j374, hj375, h⟩ := bnd1 h
  refine r_sld (pc := 1004) X XL hS hj375 dL_law_1004 ?_
  obtain ⟨r378, σ376, e377, h⟩ := bnd2 h
  refine cl_L_120 X hP hS hz2 (As := [.int (xs j374)]) (rest := [.int r373]) (c_X10_silent l G hz2 e377) ⟨rfl, rfl, Nat.le_of_ble_eq_true rfl, Nat.le_of_ble_eq_true rfl⟩ rfl hl.1 rfl (Nat.le_of_ble_eq_true rfl) ⟨Nat.le_of_ble_eq_true rfl, Nat.le_of_ble_eq_true rfl⟩ (pc := 1005) dL_law_1005 (fun H locs hP hS => ?_)
  change W p l e _ s m _ below meth c H locs _ _ _ (F0 m (1005 + 3) ls (.int r378 :: [.int r373]))
  refine lv_icmp_eq (pc := 1008) (tgt := 1623) hx hb dL_law_1008 (by decide) (fun c379 => ?_) (fun c379 => ?_)
  · have h := ipos c379 h
    refine lv_iinc (pc := 1623) (v := (v3 + (5 : Int32))) (lv' := [(3, .int (v3 + (5 : Int32))), (0, .ref b), (1, .ref (ga G k1z)), (2, .ref (ga G k2z))]) hx hb dL_law_1623 hl (k := 3) rfl (congrArg (fun z => v3 + z) (by decide)) (by decide) rfl (fun ls hl => ?_)
    refine lv_goto (pc := 1626) (tgt := 18) hx hb dL_law_1626 (by decide) ?_
    exact ih1 _ _ _ _ _ hP hS (lv_sub hl [1, 2, 3, 0] rfl) h
  · have h := ineg c379 h
    refine lv_iconst (pc := 1011) (v := 0) hx hb dL_law_1011 (by decide) ?_
    exact absurd (inj2 h).1 (by decide)
set_option maxHeartbeats 4000000 in
set_option maxRecDepth 100000 in
theorem w_L_law_1013 {l : Launch} {G : Gh} {p : Program} {e : Env} {s : State} {m : MethodId} {below : List Frame} {meth : Method} {c : Code} {b L : Nat} {xs : Nat → Int32} (X : Cx G p s m #[Value.ref b] meth c code RL 4 (some .boolean)) (XL : LawX G b L xs s) {k1z : Nat} {k2z : Nat} (hz1 : kd k1z = 9) (hz2 : kd k2z = 10) {σr : Mem} {rec1 : Int32 → Mem → Option (Int32 × Mem)} (ih1 : ∀ (v3 : Int32) (σ : Mem) (H : Heap) (locs : List Loc) (ls : Array Slot), PW G σ H → va_S (AA G) s.heap H locs → lv_has ls 4 [(0, .ref b), (1, .ref (ga G k1z)), (2, .ref (ga G k2z)), (3, .int v3)] → rec1 v3 σ = some ((1 : Int32), σr) → W p l e room_1 s m #[Value.ref b] below meth c H locs 127 1782 (lw_Z below #[Value.ref b] s) (F0 m 18 ls [])) : ∀ (v3 : Int32) (σ : Mem) (H : Heap) (locs : List Loc) (ls : Array Slot), PW G σ H → va_S (AA G) s.heap H locs → lv_has ls 4 [(0, .ref b), (1, .ref (ga G k1z)), (2, .ref (ga G k2z)), (3, .int v3)] → F_L_law_1013 L xs k1z k2z rec1 v3 σ = some ((1 : Int32), σr) → W p l e room_1 s m #[Value.ref b] below meth c H locs 127 1782 (lw_Z below #[Value.ref b] s) (F0 m 1013 ls []) := by
  have hx := X.hx
  have hb := X.hb
  intro v3 σ H locs ls hP hS hl h
  unfold F_L_law_1013 at h
  refine lv_aload_n (pc := 1013) hx hb dL_law_1013 rfl (lv_at hl 1 rfl) ?_
  refine lv_aload_n (pc := 1014) hx hb dL_law_1014 rfl (lv_at hl 0 rfl) ?_
  refine lv_iload_n (pc := 1015) hx hb dL_law_1015 rfl (lv_at hl 3 rfl) ?_
  refine lv_iconst (pc := 1016) (v := 1) hx hb dL_law_1016 (by decide) ?_
  refine lv_iadd (pc := 1017) hx hb dL_law_1017 ?_
  obtain ⟨j381, hj382, h⟩ := bnd1 h
  refine r_sld (pc := 1018) X XL hS hj382 dL_law_1018 ?_
  obtain ⟨r385, σ383, e384, h⟩ := bnd2 h
  refine cl_L_121 X hP hS hz1 (As := [.int (xs j381)]) (rest := []) (c_X9_order l G hz1 e384) ⟨rfl, rfl, Nat.le_of_ble_eq_true rfl, Nat.le_of_ble_eq_true rfl⟩ rfl hl.1 rfl (Nat.le_of_ble_eq_true rfl) ⟨Nat.le_of_ble_eq_true rfl, Nat.le_of_ble_eq_true rfl⟩ (pc := 1019) dL_law_1019 (fun H locs hP hS => ?_)
  change W p l e _ s m _ below meth c H locs _ _ _ (F0 m (1019 + 3) ls (.int r385 :: []))
  refine lv_aload_n (pc := 1022) hx hb dL_law_1022 rfl (lv_at hl 2 rfl) ?_
  refine lv_aload_n (pc := 1023) hx hb dL_law_1023 rfl (lv_at hl 0 rfl) ?_
  refine lv_iload_n (pc := 1024) hx hb dL_law_1024 rfl (lv_at hl 3 rfl) ?_
  refine lv_iconst (pc := 1025) (v := 1) hx hb dL_law_1025 (by decide) ?_
  refine lv_iadd (pc := 1026) hx hb dL_law_1026 ?_
  obtain ⟨j386, hj387, h⟩ := bnd1 h
  refine r_sld (pc := 1027) X XL hS hj387 dL_law_1027 ?_
  obtain ⟨r390, σ388, e389, h⟩ := bnd2 h
  refine cl_L_124 X hP hS hz2 (As := [.int (xs j386)]) (rest := [.int r385]) (c_X10_order l G hz2 e389) ⟨rfl, rfl, Nat.le_of_ble_eq_true rfl, Nat.le_of_ble_eq_true rfl⟩ rfl hl.1 rfl (Nat.le_of_ble_eq_true rfl) ⟨Nat.le_of_ble_eq_true rfl, Nat.le_of_ble_eq_true rfl⟩ (pc := 1028) dL_law_1028 (fun H locs hP hS => ?_)
  change W p l e _ s m _ below meth c H locs _ _ _ (F0 m (1028 + 3) ls (.int r390 :: [.int r385]))
  refine lv_icmp_eq (pc := 1031) (tgt := 1623) hx hb dL_law_1031 (by decide) (fun c391 => ?_) (fun c391 => ?_)
  · have h := ipos c391 h
    refine lv_iinc (pc := 1623) (v := (v3 + (5 : Int32))) (lv' := [(3, .int (v3 + (5 : Int32))), (0, .ref b), (1, .ref (ga G k1z)), (2, .ref (ga G k2z))]) hx hb dL_law_1623 hl (k := 3) rfl (congrArg (fun z => v3 + z) (by decide)) (by decide) rfl (fun ls hl => ?_)
    refine lv_goto (pc := 1626) (tgt := 18) hx hb dL_law_1626 (by decide) ?_
    exact ih1 _ _ _ _ _ hP hS (lv_sub hl [1, 2, 3, 0] rfl) h
  · have h := ineg c391 h
    refine lv_iconst (pc := 1034) (v := 0) hx hb dL_law_1034 (by decide) ?_
    exact absurd (inj2 h).1 (by decide)
set_option maxHeartbeats 4000000 in
set_option maxRecDepth 100000 in
theorem w_L_law_1036 {l : Launch} {G : Gh} {p : Program} {e : Env} {s : State} {m : MethodId} {below : List Frame} {meth : Method} {c : Code} {b L : Nat} {xs : Nat → Int32} (X : Cx G p s m #[Value.ref b] meth c code RL 4 (some .boolean)) (XL : LawX G b L xs s) {k1z : Nat} {k2z : Nat} (hz1 : kd k1z = 9) (hz2 : kd k2z = 10) {σr : Mem} {rec1 : Int32 → Mem → Option (Int32 × Mem)} (ih1 : ∀ (v3 : Int32) (σ : Mem) (H : Heap) (locs : List Loc) (ls : Array Slot), PW G σ H → va_S (AA G) s.heap H locs → lv_has ls 4 [(0, .ref b), (1, .ref (ga G k1z)), (2, .ref (ga G k2z)), (3, .int v3)] → rec1 v3 σ = some ((1 : Int32), σr) → W p l e room_1 s m #[Value.ref b] below meth c H locs 127 1782 (lw_Z below #[Value.ref b] s) (F0 m 18 ls [])) : ∀ (v3 : Int32) (σ : Mem) (H : Heap) (locs : List Loc) (ls : Array Slot), PW G σ H → va_S (AA G) s.heap H locs → lv_has ls 4 [(0, .ref b), (1, .ref (ga G k1z)), (2, .ref (ga G k2z)), (3, .int v3)] → F_L_law_1036 L xs k1z k2z rec1 v3 σ = some ((1 : Int32), σr) → W p l e room_1 s m #[Value.ref b] below meth c H locs 127 1782 (lw_Z below #[Value.ref b] s) (F0 m 1036 ls []) := by
  have hx := X.hx
  have hb := X.hb
  intro v3 σ H locs ls hP hS hl h
  unfold F_L_law_1036 at h
  refine lv_aload_n (pc := 1036) hx hb dL_law_1036 rfl (lv_at hl 1 rfl) ?_
  refine lv_aload_n (pc := 1037) hx hb dL_law_1037 rfl (lv_at hl 0 rfl) ?_
  refine lv_iload_n (pc := 1038) hx hb dL_law_1038 rfl (lv_at hl 3 rfl) ?_
  refine lv_iconst (pc := 1039) (v := 1) hx hb dL_law_1039 (by decide) ?_
  refine lv_iadd (pc := 1040) hx hb dL_law_1040 ?_
  obtain ⟨j393, hj394, h⟩ := bnd1 h
  refine r_sld (pc := 1041) X XL hS hj394 dL_law_1041 ?_
  obtain ⟨r397, σ395, e396, h⟩ := bnd2 h
  refine cl_L_125 X hP hS hz1 (As := [.int (xs j393)]) (rest := []) (c_X9_most l G hz1 e396) ⟨rfl, rfl, Nat.le_of_ble_eq_true rfl, Nat.le_of_ble_eq_true rfl⟩ rfl hl.1 rfl (Nat.le_of_ble_eq_true rfl) ⟨Nat.le_of_ble_eq_true rfl, Nat.le_of_ble_eq_true rfl⟩ (pc := 1042) dL_law_1042 (fun H locs hP hS => ?_)
  change W p l e _ s m _ below meth c H locs _ _ _ (F0 m (1042 + 3) ls (.int r397 :: []))
  refine lv_aload_n (pc := 1045) hx hb dL_law_1045 rfl (lv_at hl 2 rfl) ?_
  refine lv_aload_n (pc := 1046) hx hb dL_law_1046 rfl (lv_at hl 0 rfl) ?_
  refine lv_iload_n (pc := 1047) hx hb dL_law_1047 rfl (lv_at hl 3 rfl) ?_
  refine lv_iconst (pc := 1048) (v := 1) hx hb dL_law_1048 (by decide) ?_
  refine lv_iadd (pc := 1049) hx hb dL_law_1049 ?_
  obtain ⟨j398, hj399, h⟩ := bnd1 h
  refine r_sld (pc := 1050) X XL hS hj399 dL_law_1050 ?_
  obtain ⟨r402, σ400, e401, h⟩ := bnd2 h
  refine cl_L_128 X hP hS hz2 (As := [.int (xs j398)]) (rest := [.int r397]) (c_X10_most l G hz2 e401) ⟨rfl, rfl, Nat.le_of_ble_eq_true rfl, Nat.le_of_ble_eq_true rfl⟩ rfl hl.1 rfl (Nat.le_of_ble_eq_true rfl) ⟨Nat.le_of_ble_eq_true rfl, Nat.le_of_ble_eq_true rfl⟩ (pc := 1051) dL_law_1051 (fun H locs hP hS => ?_)
  change W p l e _ s m _ below meth c H locs _ _ _ (F0 m (1051 + 3) ls (.int r402 :: [.int r397]))
  refine lv_icmp_eq (pc := 1054) (tgt := 1623) hx hb dL_law_1054 (by decide) (fun c403 => ?_) (fun c403 => ?_)
  · have h := ipos c403 h
    refine lv_iinc (pc := 1623) (v := (v3 + (5 : Int32))) (lv' := [(3, .int (v3 + (5 : Int32))), (0, .ref b), (1, .ref (ga G k1z)), (2, .ref (ga G k2z))]) hx hb dL_law_1623 hl (k := 3) rfl (congrArg (fun z => v3 + z) (by decide)) (by decide) rfl (fun ls hl => ?_)
    refine lv_goto (pc := 1626) (tgt := 18) hx hb dL_law_1626 (by decide) ?_
    exact ih1 _ _ _ _ _ hP hS (lv_sub hl [1, 2, 3, 0] rfl) h
  · have h := ineg c403 h
    refine lv_iconst (pc := 1057) (v := 0) hx hb dL_law_1057 (by decide) ?_
    exact absurd (inj2 h).1 (by decide)
set_option maxHeartbeats 4000000 in
set_option maxRecDepth 100000 in
theorem w_L_law_1059 {l : Launch} {G : Gh} {p : Program} {e : Env} {s : State} {m : MethodId} {below : List Frame} {meth : Method} {c : Code} {b L : Nat} {xs : Nat → Int32} (X : Cx G p s m #[Value.ref b] meth c code RL 4 (some .boolean)) (XL : LawX G b L xs s) {k1z : Nat} {k2z : Nat} (hz1 : kd k1z = 9) (hz2 : kd k2z = 10) {σr : Mem} {rec1 : Int32 → Mem → Option (Int32 × Mem)} (ih1 : ∀ (v3 : Int32) (σ : Mem) (H : Heap) (locs : List Loc) (ls : Array Slot), PW G σ H → va_S (AA G) s.heap H locs → lv_has ls 4 [(0, .ref b), (1, .ref (ga G k1z)), (2, .ref (ga G k2z)), (3, .int v3)] → rec1 v3 σ = some ((1 : Int32), σr) → W p l e room_1 s m #[Value.ref b] below meth c H locs 127 1782 (lw_Z below #[Value.ref b] s) (F0 m 18 ls [])) : ∀ (v3 : Int32) (σ : Mem) (H : Heap) (locs : List Loc) (ls : Array Slot), PW G σ H → va_S (AA G) s.heap H locs → lv_has ls 4 [(0, .ref b), (1, .ref (ga G k1z)), (2, .ref (ga G k2z)), (3, .int v3)] → F_L_law_1059 L xs k1z k2z rec1 v3 σ = some ((1 : Int32), σr) → W p l e room_1 s m #[Value.ref b] below meth c H locs 127 1782 (lw_Z below #[Value.ref b] s) (F0 m 1059 ls []) := by
  have hx := X.hx
  have hb := X.hb
  intro v3 σ H locs ls hP hS hl h
  unfold F_L_law_1059 at h
  refine lv_aload_n (pc := 1059) hx hb dL_law_1059 rfl (lv_at hl 1 rfl) ?_
  refine lv_aload_n (pc := 1060) hx hb dL_law_1060 rfl (lv_at hl 0 rfl) ?_
  refine lv_iload_n (pc := 1061) hx hb dL_law_1061 rfl (lv_at hl 3 rfl) ?_
  refine lv_iconst (pc := 1062) (v := 1) hx hb dL_law_1062 (by decide) ?_
  refine lv_iadd (pc := 1063) hx hb dL_law_1063 ?_
  obtain ⟨j405, hj406, h⟩ := bnd1 h
  refine r_sld (pc := 1064) X XL hS hj406 dL_law_1064 ?_
  obtain ⟨r409, σ407, e408, h⟩ := bnd2 h
  refine cl_L_129 X hP hS hz1 (As := [.int (xs j405)]) (rest := []) (c_X9_owed l G hz1 e408) ⟨rfl, rfl, Nat.le_of_ble_eq_true rfl, Nat.le_of_ble_eq_true rfl⟩ rfl hl.1 rfl (Nat.le_of_ble_eq_true rfl) ⟨Nat.le_of_ble_eq_true rfl, Nat.le_of_ble_eq_true rfl⟩ (pc := 1065) dL_law_1065 (fun H locs hP hS => ?_)
  change W p l e _ s m _ below meth c H locs _ _ _ (F0 m (1065 + 3) ls (.int r409 :: []))
  refine lv_aload_n (pc := 1068) hx hb dL_law_1068 rfl (lv_at hl 2 rfl) ?_
  refine lv_aload_n (pc := 1069) hx hb dL_law_1069 rfl (lv_at hl 0 rfl) ?_
  refine lv_iload_n (pc := 1070) hx hb dL_law_1070 rfl (lv_at hl 3 rfl) ?_
  refine lv_iconst (pc := 1071) (v := 1) hx hb dL_law_1071 (by decide) ?_
  refine lv_iadd (pc := 1072) hx hb dL_law_1072 ?_
  obtain ⟨j410, hj411, h⟩ := bnd1 h
  refine r_sld (pc := 1073) X XL hS hj411 dL_law_1073 ?_
  obtain ⟨r414, σ412, e413, h⟩ := bnd2 h
  refine cl_L_132 X hP hS hz2 (As := [.int (xs j410)]) (rest := [.int r409]) (c_X10_owed l G hz2 e413) ⟨rfl, rfl, Nat.le_of_ble_eq_true rfl, Nat.le_of_ble_eq_true rfl⟩ rfl hl.1 rfl (Nat.le_of_ble_eq_true rfl) ⟨Nat.le_of_ble_eq_true rfl, Nat.le_of_ble_eq_true rfl⟩ (pc := 1074) dL_law_1074 (fun H locs hP hS => ?_)
  change W p l e _ s m _ below meth c H locs _ _ _ (F0 m (1074 + 3) ls (.int r414 :: [.int r409]))
  refine lv_icmp_eq (pc := 1077) (tgt := 1623) hx hb dL_law_1077 (by decide) (fun c415 => ?_) (fun c415 => ?_)
  · have h := ipos c415 h
    refine lv_iinc (pc := 1623) (v := (v3 + (5 : Int32))) (lv' := [(3, .int (v3 + (5 : Int32))), (0, .ref b), (1, .ref (ga G k1z)), (2, .ref (ga G k2z))]) hx hb dL_law_1623 hl (k := 3) rfl (congrArg (fun z => v3 + z) (by decide)) (by decide) rfl (fun ls hl => ?_)
    refine lv_goto (pc := 1626) (tgt := 18) hx hb dL_law_1626 (by decide) ?_
    exact ih1 _ _ _ _ _ hP hS (lv_sub hl [1, 2, 3, 0] rfl) h
  · have h := ineg c415 h
    refine lv_iconst (pc := 1080) (v := 0) hx hb dL_law_1080 (by decide) ?_
    exact absurd (inj2 h).1 (by decide)
set_option maxHeartbeats 4000000 in
set_option maxRecDepth 100000 in
theorem w_L_law_1082 {l : Launch} {G : Gh} {p : Program} {e : Env} {s : State} {m : MethodId} {below : List Frame} {meth : Method} {c : Code} {b L : Nat} {xs : Nat → Int32} (X : Cx G p s m #[Value.ref b] meth c code RL 4 (some .boolean)) (XL : LawX G b L xs s) {k1z : Nat} {k2z : Nat} (hz1 : kd k1z = 9) (hz2 : kd k2z = 10) {σr : Mem} {rec1 : Int32 → Mem → Option (Int32 × Mem)} (ih1 : ∀ (v3 : Int32) (σ : Mem) (H : Heap) (locs : List Loc) (ls : Array Slot), PW G σ H → va_S (AA G) s.heap H locs → lv_has ls 4 [(0, .ref b), (1, .ref (ga G k1z)), (2, .ref (ga G k2z)), (3, .int v3)] → rec1 v3 σ = some ((1 : Int32), σr) → W p l e room_1 s m #[Value.ref b] below meth c H locs 127 1782 (lw_Z below #[Value.ref b] s) (F0 m 18 ls [])) : ∀ (v3 : Int32) (σ : Mem) (H : Heap) (locs : List Loc) (ls : Array Slot), PW G σ H → va_S (AA G) s.heap H locs → lv_has ls 4 [(0, .ref b), (1, .ref (ga G k1z)), (2, .ref (ga G k2z)), (3, .int v3)] → F_L_law_1082 L xs k1z k2z rec1 v3 σ = some ((1 : Int32), σr) → W p l e room_1 s m #[Value.ref b] below meth c H locs 127 1782 (lw_Z below #[Value.ref b] s) (F0 m 1082 ls []) := by
  have hx := X.hx
  have hb := X.hb
  intro v3 σ H locs ls hP hS hl h
  unfold F_L_law_1082 at h
  refine lv_aload_n (pc := 1082) hx hb dL_law_1082 rfl (lv_at hl 1 rfl) ?_
  refine lv_aload_n (pc := 1083) hx hb dL_law_1083 rfl (lv_at hl 0 rfl) ?_
  refine lv_iload_n (pc := 1084) hx hb dL_law_1084 rfl (lv_at hl 3 rfl) ?_
  refine lv_iconst (pc := 1085) (v := 1) hx hb dL_law_1085 (by decide) ?_
  refine lv_iadd (pc := 1086) hx hb dL_law_1086 ?_
  obtain ⟨j417, hj418, h⟩ := bnd1 h
  refine r_sld (pc := 1087) X XL hS hj418 dL_law_1087 ?_
  obtain ⟨r421, σ419, e420, h⟩ := bnd2 h
  refine cl_L_133 X hP hS hz1 (As := [.int (xs j417)]) (rest := []) (c_X9_seed l G hz1 e420) ⟨rfl, rfl, Nat.le_of_ble_eq_true rfl, Nat.le_of_ble_eq_true rfl⟩ rfl hl.1 rfl (Nat.le_of_ble_eq_true rfl) ⟨Nat.le_of_ble_eq_true rfl, Nat.le_of_ble_eq_true rfl⟩ (pc := 1088) dL_law_1088 (fun H locs hP hS => ?_)
  change W p l e _ s m _ below meth c H locs _ _ _ (F0 m (1088 + 3) ls (.int r421 :: []))
  refine lv_aload_n (pc := 1091) hx hb dL_law_1091 rfl (lv_at hl 2 rfl) ?_
  refine lv_aload_n (pc := 1092) hx hb dL_law_1092 rfl (lv_at hl 0 rfl) ?_
  refine lv_iload_n (pc := 1093) hx hb dL_law_1093 rfl (lv_at hl 3 rfl) ?_
  refine lv_iconst (pc := 1094) (v := 1) hx hb dL_law_1094 (by decide) ?_
  refine lv_iadd (pc := 1095) hx hb dL_law_1095 ?_
  obtain ⟨j422, hj423, h⟩ := bnd1 h
  refine r_sld (pc := 1096) X XL hS hj423 dL_law_1096 ?_
  obtain ⟨r426, σ424, e425, h⟩ := bnd2 h
  refine cl_L_136 X hP hS hz2 (As := [.int (xs j422)]) (rest := [.int r421]) (c_X10_seed l G hz2 e425) ⟨rfl, rfl, Nat.le_of_ble_eq_true rfl, Nat.le_of_ble_eq_true rfl⟩ rfl hl.1 rfl (Nat.le_of_ble_eq_true rfl) ⟨Nat.le_of_ble_eq_true rfl, Nat.le_of_ble_eq_true rfl⟩ (pc := 1097) dL_law_1097 (fun H locs hP hS => ?_)
  change W p l e _ s m _ below meth c H locs _ _ _ (F0 m (1097 + 3) ls (.int r426 :: [.int r421]))
  refine lv_icmp_eq (pc := 1100) (tgt := 1623) hx hb dL_law_1100 (by decide) (fun c427 => ?_) (fun c427 => ?_)
  · have h := ipos c427 h
    refine lv_iinc (pc := 1623) (v := (v3 + (5 : Int32))) (lv' := [(3, .int (v3 + (5 : Int32))), (0, .ref b), (1, .ref (ga G k1z)), (2, .ref (ga G k2z))]) hx hb dL_law_1623 hl (k := 3) rfl (congrArg (fun z => v3 + z) (by decide)) (by decide) rfl (fun ls hl => ?_)
    refine lv_goto (pc := 1626) (tgt := 18) hx hb dL_law_1626 (by decide) ?_
    exact ih1 _ _ _ _ _ hP hS (lv_sub hl [1, 2, 3, 0] rfl) h
  · have h := ineg c427 h
    refine lv_iconst (pc := 1103) (v := 0) hx hb dL_law_1103 (by decide) ?_
    exact absurd (inj2 h).1 (by decide)
set_option maxHeartbeats 4000000 in
set_option maxRecDepth 100000 in
theorem w_L_law_1105 {l : Launch} {G : Gh} {p : Program} {e : Env} {s : State} {m : MethodId} {below : List Frame} {meth : Method} {c : Code} {b L : Nat} {xs : Nat → Int32} (X : Cx G p s m #[Value.ref b] meth c code RL 4 (some .boolean)) (XL : LawX G b L xs s) {k1z : Nat} {k2z : Nat} (hz1 : kd k1z = 9) (hz2 : kd k2z = 10) {σr : Mem} {rec1 : Int32 → Mem → Option (Int32 × Mem)} (ih1 : ∀ (v3 : Int32) (σ : Mem) (H : Heap) (locs : List Loc) (ls : Array Slot), PW G σ H → va_S (AA G) s.heap H locs → lv_has ls 4 [(0, .ref b), (1, .ref (ga G k1z)), (2, .ref (ga G k2z)), (3, .int v3)] → rec1 v3 σ = some ((1 : Int32), σr) → W p l e room_1 s m #[Value.ref b] below meth c H locs 127 1782 (lw_Z below #[Value.ref b] s) (F0 m 18 ls [])) : ∀ (v3 : Int32) (σ : Mem) (H : Heap) (locs : List Loc) (ls : Array Slot), PW G σ H → va_S (AA G) s.heap H locs → lv_has ls 4 [(0, .ref b), (1, .ref (ga G k1z)), (2, .ref (ga G k2z)), (3, .int v3)] → F_L_law_1105 L xs k1z k2z rec1 v3 σ = some ((1 : Int32), σr) → W p l e room_1 s m #[Value.ref b] below meth c H locs 127 1782 (lw_Z below #[Value.ref b] s) (F0 m 1105 ls []) := by
  have hx := X.hx
  have hb := X.hb
  intro v3 σ H locs ls hP hS hl h
  unfold F_L_law_1105 at h
  refine lv_aload_n (pc := 1105) hx hb dL_law_1105 rfl (lv_at hl 1 rfl) ?_
  refine lv_aload_n (pc := 1106) hx hb dL_law_1106 rfl (lv_at hl 0 rfl) ?_
  refine lv_iload_n (pc := 1107) hx hb dL_law_1107 rfl (lv_at hl 3 rfl) ?_
  refine lv_iconst (pc := 1108) (v := 1) hx hb dL_law_1108 (by decide) ?_
  refine lv_iadd (pc := 1109) hx hb dL_law_1109 ?_
  obtain ⟨j429, hj430, h⟩ := bnd1 h
  refine r_sld (pc := 1110) X XL hS hj430 dL_law_1110 ?_
  obtain ⟨r433, σ431, e432, h⟩ := bnd2 h
  refine cl_L_137 X hP hS hz1 (As := [.int (xs j429)]) (rest := []) (c_X9_draw l G hz1 e432) ⟨rfl, rfl, Nat.le_of_ble_eq_true rfl, Nat.le_of_ble_eq_true rfl⟩ rfl hl.1 rfl (Nat.le_of_ble_eq_true rfl) ⟨Nat.le_of_ble_eq_true rfl, Nat.le_of_ble_eq_true rfl⟩ (pc := 1111) dL_law_1111 (fun H locs hP hS => ?_)
  change W p l e _ s m _ below meth c H locs _ _ _ (F0 m (1111 + 3) ls (.int r433 :: []))
  refine lv_aload_n (pc := 1114) hx hb dL_law_1114 rfl (lv_at hl 2 rfl) ?_
  refine lv_aload_n (pc := 1115) hx hb dL_law_1115 rfl (lv_at hl 0 rfl) ?_
  refine lv_iload_n (pc := 1116) hx hb dL_law_1116 rfl (lv_at hl 3 rfl) ?_
  refine lv_iconst (pc := 1117) (v := 1) hx hb dL_law_1117 (by decide) ?_
  refine lv_iadd (pc := 1118) hx hb dL_law_1118 ?_
  obtain ⟨j434, hj435, h⟩ := bnd1 h
  refine r_sld (pc := 1119) X XL hS hj435 dL_law_1119 ?_
  obtain ⟨r438, σ436, e437, h⟩ := bnd2 h
  refine cl_L_140 X hP hS hz2 (As := [.int (xs j434)]) (rest := [.int r433]) (c_X10_draw l G hz2 e437) ⟨rfl, rfl, Nat.le_of_ble_eq_true rfl, Nat.le_of_ble_eq_true rfl⟩ rfl hl.1 rfl (Nat.le_of_ble_eq_true rfl) ⟨Nat.le_of_ble_eq_true rfl, Nat.le_of_ble_eq_true rfl⟩ (pc := 1120) dL_law_1120 (fun H locs hP hS => ?_)
  change W p l e _ s m _ below meth c H locs _ _ _ (F0 m (1120 + 3) ls (.int r438 :: [.int r433]))
  refine lv_icmp_eq (pc := 1123) (tgt := 1623) hx hb dL_law_1123 (by decide) (fun c439 => ?_) (fun c439 => ?_)
  · have h := ipos c439 h
    refine lv_iinc (pc := 1623) (v := (v3 + (5 : Int32))) (lv' := [(3, .int (v3 + (5 : Int32))), (0, .ref b), (1, .ref (ga G k1z)), (2, .ref (ga G k2z))]) hx hb dL_law_1623 hl (k := 3) rfl (congrArg (fun z => v3 + z) (by decide)) (by decide) rfl (fun ls hl => ?_)
    refine lv_goto (pc := 1626) (tgt := 18) hx hb dL_law_1626 (by decide) ?_
    exact ih1 _ _ _ _ _ hP hS (lv_sub hl [1, 2, 3, 0] rfl) h
  · have h := ineg c439 h
    refine lv_iconst (pc := 1126) (v := 0) hx hb dL_law_1126 (by decide) ?_
    exact absurd (inj2 h).1 (by decide)
set_option maxHeartbeats 4000000 in
set_option maxRecDepth 100000 in
theorem w_L_law_1128 {l : Launch} {G : Gh} {p : Program} {e : Env} {s : State} {m : MethodId} {below : List Frame} {meth : Method} {c : Code} {b L : Nat} {xs : Nat → Int32} (X : Cx G p s m #[Value.ref b] meth c code RL 4 (some .boolean)) (XL : LawX G b L xs s) {k1z : Nat} {k2z : Nat} (hz1 : kd k1z = 9) (hz2 : kd k2z = 10) {σr : Mem} {rec1 : Int32 → Mem → Option (Int32 × Mem)} (ih1 : ∀ (v3 : Int32) (σ : Mem) (H : Heap) (locs : List Loc) (ls : Array Slot), PW G σ H → va_S (AA G) s.heap H locs → lv_has ls 4 [(0, .ref b), (1, .ref (ga G k1z)), (2, .ref (ga G k2z)), (3, .int v3)] → rec1 v3 σ = some ((1 : Int32), σr) → W p l e room_1 s m #[Value.ref b] below meth c H locs 127 1782 (lw_Z below #[Value.ref b] s) (F0 m 18 ls [])) : ∀ (v3 : Int32) (σ : Mem) (H : Heap) (locs : List Loc) (ls : Array Slot), PW G σ H → va_S (AA G) s.heap H locs → lv_has ls 4 [(0, .ref b), (1, .ref (ga G k1z)), (2, .ref (ga G k2z)), (3, .int v3)] → F_L_law_1128 L xs k1z k2z rec1 v3 σ = some ((1 : Int32), σr) → W p l e room_1 s m #[Value.ref b] below meth c H locs 127 1782 (lw_Z below #[Value.ref b] s) (F0 m 1128 ls []) := by
  have hx := X.hx
  have hb := X.hb
  intro v3 σ H locs ls hP hS hl h
  unfold F_L_law_1128 at h
  refine lv_aload_n (pc := 1128) hx hb dL_law_1128 rfl (lv_at hl 1 rfl) ?_
  refine lv_aload_n (pc := 1129) hx hb dL_law_1129 rfl (lv_at hl 0 rfl) ?_
  refine lv_iload_n (pc := 1130) hx hb dL_law_1130 rfl (lv_at hl 3 rfl) ?_
  refine lv_iconst (pc := 1131) (v := 1) hx hb dL_law_1131 (by decide) ?_
  refine lv_iadd (pc := 1132) hx hb dL_law_1132 ?_
  obtain ⟨j441, hj442, h⟩ := bnd1 h
  refine r_sld (pc := 1133) X XL hS hj442 dL_law_1133 ?_
  obtain ⟨r445, σ443, e444, h⟩ := bnd2 h
  refine cl_L_141 X hP hS hz1 (As := [.int (xs j441)]) (rest := []) (c_X9_prove l G hz1 e444) ⟨rfl, rfl, Nat.le_of_ble_eq_true rfl, Nat.le_of_ble_eq_true rfl⟩ rfl hl.1 rfl (Nat.le_of_ble_eq_true rfl) ⟨Nat.le_of_ble_eq_true rfl, Nat.le_of_ble_eq_true rfl⟩ (pc := 1134) dL_law_1134 (fun H locs hP hS => ?_)
  change W p l e _ s m _ below meth c H locs _ _ _ (F0 m (1134 + 3) ls (.int r445 :: []))
  refine lv_aload_n (pc := 1137) hx hb dL_law_1137 rfl (lv_at hl 2 rfl) ?_
  refine lv_aload_n (pc := 1138) hx hb dL_law_1138 rfl (lv_at hl 0 rfl) ?_
  refine lv_iload_n (pc := 1139) hx hb dL_law_1139 rfl (lv_at hl 3 rfl) ?_
  refine lv_iconst (pc := 1140) (v := 1) hx hb dL_law_1140 (by decide) ?_
  refine lv_iadd (pc := 1141) hx hb dL_law_1141 ?_
  obtain ⟨j446, hj447, h⟩ := bnd1 h
  refine r_sld (pc := 1142) X XL hS hj447 dL_law_1142 ?_
  obtain ⟨r450, σ448, e449, h⟩ := bnd2 h
  refine cl_L_144 X hP hS hz2 (As := [.int (xs j446)]) (rest := [.int r445]) (c_X10_prove l G hz2 e449) ⟨rfl, rfl, Nat.le_of_ble_eq_true rfl, Nat.le_of_ble_eq_true rfl⟩ rfl hl.1 rfl (Nat.le_of_ble_eq_true rfl) ⟨Nat.le_of_ble_eq_true rfl, Nat.le_of_ble_eq_true rfl⟩ (pc := 1143) dL_law_1143 (fun H locs hP hS => ?_)
  change W p l e _ s m _ below meth c H locs _ _ _ (F0 m (1143 + 3) ls (.int r450 :: [.int r445]))
  refine lv_icmp_eq (pc := 1146) (tgt := 1623) hx hb dL_law_1146 (by decide) (fun c451 => ?_) (fun c451 => ?_)
  · have h := ipos c451 h
    refine lv_iinc (pc := 1623) (v := (v3 + (5 : Int32))) (lv' := [(3, .int (v3 + (5 : Int32))), (0, .ref b), (1, .ref (ga G k1z)), (2, .ref (ga G k2z))]) hx hb dL_law_1623 hl (k := 3) rfl (congrArg (fun z => v3 + z) (by decide)) (by decide) rfl (fun ls hl => ?_)
    refine lv_goto (pc := 1626) (tgt := 18) hx hb dL_law_1626 (by decide) ?_
    exact ih1 _ _ _ _ _ hP hS (lv_sub hl [1, 2, 3, 0] rfl) h
  · have h := ineg c451 h
    refine lv_iconst (pc := 1149) (v := 0) hx hb dL_law_1149 (by decide) ?_
    exact absurd (inj2 h).1 (by decide)
set_option maxHeartbeats 4000000 in
set_option maxRecDepth 100000 in
theorem w_L_law_1151 {l : Launch} {G : Gh} {p : Program} {e : Env} {s : State} {m : MethodId} {below : List Frame} {meth : Method} {c : Code} {b L : Nat} {xs : Nat → Int32} (X : Cx G p s m #[Value.ref b] meth c code RL 4 (some .boolean)) (XL : LawX G b L xs s) {k1z : Nat} {k2z : Nat} (hz1 : kd k1z = 9) (hz2 : kd k2z = 10) {σr : Mem} {rec1 : Int32 → Mem → Option (Int32 × Mem)} (ih1 : ∀ (v3 : Int32) (σ : Mem) (H : Heap) (locs : List Loc) (ls : Array Slot), PW G σ H → va_S (AA G) s.heap H locs → lv_has ls 4 [(0, .ref b), (1, .ref (ga G k1z)), (2, .ref (ga G k2z)), (3, .int v3)] → rec1 v3 σ = some ((1 : Int32), σr) → W p l e room_1 s m #[Value.ref b] below meth c H locs 127 1782 (lw_Z below #[Value.ref b] s) (F0 m 18 ls [])) : ∀ (v3 : Int32) (σ : Mem) (H : Heap) (locs : List Loc) (ls : Array Slot), PW G σ H → va_S (AA G) s.heap H locs → lv_has ls 4 [(0, .ref b), (1, .ref (ga G k1z)), (2, .ref (ga G k2z)), (3, .int v3)] → F_L_law_1151 L xs k1z k2z rec1 v3 σ = some ((1 : Int32), σr) → W p l e room_1 s m #[Value.ref b] below meth c H locs 127 1782 (lw_Z below #[Value.ref b] s) (F0 m 1151 ls []) := by
  have hx := X.hx
  have hb := X.hb
  intro v3 σ H locs ls hP hS hl h
  unfold F_L_law_1151 at h
  refine lv_aload_n (pc := 1151) hx hb dL_law_1151 rfl (lv_at hl 1 rfl) ?_
  refine lv_aload_n (pc := 1152) hx hb dL_law_1152 rfl (lv_at hl 0 rfl) ?_
  refine lv_iload_n (pc := 1153) hx hb dL_law_1153 rfl (lv_at hl 3 rfl) ?_
  refine lv_iconst (pc := 1154) (v := 1) hx hb dL_law_1154 (by decide) ?_
  refine lv_iadd (pc := 1155) hx hb dL_law_1155 ?_
  obtain ⟨j453, hj454, h⟩ := bnd1 h
  refine r_sld (pc := 1156) X XL hS hj454 dL_law_1156 ?_
  refine lv_aload_n (pc := 1157) hx hb dL_law_1157 rfl (lv_at hl 0 rfl) ?_
  refine lv_iload_n (pc := 1158) hx hb dL_law_1158 rfl (lv_at hl 3 rfl) ?_
  refine lv_iconst (pc := 1159) (v := 2) hx hb dL_law_1159 (by decide) ?_
  refine lv_iadd (pc := 1160) hx hb dL_law_1160 ?_
  obtain ⟨j455, hj456, h⟩ := bnd1 h
  refine r_sld (pc := 1161) X XL hS hj456 dL_law_1161 ?_
  obtain ⟨r459, σ457, e458, h⟩ := bnd2 h
  refine cl_L_145 X hP hS hz1 (As := [.int (xs j453), .int (xs j455)]) (rest := []) (c_X9_row l G hz1 e458) ⟨rfl, rfl, Nat.le_of_ble_eq_true rfl, Nat.le_of_ble_eq_true rfl⟩ rfl hl.1 rfl (Nat.le_of_ble_eq_true rfl) ⟨Nat.le_of_ble_eq_true rfl, Nat.le_of_ble_eq_true rfl⟩ (pc := 1162) dL_law_1162 (fun H locs hP hS => ?_)
  change W p l e _ s m _ below meth c H locs _ _ _ (F0 m (1162 + 3) ls (.int r459 :: []))
  refine lv_aload_n (pc := 1165) hx hb dL_law_1165 rfl (lv_at hl 2 rfl) ?_
  refine lv_aload_n (pc := 1166) hx hb dL_law_1166 rfl (lv_at hl 0 rfl) ?_
  refine lv_iload_n (pc := 1167) hx hb dL_law_1167 rfl (lv_at hl 3 rfl) ?_
  refine lv_iconst (pc := 1168) (v := 1) hx hb dL_law_1168 (by decide) ?_
  refine lv_iadd (pc := 1169) hx hb dL_law_1169 ?_
  obtain ⟨j460, hj461, h⟩ := bnd1 h
  refine r_sld (pc := 1170) X XL hS hj461 dL_law_1170 ?_
  refine lv_aload_n (pc := 1171) hx hb dL_law_1171 rfl (lv_at hl 0 rfl) ?_
  refine lv_iload_n (pc := 1172) hx hb dL_law_1172 rfl (lv_at hl 3 rfl) ?_
  refine lv_iconst (pc := 1173) (v := 2) hx hb dL_law_1173 (by decide) ?_
  refine lv_iadd (pc := 1174) hx hb dL_law_1174 ?_
  obtain ⟨j462, hj463, h⟩ := bnd1 h
  refine r_sld (pc := 1175) X XL hS hj463 dL_law_1175 ?_
  obtain ⟨r466, σ464, e465, h⟩ := bnd2 h
  refine cl_L_148 X hP hS hz2 (As := [.int (xs j460), .int (xs j462)]) (rest := [.int r459]) (c_X10_row l G hz2 e465) ⟨rfl, rfl, Nat.le_of_ble_eq_true rfl, Nat.le_of_ble_eq_true rfl⟩ rfl hl.1 rfl (Nat.le_of_ble_eq_true rfl) ⟨Nat.le_of_ble_eq_true rfl, Nat.le_of_ble_eq_true rfl⟩ (pc := 1176) dL_law_1176 (fun H locs hP hS => ?_)
  change W p l e _ s m _ below meth c H locs _ _ _ (F0 m (1176 + 3) ls (.int r466 :: [.int r459]))
  refine lv_icmp_eq (pc := 1179) (tgt := 1623) hx hb dL_law_1179 (by decide) (fun c467 => ?_) (fun c467 => ?_)
  · have h := ipos c467 h
    refine lv_iinc (pc := 1623) (v := (v3 + (5 : Int32))) (lv' := [(3, .int (v3 + (5 : Int32))), (0, .ref b), (1, .ref (ga G k1z)), (2, .ref (ga G k2z))]) hx hb dL_law_1623 hl (k := 3) rfl (congrArg (fun z => v3 + z) (by decide)) (by decide) rfl (fun ls hl => ?_)
    refine lv_goto (pc := 1626) (tgt := 18) hx hb dL_law_1626 (by decide) ?_
    exact ih1 _ _ _ _ _ hP hS (lv_sub hl [1, 2, 3, 0] rfl) h
  · have h := ineg c467 h
    refine lv_iconst (pc := 1182) (v := 0) hx hb dL_law_1182 (by decide) ?_
    exact absurd (inj2 h).1 (by decide)
set_option maxHeartbeats 4000000 in
set_option maxRecDepth 100000 in
theorem w_L_law_1184 {l : Launch} {G : Gh} {p : Program} {e : Env} {s : State} {m : MethodId} {below : List Frame} {meth : Method} {c : Code} {b L : Nat} {xs : Nat → Int32} (X : Cx G p s m #[Value.ref b] meth c code RL 4 (some .boolean)) (XL : LawX G b L xs s) {k1z : Nat} {k2z : Nat} (hz1 : kd k1z = 9) (hz2 : kd k2z = 10) {σr : Mem} {rec1 : Int32 → Mem → Option (Int32 × Mem)} (ih1 : ∀ (v3 : Int32) (σ : Mem) (H : Heap) (locs : List Loc) (ls : Array Slot), PW G σ H → va_S (AA G) s.heap H locs → lv_has ls 4 [(0, .ref b), (1, .ref (ga G k1z)), (2, .ref (ga G k2z)), (3, .int v3)] → rec1 v3 σ = some ((1 : Int32), σr) → W p l e room_1 s m #[Value.ref b] below meth c H locs 127 1782 (lw_Z below #[Value.ref b] s) (F0 m 18 ls [])) : ∀ (v3 : Int32) (σ : Mem) (H : Heap) (locs : List Loc) (ls : Array Slot), PW G σ H → va_S (AA G) s.heap H locs → lv_has ls 4 [(0, .ref b), (1, .ref (ga G k1z)), (2, .ref (ga G k2z)), (3, .int v3)] → F_L_law_1184 L xs k1z k2z rec1 v3 σ = some ((1 : Int32), σr) → W p l e room_1 s m #[Value.ref b] below meth c H locs 127 1782 (lw_Z below #[Value.ref b] s) (F0 m 1184 ls []) := by
  have hx := X.hx
  have hb := X.hb
  intro v3 σ H locs ls hP hS hl h
  unfold F_L_law_1184 at h
  refine lv_aload_n (pc := 1184) hx hb dL_law_1184 rfl (lv_at hl 1 rfl) ?_
  refine lv_aload_n (pc := 1185) hx hb dL_law_1185 rfl (lv_at hl 0 rfl) ?_
  refine lv_iload_n (pc := 1186) hx hb dL_law_1186 rfl (lv_at hl 3 rfl) ?_
  refine lv_iconst (pc := 1187) (v := 1) hx hb dL_law_1187 (by decide) ?_
  refine lv_iadd (pc := 1188) hx hb dL_law_1188 ?_
  obtain ⟨j469, hj470, h⟩ := bnd1 h
  refine r_sld (pc := 1189) X XL hS hj470 dL_law_1189 ?_
  refine lv_aload_n (pc := 1190) hx hb dL_law_1190 rfl (lv_at hl 0 rfl) ?_
  refine lv_iload_n (pc := 1191) hx hb dL_law_1191 rfl (lv_at hl 3 rfl) ?_
  refine lv_iconst (pc := 1192) (v := 2) hx hb dL_law_1192 (by decide) ?_
  refine lv_iadd (pc := 1193) hx hb dL_law_1193 ?_
  obtain ⟨j471, hj472, h⟩ := bnd1 h
  refine r_sld (pc := 1194) X XL hS hj472 dL_law_1194 ?_
  refine lv_aload_n (pc := 1195) hx hb dL_law_1195 rfl (lv_at hl 0 rfl) ?_
  refine lv_iload_n (pc := 1196) hx hb dL_law_1196 rfl (lv_at hl 3 rfl) ?_
  refine lv_iconst (pc := 1197) (v := 3) hx hb dL_law_1197 (by decide) ?_
  refine lv_iadd (pc := 1198) hx hb dL_law_1198 ?_
  obtain ⟨j473, hj474, h⟩ := bnd1 h
  refine r_sld (pc := 1199) X XL hS hj474 dL_law_1199 ?_
  obtain ⟨r477, σ475, e476, h⟩ := bnd2 h
  refine cl_L_149 X hP hS hz1 (As := [.int (xs j469), .int (xs j471), .int (xs j473)]) (rest := []) (c_X9_alterRow l G hz1 e476) ⟨rfl, rfl, Nat.le_of_ble_eq_true rfl, Nat.le_of_ble_eq_true rfl⟩ rfl hl.1 rfl (Nat.le_of_ble_eq_true rfl) ⟨Nat.le_of_ble_eq_true rfl, Nat.le_of_ble_eq_true rfl⟩ (pc := 1200) dL_law_1200 (fun H locs hP hS => ?_)
  change W p l e _ s m _ below meth c H locs _ _ _ (F0 m (1200 + 3) ls (.int r477 :: []))
  refine lv_aload_n (pc := 1203) hx hb dL_law_1203 rfl (lv_at hl 2 rfl) ?_
  refine lv_aload_n (pc := 1204) hx hb dL_law_1204 rfl (lv_at hl 0 rfl) ?_
  refine lv_iload_n (pc := 1205) hx hb dL_law_1205 rfl (lv_at hl 3 rfl) ?_
  refine lv_iconst (pc := 1206) (v := 1) hx hb dL_law_1206 (by decide) ?_
  refine lv_iadd (pc := 1207) hx hb dL_law_1207 ?_
  obtain ⟨j478, hj479, h⟩ := bnd1 h
  refine r_sld (pc := 1208) X XL hS hj479 dL_law_1208 ?_
  refine lv_aload_n (pc := 1209) hx hb dL_law_1209 rfl (lv_at hl 0 rfl) ?_
  refine lv_iload_n (pc := 1210) hx hb dL_law_1210 rfl (lv_at hl 3 rfl) ?_
  refine lv_iconst (pc := 1211) (v := 2) hx hb dL_law_1211 (by decide) ?_
  refine lv_iadd (pc := 1212) hx hb dL_law_1212 ?_
  obtain ⟨j480, hj481, h⟩ := bnd1 h
  refine r_sld (pc := 1213) X XL hS hj481 dL_law_1213 ?_
  refine lv_aload_n (pc := 1214) hx hb dL_law_1214 rfl (lv_at hl 0 rfl) ?_
  refine lv_iload_n (pc := 1215) hx hb dL_law_1215 rfl (lv_at hl 3 rfl) ?_
  refine lv_iconst (pc := 1216) (v := 3) hx hb dL_law_1216 (by decide) ?_
  refine lv_iadd (pc := 1217) hx hb dL_law_1217 ?_
  obtain ⟨j482, hj483, h⟩ := bnd1 h
  refine r_sld (pc := 1218) X XL hS hj483 dL_law_1218 ?_
  obtain ⟨r486, σ484, e485, h⟩ := bnd2 h
  refine cl_L_152 X hP hS hz2 (As := [.int (xs j478), .int (xs j480), .int (xs j482)]) (rest := [.int r477]) (c_X10_alterRow l G hz2 e485) ⟨rfl, rfl, Nat.le_of_ble_eq_true rfl, Nat.le_of_ble_eq_true rfl⟩ rfl hl.1 rfl (Nat.le_of_ble_eq_true rfl) ⟨Nat.le_of_ble_eq_true rfl, Nat.le_of_ble_eq_true rfl⟩ (pc := 1219) dL_law_1219 (fun H locs hP hS => ?_)
  change W p l e _ s m _ below meth c H locs _ _ _ (F0 m (1219 + 3) ls (.int r486 :: [.int r477]))
  refine lv_icmp_eq (pc := 1222) (tgt := 1623) hx hb dL_law_1222 (by decide) (fun c487 => ?_) (fun c487 => ?_)
  · have h := ipos c487 h
    refine lv_iinc (pc := 1623) (v := (v3 + (5 : Int32))) (lv' := [(3, .int (v3 + (5 : Int32))), (0, .ref b), (1, .ref (ga G k1z)), (2, .ref (ga G k2z))]) hx hb dL_law_1623 hl (k := 3) rfl (congrArg (fun z => v3 + z) (by decide)) (by decide) rfl (fun ls hl => ?_)
    refine lv_goto (pc := 1626) (tgt := 18) hx hb dL_law_1626 (by decide) ?_
    exact ih1 _ _ _ _ _ hP hS (lv_sub hl [1, 2, 3, 0] rfl) h
  · have h := ineg c487 h
    refine lv_iconst (pc := 1225) (v := 0) hx hb dL_law_1225 (by decide) ?_
    exact absurd (inj2 h).1 (by decide)
set_option maxHeartbeats 4000000 in
set_option maxRecDepth 100000 in
theorem w_L_law_1227 {l : Launch} {G : Gh} {p : Program} {e : Env} {s : State} {m : MethodId} {below : List Frame} {meth : Method} {c : Code} {b L : Nat} {xs : Nat → Int32} (X : Cx G p s m #[Value.ref b] meth c code RL 4 (some .boolean)) (XL : LawX G b L xs s) {k1z : Nat} {k2z : Nat} (hz1 : kd k1z = 9) (hz2 : kd k2z = 10) {σr : Mem} {rec1 : Int32 → Mem → Option (Int32 × Mem)} (ih1 : ∀ (v3 : Int32) (σ : Mem) (H : Heap) (locs : List Loc) (ls : Array Slot), PW G σ H → va_S (AA G) s.heap H locs → lv_has ls 4 [(0, .ref b), (1, .ref (ga G k1z)), (2, .ref (ga G k2z)), (3, .int v3)] → rec1 v3 σ = some ((1 : Int32), σr) → W p l e room_1 s m #[Value.ref b] below meth c H locs 127 1782 (lw_Z below #[Value.ref b] s) (F0 m 18 ls [])) : ∀ (v3 : Int32) (σ : Mem) (H : Heap) (locs : List Loc) (ls : Array Slot), PW G σ H → va_S (AA G) s.heap H locs → lv_has ls 4 [(0, .ref b), (1, .ref (ga G k1z)), (2, .ref (ga G k2z)), (3, .int v3)] → F_L_law_1227 L xs k1z k2z rec1 v3 σ = some ((1 : Int32), σr) → W p l e room_1 s m #[Value.ref b] below meth c H locs 127 1782 (lw_Z below #[Value.ref b] s) (F0 m 1227 ls []) := by
  have hx := X.hx
  have hb := X.hb
  intro v3 σ H locs ls hP hS hl h
  unfold F_L_law_1227 at h
  refine lv_aload_n (pc := 1227) hx hb dL_law_1227 rfl (lv_at hl 1 rfl) ?_
  refine lv_aload_n (pc := 1228) hx hb dL_law_1228 rfl (lv_at hl 0 rfl) ?_
  refine lv_iload_n (pc := 1229) hx hb dL_law_1229 rfl (lv_at hl 3 rfl) ?_
  refine lv_iconst (pc := 1230) (v := 1) hx hb dL_law_1230 (by decide) ?_
  refine lv_iadd (pc := 1231) hx hb dL_law_1231 ?_
  obtain ⟨j489, hj490, h⟩ := bnd1 h
  refine r_sld (pc := 1232) X XL hS hj490 dL_law_1232 ?_
  obtain ⟨r493, σ491, e492, h⟩ := bnd2 h
  refine cl_L_153 X hP hS hz1 (As := [.int (xs j489)]) (rest := []) (c_X9_judge l G hz1 e492) ⟨rfl, rfl, Nat.le_of_ble_eq_true rfl, Nat.le_of_ble_eq_true rfl⟩ rfl hl.1 rfl (Nat.le_of_ble_eq_true rfl) ⟨Nat.le_of_ble_eq_true rfl, Nat.le_of_ble_eq_true rfl⟩ (pc := 1233) dL_law_1233 (fun H locs hP hS => ?_)
  change W p l e _ s m _ below meth c H locs _ _ _ (F0 m (1233 + 3) ls (.int r493 :: []))
  refine lv_aload_n (pc := 1236) hx hb dL_law_1236 rfl (lv_at hl 2 rfl) ?_
  refine lv_aload_n (pc := 1237) hx hb dL_law_1237 rfl (lv_at hl 0 rfl) ?_
  refine lv_iload_n (pc := 1238) hx hb dL_law_1238 rfl (lv_at hl 3 rfl) ?_
  refine lv_iconst (pc := 1239) (v := 1) hx hb dL_law_1239 (by decide) ?_
  refine lv_iadd (pc := 1240) hx hb dL_law_1240 ?_
  obtain ⟨j494, hj495, h⟩ := bnd1 h
  refine r_sld (pc := 1241) X XL hS hj495 dL_law_1241 ?_
  obtain ⟨r498, σ496, e497, h⟩ := bnd2 h
  refine cl_L_156 X hP hS hz2 (As := [.int (xs j494)]) (rest := [.int r493]) (c_X10_judge l G hz2 e497) ⟨rfl, rfl, Nat.le_of_ble_eq_true rfl, Nat.le_of_ble_eq_true rfl⟩ rfl hl.1 rfl (Nat.le_of_ble_eq_true rfl) ⟨Nat.le_of_ble_eq_true rfl, Nat.le_of_ble_eq_true rfl⟩ (pc := 1242) dL_law_1242 (fun H locs hP hS => ?_)
  change W p l e _ s m _ below meth c H locs _ _ _ (F0 m (1242 + 3) ls (.int r498 :: [.int r493]))
  refine lv_icmp_eq (pc := 1245) (tgt := 1623) hx hb dL_law_1245 (by decide) (fun c499 => ?_) (fun c499 => ?_)
  · have h := ipos c499 h
    refine lv_iinc (pc := 1623) (v := (v3 + (5 : Int32))) (lv' := [(3, .int (v3 + (5 : Int32))), (0, .ref b), (1, .ref (ga G k1z)), (2, .ref (ga G k2z))]) hx hb dL_law_1623 hl (k := 3) rfl (congrArg (fun z => v3 + z) (by decide)) (by decide) rfl (fun ls hl => ?_)
    refine lv_goto (pc := 1626) (tgt := 18) hx hb dL_law_1626 (by decide) ?_
    exact ih1 _ _ _ _ _ hP hS (lv_sub hl [1, 2, 3, 0] rfl) h
  · have h := ineg c499 h
    refine lv_iconst (pc := 1248) (v := 0) hx hb dL_law_1248 (by decide) ?_
    exact absurd (inj2 h).1 (by decide)
set_option maxHeartbeats 4000000 in
set_option maxRecDepth 100000 in
theorem w_L_law_1250 {l : Launch} {G : Gh} {p : Program} {e : Env} {s : State} {m : MethodId} {below : List Frame} {meth : Method} {c : Code} {b L : Nat} {xs : Nat → Int32} (X : Cx G p s m #[Value.ref b] meth c code RL 4 (some .boolean)) (XL : LawX G b L xs s) {k1z : Nat} {k2z : Nat} (hz1 : kd k1z = 9) (hz2 : kd k2z = 10) {σr : Mem} {rec1 : Int32 → Mem → Option (Int32 × Mem)} (ih1 : ∀ (v3 : Int32) (σ : Mem) (H : Heap) (locs : List Loc) (ls : Array Slot), PW G σ H → va_S (AA G) s.heap H locs → lv_has ls 4 [(0, .ref b), (1, .ref (ga G k1z)), (2, .ref (ga G k2z)), (3, .int v3)] → rec1 v3 σ = some ((1 : Int32), σr) → W p l e room_1 s m #[Value.ref b] below meth c H locs 127 1782 (lw_Z below #[Value.ref b] s) (F0 m 18 ls [])) : ∀ (v3 : Int32) (σ : Mem) (H : Heap) (locs : List Loc) (ls : Array Slot), PW G σ H → va_S (AA G) s.heap H locs → lv_has ls 4 [(0, .ref b), (1, .ref (ga G k1z)), (2, .ref (ga G k2z)), (3, .int v3)] → F_L_law_1250 L xs k1z k2z rec1 v3 σ = some ((1 : Int32), σr) → W p l e room_1 s m #[Value.ref b] below meth c H locs 127 1782 (lw_Z below #[Value.ref b] s) (F0 m 1250 ls []) := by
  have hx := X.hx
  have hb := X.hb
  intro v3 σ H locs ls hP hS hl h
  unfold F_L_law_1250 at h
  refine lv_aload_n (pc := 1250) hx hb dL_law_1250 rfl (lv_at hl 1 rfl) ?_
  refine lv_aload_n (pc := 1251) hx hb dL_law_1251 rfl (lv_at hl 0 rfl) ?_
  refine lv_iload_n (pc := 1252) hx hb dL_law_1252 rfl (lv_at hl 3 rfl) ?_
  refine lv_iconst (pc := 1253) (v := 1) hx hb dL_law_1253 (by decide) ?_
  refine lv_iadd (pc := 1254) hx hb dL_law_1254 ?_
  obtain ⟨j501, hj502, h⟩ := bnd1 h
  refine r_sld (pc := 1255) X XL hS hj502 dL_law_1255 ?_
  refine lv_aload_n (pc := 1256) hx hb dL_law_1256 rfl (lv_at hl 0 rfl) ?_
  refine lv_iload_n (pc := 1257) hx hb dL_law_1257 rfl (lv_at hl 3 rfl) ?_
  refine lv_iconst (pc := 1258) (v := 2) hx hb dL_law_1258 (by decide) ?_
  refine lv_iadd (pc := 1259) hx hb dL_law_1259 ?_
  obtain ⟨j503, hj504, h⟩ := bnd1 h
  refine r_sld (pc := 1260) X XL hS hj504 dL_law_1260 ?_
  refine lv_aload_n (pc := 1261) hx hb dL_law_1261 rfl (lv_at hl 0 rfl) ?_
  refine lv_iload_n (pc := 1262) hx hb dL_law_1262 rfl (lv_at hl 3 rfl) ?_
  refine lv_iconst (pc := 1263) (v := 3) hx hb dL_law_1263 (by decide) ?_
  refine lv_iadd (pc := 1264) hx hb dL_law_1264 ?_
  obtain ⟨j505, hj506, h⟩ := bnd1 h
  refine r_sld (pc := 1265) X XL hS hj506 dL_law_1265 ?_
  refine lv_aload_n (pc := 1266) hx hb dL_law_1266 rfl (lv_at hl 0 rfl) ?_
  refine lv_iload_n (pc := 1267) hx hb dL_law_1267 rfl (lv_at hl 3 rfl) ?_
  refine lv_iconst (pc := 1268) (v := 4) hx hb dL_law_1268 (by decide) ?_
  refine lv_iadd (pc := 1269) hx hb dL_law_1269 ?_
  obtain ⟨j507, hj508, h⟩ := bnd1 h
  refine r_sld (pc := 1270) X XL hS hj508 dL_law_1270 ?_
  obtain ⟨r511, σ509, e510, h⟩ := bnd2 h
  refine cl_L_157 X hP hS hz1 (As := [.int (xs j501), .int (xs j503), .int (xs j505), .int (xs j507)]) (rest := []) (c_X9_draughts l G hz1 e510) ⟨rfl, rfl, Nat.le_of_ble_eq_true rfl, Nat.le_of_ble_eq_true rfl⟩ rfl hl.1 rfl (Nat.le_of_ble_eq_true rfl) ⟨Nat.le_of_ble_eq_true rfl, Nat.le_of_ble_eq_true rfl⟩ (pc := 1271) dL_law_1271 (fun H locs hP hS => ?_)
  change W p l e _ s m _ below meth c H locs _ _ _ (F0 m (1271 + 3) ls (.int r511 :: []))
  refine lv_aload_n (pc := 1274) hx hb dL_law_1274 rfl (lv_at hl 2 rfl) ?_
  refine lv_aload_n (pc := 1275) hx hb dL_law_1275 rfl (lv_at hl 0 rfl) ?_
  refine lv_iload_n (pc := 1276) hx hb dL_law_1276 rfl (lv_at hl 3 rfl) ?_
  refine lv_iconst (pc := 1277) (v := 1) hx hb dL_law_1277 (by decide) ?_
  refine lv_iadd (pc := 1278) hx hb dL_law_1278 ?_
  obtain ⟨j512, hj513, h⟩ := bnd1 h
  refine r_sld (pc := 1279) X XL hS hj513 dL_law_1279 ?_
  refine lv_aload_n (pc := 1280) hx hb dL_law_1280 rfl (lv_at hl 0 rfl) ?_
  refine lv_iload_n (pc := 1281) hx hb dL_law_1281 rfl (lv_at hl 3 rfl) ?_
  refine lv_iconst (pc := 1282) (v := 2) hx hb dL_law_1282 (by decide) ?_
  refine lv_iadd (pc := 1283) hx hb dL_law_1283 ?_
  obtain ⟨j514, hj515, h⟩ := bnd1 h
  refine r_sld (pc := 1284) X XL hS hj515 dL_law_1284 ?_
  refine lv_aload_n (pc := 1285) hx hb dL_law_1285 rfl (lv_at hl 0 rfl) ?_
  refine lv_iload_n (pc := 1286) hx hb dL_law_1286 rfl (lv_at hl 3 rfl) ?_
  refine lv_iconst (pc := 1287) (v := 3) hx hb dL_law_1287 (by decide) ?_
  refine lv_iadd (pc := 1288) hx hb dL_law_1288 ?_
  obtain ⟨j516, hj517, h⟩ := bnd1 h
  refine r_sld (pc := 1289) X XL hS hj517 dL_law_1289 ?_
  refine lv_aload_n (pc := 1290) hx hb dL_law_1290 rfl (lv_at hl 0 rfl) ?_
  refine lv_iload_n (pc := 1291) hx hb dL_law_1291 rfl (lv_at hl 3 rfl) ?_
  refine lv_iconst (pc := 1292) (v := 4) hx hb dL_law_1292 (by decide) ?_
  refine lv_iadd (pc := 1293) hx hb dL_law_1293 ?_
  obtain ⟨j518, hj519, h⟩ := bnd1 h
  refine r_sld (pc := 1294) X XL hS hj519 dL_law_1294 ?_
  obtain ⟨r522, σ520, e521, h⟩ := bnd2 h
  refine cl_L_160 X hP hS hz2 (As := [.int (xs j512), .int (xs j514), .int (xs j516), .int (xs j518)]) (rest := [.int r511]) (c_X10_draughts l G hz2 e521) ⟨rfl, rfl, Nat.le_of_ble_eq_true rfl, Nat.le_of_ble_eq_true rfl⟩ rfl hl.1 rfl (Nat.le_of_ble_eq_true rfl) ⟨Nat.le_of_ble_eq_true rfl, Nat.le_of_ble_eq_true rfl⟩ (pc := 1295) dL_law_1295 (fun H locs hP hS => ?_)
  change W p l e _ s m _ below meth c H locs _ _ _ (F0 m (1295 + 3) ls (.int r522 :: [.int r511]))
  refine lv_icmp_eq (pc := 1298) (tgt := 1623) hx hb dL_law_1298 (by decide) (fun c523 => ?_) (fun c523 => ?_)
  · have h := ipos c523 h
    refine lv_iinc (pc := 1623) (v := (v3 + (5 : Int32))) (lv' := [(3, .int (v3 + (5 : Int32))), (0, .ref b), (1, .ref (ga G k1z)), (2, .ref (ga G k2z))]) hx hb dL_law_1623 hl (k := 3) rfl (congrArg (fun z => v3 + z) (by decide)) (by decide) rfl (fun ls hl => ?_)
    refine lv_goto (pc := 1626) (tgt := 18) hx hb dL_law_1626 (by decide) ?_
    exact ih1 _ _ _ _ _ hP hS (lv_sub hl [1, 2, 3, 0] rfl) h
  · have h := ineg c523 h
    refine lv_iconst (pc := 1301) (v := 0) hx hb dL_law_1301 (by decide) ?_
    exact absurd (inj2 h).1 (by decide)
set_option maxHeartbeats 4000000 in
set_option maxRecDepth 100000 in
theorem w_L_law_1303 {l : Launch} {G : Gh} {p : Program} {e : Env} {s : State} {m : MethodId} {below : List Frame} {meth : Method} {c : Code} {b L : Nat} {xs : Nat → Int32} (X : Cx G p s m #[Value.ref b] meth c code RL 4 (some .boolean)) (XL : LawX G b L xs s) {k1z : Nat} {k2z : Nat} (hz1 : kd k1z = 9) (hz2 : kd k2z = 10) {σr : Mem} {rec1 : Int32 → Mem → Option (Int32 × Mem)} (ih1 : ∀ (v3 : Int32) (σ : Mem) (H : Heap) (locs : List Loc) (ls : Array Slot), PW G σ H → va_S (AA G) s.heap H locs → lv_has ls 4 [(0, .ref b), (1, .ref (ga G k1z)), (2, .ref (ga G k2z)), (3, .int v3)] → rec1 v3 σ = some ((1 : Int32), σr) → W p l e room_1 s m #[Value.ref b] below meth c H locs 127 1782 (lw_Z below #[Value.ref b] s) (F0 m 18 ls [])) : ∀ (v3 : Int32) (σ : Mem) (H : Heap) (locs : List Loc) (ls : Array Slot), PW G σ H → va_S (AA G) s.heap H locs → lv_has ls 4 [(0, .ref b), (1, .ref (ga G k1z)), (2, .ref (ga G k2z)), (3, .int v3)] → F_L_law_1303 L xs k1z k2z rec1 v3 σ = some ((1 : Int32), σr) → W p l e room_1 s m #[Value.ref b] below meth c H locs 127 1782 (lw_Z below #[Value.ref b] s) (F0 m 1303 ls []) := by
  have hx := X.hx
  have hb := X.hb
  intro v3 σ H locs ls hP hS hl h
  unfold F_L_law_1303 at h
  refine lv_aload_n (pc := 1303) hx hb dL_law_1303 rfl (lv_at hl 1 rfl) ?_
  refine lv_aload_n (pc := 1304) hx hb dL_law_1304 rfl (lv_at hl 0 rfl) ?_
  refine lv_iload_n (pc := 1305) hx hb dL_law_1305 rfl (lv_at hl 3 rfl) ?_
  refine lv_iconst (pc := 1306) (v := 1) hx hb dL_law_1306 (by decide) ?_
  refine lv_iadd (pc := 1307) hx hb dL_law_1307 ?_
  obtain ⟨j525, hj526, h⟩ := bnd1 h
  refine r_sld (pc := 1308) X XL hS hj526 dL_law_1308 ?_
  refine lv_aload_n (pc := 1309) hx hb dL_law_1309 rfl (lv_at hl 0 rfl) ?_
  refine lv_iload_n (pc := 1310) hx hb dL_law_1310 rfl (lv_at hl 3 rfl) ?_
  refine lv_iconst (pc := 1311) (v := 2) hx hb dL_law_1311 (by decide) ?_
  refine lv_iadd (pc := 1312) hx hb dL_law_1312 ?_
  obtain ⟨j527, hj528, h⟩ := bnd1 h
  refine r_sld (pc := 1313) X XL hS hj528 dL_law_1313 ?_
  refine lv_aload_n (pc := 1314) hx hb dL_law_1314 rfl (lv_at hl 0 rfl) ?_
  refine lv_iload_n (pc := 1315) hx hb dL_law_1315 rfl (lv_at hl 3 rfl) ?_
  refine lv_iconst (pc := 1316) (v := 3) hx hb dL_law_1316 (by decide) ?_
  refine lv_iadd (pc := 1317) hx hb dL_law_1317 ?_
  obtain ⟨j529, hj530, h⟩ := bnd1 h
  refine r_sld (pc := 1318) X XL hS hj530 dL_law_1318 ?_
  obtain ⟨r533, σ531, e532, h⟩ := bnd2 h
  refine cl_L_161 X hP hS hz1 (As := [.int (xs j525), .int (xs j527), .int (xs j529)]) (rest := []) (c_X9_sheet l G hz1 e532) ⟨rfl, rfl, Nat.le_of_ble_eq_true rfl, Nat.le_of_ble_eq_true rfl⟩ rfl hl.1 rfl (Nat.le_of_ble_eq_true rfl) ⟨Nat.le_of_ble_eq_true rfl, Nat.le_of_ble_eq_true rfl⟩ (pc := 1319) dL_law_1319 (fun H locs hP hS => ?_)
  change W p l e _ s m _ below meth c H locs _ _ _ (F0 m (1319 + 3) ls (.int r533 :: []))
  refine lv_aload_n (pc := 1322) hx hb dL_law_1322 rfl (lv_at hl 2 rfl) ?_
  refine lv_aload_n (pc := 1323) hx hb dL_law_1323 rfl (lv_at hl 0 rfl) ?_
  refine lv_iload_n (pc := 1324) hx hb dL_law_1324 rfl (lv_at hl 3 rfl) ?_
  refine lv_iconst (pc := 1325) (v := 1) hx hb dL_law_1325 (by decide) ?_
  refine lv_iadd (pc := 1326) hx hb dL_law_1326 ?_
  obtain ⟨j534, hj535, h⟩ := bnd1 h
  refine r_sld (pc := 1327) X XL hS hj535 dL_law_1327 ?_
  refine lv_aload_n (pc := 1328) hx hb dL_law_1328 rfl (lv_at hl 0 rfl) ?_
  refine lv_iload_n (pc := 1329) hx hb dL_law_1329 rfl (lv_at hl 3 rfl) ?_
  refine lv_iconst (pc := 1330) (v := 2) hx hb dL_law_1330 (by decide) ?_
  refine lv_iadd (pc := 1331) hx hb dL_law_1331 ?_
  obtain ⟨j536, hj537, h⟩ := bnd1 h
  refine r_sld (pc := 1332) X XL hS hj537 dL_law_1332 ?_
  refine lv_aload_n (pc := 1333) hx hb dL_law_1333 rfl (lv_at hl 0 rfl) ?_
  refine lv_iload_n (pc := 1334) hx hb dL_law_1334 rfl (lv_at hl 3 rfl) ?_
  refine lv_iconst (pc := 1335) (v := 3) hx hb dL_law_1335 (by decide) ?_
  refine lv_iadd (pc := 1336) hx hb dL_law_1336 ?_
  obtain ⟨j538, hj539, h⟩ := bnd1 h
  refine r_sld (pc := 1337) X XL hS hj539 dL_law_1337 ?_
  obtain ⟨r542, σ540, e541, h⟩ := bnd2 h
  refine cl_L_164 X hP hS hz2 (As := [.int (xs j534), .int (xs j536), .int (xs j538)]) (rest := [.int r533]) (c_X10_sheet l G hz2 e541) ⟨rfl, rfl, Nat.le_of_ble_eq_true rfl, Nat.le_of_ble_eq_true rfl⟩ rfl hl.1 rfl (Nat.le_of_ble_eq_true rfl) ⟨Nat.le_of_ble_eq_true rfl, Nat.le_of_ble_eq_true rfl⟩ (pc := 1338) dL_law_1338 (fun H locs hP hS => ?_)
  change W p l e _ s m _ below meth c H locs _ _ _ (F0 m (1338 + 3) ls (.int r542 :: [.int r533]))
  refine lv_icmp_eq (pc := 1341) (tgt := 1623) hx hb dL_law_1341 (by decide) (fun c543 => ?_) (fun c543 => ?_)
  · have h := ipos c543 h
    refine lv_iinc (pc := 1623) (v := (v3 + (5 : Int32))) (lv' := [(3, .int (v3 + (5 : Int32))), (0, .ref b), (1, .ref (ga G k1z)), (2, .ref (ga G k2z))]) hx hb dL_law_1623 hl (k := 3) rfl (congrArg (fun z => v3 + z) (by decide)) (by decide) rfl (fun ls hl => ?_)
    refine lv_goto (pc := 1626) (tgt := 18) hx hb dL_law_1626 (by decide) ?_
    exact ih1 _ _ _ _ _ hP hS (lv_sub hl [1, 2, 3, 0] rfl) h
  · have h := ineg c543 h
    refine lv_iconst (pc := 1344) (v := 0) hx hb dL_law_1344 (by decide) ?_
    exact absurd (inj2 h).1 (by decide)
set_option maxHeartbeats 4000000 in
set_option maxRecDepth 100000 in
theorem w_L_law_1346 {l : Launch} {G : Gh} {p : Program} {e : Env} {s : State} {m : MethodId} {below : List Frame} {meth : Method} {c : Code} {b L : Nat} {xs : Nat → Int32} (X : Cx G p s m #[Value.ref b] meth c code RL 4 (some .boolean)) (XL : LawX G b L xs s) {k1z : Nat} {k2z : Nat} (hz1 : kd k1z = 9) (hz2 : kd k2z = 10) {σr : Mem} {rec1 : Int32 → Mem → Option (Int32 × Mem)} (ih1 : ∀ (v3 : Int32) (σ : Mem) (H : Heap) (locs : List Loc) (ls : Array Slot), PW G σ H → va_S (AA G) s.heap H locs → lv_has ls 4 [(0, .ref b), (1, .ref (ga G k1z)), (2, .ref (ga G k2z)), (3, .int v3)] → rec1 v3 σ = some ((1 : Int32), σr) → W p l e room_1 s m #[Value.ref b] below meth c H locs 127 1782 (lw_Z below #[Value.ref b] s) (F0 m 18 ls [])) : ∀ (v3 : Int32) (σ : Mem) (H : Heap) (locs : List Loc) (ls : Array Slot), PW G σ H → va_S (AA G) s.heap H locs → lv_has ls 4 [(0, .ref b), (1, .ref (ga G k1z)), (2, .ref (ga G k2z)), (3, .int v3)] → F_L_law_1346 L xs k1z k2z rec1 v3 σ = some ((1 : Int32), σr) → W p l e room_1 s m #[Value.ref b] below meth c H locs 127 1782 (lw_Z below #[Value.ref b] s) (F0 m 1346 ls []) := by
  have hx := X.hx
  have hb := X.hb
  intro v3 σ H locs ls hP hS hl h
  unfold F_L_law_1346 at h
  refine lv_aload_n (pc := 1346) hx hb dL_law_1346 rfl (lv_at hl 1 rfl) ?_
  refine lv_aload_n (pc := 1347) hx hb dL_law_1347 rfl (lv_at hl 0 rfl) ?_
  refine lv_iload_n (pc := 1348) hx hb dL_law_1348 rfl (lv_at hl 3 rfl) ?_
  refine lv_iconst (pc := 1349) (v := 1) hx hb dL_law_1349 (by decide) ?_
  refine lv_iadd (pc := 1350) hx hb dL_law_1350 ?_
  obtain ⟨j545, hj546, h⟩ := bnd1 h
  refine r_sld (pc := 1351) X XL hS hj546 dL_law_1351 ?_
  refine lv_aload_n (pc := 1352) hx hb dL_law_1352 rfl (lv_at hl 0 rfl) ?_
  refine lv_iload_n (pc := 1353) hx hb dL_law_1353 rfl (lv_at hl 3 rfl) ?_
  refine lv_iconst (pc := 1354) (v := 2) hx hb dL_law_1354 (by decide) ?_
  refine lv_iadd (pc := 1355) hx hb dL_law_1355 ?_
  obtain ⟨j547, hj548, h⟩ := bnd1 h
  refine r_sld (pc := 1356) X XL hS hj548 dL_law_1356 ?_
  refine lv_aload_n (pc := 1357) hx hb dL_law_1357 rfl (lv_at hl 0 rfl) ?_
  refine lv_iload_n (pc := 1358) hx hb dL_law_1358 rfl (lv_at hl 3 rfl) ?_
  refine lv_iconst (pc := 1359) (v := 3) hx hb dL_law_1359 (by decide) ?_
  refine lv_iadd (pc := 1360) hx hb dL_law_1360 ?_
  obtain ⟨j549, hj550, h⟩ := bnd1 h
  refine r_sld (pc := 1361) X XL hS hj550 dL_law_1361 ?_
  obtain ⟨r553, σ551, e552, h⟩ := bnd2 h
  refine cl_L_165 X hP hS hz1 (As := [.int (xs j545), .int (xs j547), .int (xs j549)]) (rest := []) (c_X9_put l G hz1 e552) ⟨rfl, rfl, Nat.le_of_ble_eq_true rfl, Nat.le_of_ble_eq_true rfl⟩ rfl hl.1 rfl (Nat.le_of_ble_eq_true rfl) ⟨Nat.le_of_ble_eq_true rfl, Nat.le_of_ble_eq_true rfl⟩ (pc := 1362) dL_law_1362 (fun H locs hP hS => ?_)
  change W p l e _ s m _ below meth c H locs _ _ _ (F0 m (1362 + 3) ls (.int r553 :: []))
  refine lv_aload_n (pc := 1365) hx hb dL_law_1365 rfl (lv_at hl 2 rfl) ?_
  refine lv_aload_n (pc := 1366) hx hb dL_law_1366 rfl (lv_at hl 0 rfl) ?_
  refine lv_iload_n (pc := 1367) hx hb dL_law_1367 rfl (lv_at hl 3 rfl) ?_
  refine lv_iconst (pc := 1368) (v := 1) hx hb dL_law_1368 (by decide) ?_
  refine lv_iadd (pc := 1369) hx hb dL_law_1369 ?_
  obtain ⟨j554, hj555, h⟩ := bnd1 h
  refine r_sld (pc := 1370) X XL hS hj555 dL_law_1370 ?_
  refine lv_aload_n (pc := 1371) hx hb dL_law_1371 rfl (lv_at hl 0 rfl) ?_
  refine lv_iload_n (pc := 1372) hx hb dL_law_1372 rfl (lv_at hl 3 rfl) ?_
  refine lv_iconst (pc := 1373) (v := 2) hx hb dL_law_1373 (by decide) ?_
  refine lv_iadd (pc := 1374) hx hb dL_law_1374 ?_
  obtain ⟨j556, hj557, h⟩ := bnd1 h
  refine r_sld (pc := 1375) X XL hS hj557 dL_law_1375 ?_
  refine lv_aload_n (pc := 1376) hx hb dL_law_1376 rfl (lv_at hl 0 rfl) ?_
  refine lv_iload_n (pc := 1377) hx hb dL_law_1377 rfl (lv_at hl 3 rfl) ?_
  refine lv_iconst (pc := 1378) (v := 3) hx hb dL_law_1378 (by decide) ?_
  refine lv_iadd (pc := 1379) hx hb dL_law_1379 ?_
  obtain ⟨j558, hj559, h⟩ := bnd1 h
  refine r_sld (pc := 1380) X XL hS hj559 dL_law_1380 ?_
  obtain ⟨r562, σ560, e561, h⟩ := bnd2 h
  refine cl_L_168 X hP hS hz2 (As := [.int (xs j554), .int (xs j556), .int (xs j558)]) (rest := [.int r553]) (c_X10_put l G hz2 e561) ⟨rfl, rfl, Nat.le_of_ble_eq_true rfl, Nat.le_of_ble_eq_true rfl⟩ rfl hl.1 rfl (Nat.le_of_ble_eq_true rfl) ⟨Nat.le_of_ble_eq_true rfl, Nat.le_of_ble_eq_true rfl⟩ (pc := 1381) dL_law_1381 (fun H locs hP hS => ?_)
  change W p l e _ s m _ below meth c H locs _ _ _ (F0 m (1381 + 3) ls (.int r562 :: [.int r553]))
  refine lv_icmp_eq (pc := 1384) (tgt := 1623) hx hb dL_law_1384 (by decide) (fun c563 => ?_) (fun c563 => ?_)
  · have h := ipos c563 h
    refine lv_iinc (pc := 1623) (v := (v3 + (5 : Int32))) (lv' := [(3, .int (v3 + (5 : Int32))), (0, .ref b), (1, .ref (ga G k1z)), (2, .ref (ga G k2z))]) hx hb dL_law_1623 hl (k := 3) rfl (congrArg (fun z => v3 + z) (by decide)) (by decide) rfl (fun ls hl => ?_)
    refine lv_goto (pc := 1626) (tgt := 18) hx hb dL_law_1626 (by decide) ?_
    exact ih1 _ _ _ _ _ hP hS (lv_sub hl [1, 2, 3, 0] rfl) h
  · have h := ineg c563 h
    refine lv_iconst (pc := 1387) (v := 0) hx hb dL_law_1387 (by decide) ?_
    exact absurd (inj2 h).1 (by decide)
set_option maxHeartbeats 4000000 in
set_option maxRecDepth 100000 in
theorem w_L_law_1389 {l : Launch} {G : Gh} {p : Program} {e : Env} {s : State} {m : MethodId} {below : List Frame} {meth : Method} {c : Code} {b L : Nat} {xs : Nat → Int32} (X : Cx G p s m #[Value.ref b] meth c code RL 4 (some .boolean)) (XL : LawX G b L xs s) {k1z : Nat} {k2z : Nat} (hz1 : kd k1z = 9) (hz2 : kd k2z = 10) {σr : Mem} {rec1 : Int32 → Mem → Option (Int32 × Mem)} (ih1 : ∀ (v3 : Int32) (σ : Mem) (H : Heap) (locs : List Loc) (ls : Array Slot), PW G σ H → va_S (AA G) s.heap H locs → lv_has ls 4 [(0, .ref b), (1, .ref (ga G k1z)), (2, .ref (ga G k2z)), (3, .int v3)] → rec1 v3 σ = some ((1 : Int32), σr) → W p l e room_1 s m #[Value.ref b] below meth c H locs 127 1782 (lw_Z below #[Value.ref b] s) (F0 m 18 ls [])) : ∀ (v3 : Int32) (σ : Mem) (H : Heap) (locs : List Loc) (ls : Array Slot), PW G σ H → va_S (AA G) s.heap H locs → lv_has ls 4 [(0, .ref b), (1, .ref (ga G k1z)), (2, .ref (ga G k2z)), (3, .int v3)] → F_L_law_1389 L xs k1z k2z rec1 v3 σ = some ((1 : Int32), σr) → W p l e room_1 s m #[Value.ref b] below meth c H locs 127 1782 (lw_Z below #[Value.ref b] s) (F0 m 1389 ls []) := by
  have hx := X.hx
  have hb := X.hb
  intro v3 σ H locs ls hP hS hl h
  unfold F_L_law_1389 at h
  refine lv_aload_n (pc := 1389) hx hb dL_law_1389 rfl (lv_at hl 1 rfl) ?_
  refine lv_aload_n (pc := 1390) hx hb dL_law_1390 rfl (lv_at hl 0 rfl) ?_
  refine lv_iload_n (pc := 1391) hx hb dL_law_1391 rfl (lv_at hl 3 rfl) ?_
  refine lv_iconst (pc := 1392) (v := 1) hx hb dL_law_1392 (by decide) ?_
  refine lv_iadd (pc := 1393) hx hb dL_law_1393 ?_
  obtain ⟨j565, hj566, h⟩ := bnd1 h
  refine r_sld (pc := 1394) X XL hS hj566 dL_law_1394 ?_
  refine lv_aload_n (pc := 1395) hx hb dL_law_1395 rfl (lv_at hl 0 rfl) ?_
  refine lv_iload_n (pc := 1396) hx hb dL_law_1396 rfl (lv_at hl 3 rfl) ?_
  refine lv_iconst (pc := 1397) (v := 2) hx hb dL_law_1397 (by decide) ?_
  refine lv_iadd (pc := 1398) hx hb dL_law_1398 ?_
  obtain ⟨j567, hj568, h⟩ := bnd1 h
  refine r_sld (pc := 1399) X XL hS hj568 dL_law_1399 ?_
  refine lv_aload_n (pc := 1400) hx hb dL_law_1400 rfl (lv_at hl 0 rfl) ?_
  refine lv_iload_n (pc := 1401) hx hb dL_law_1401 rfl (lv_at hl 3 rfl) ?_
  refine lv_iconst (pc := 1402) (v := 3) hx hb dL_law_1402 (by decide) ?_
  refine lv_iadd (pc := 1403) hx hb dL_law_1403 ?_
  obtain ⟨j569, hj570, h⟩ := bnd1 h
  refine r_sld (pc := 1404) X XL hS hj570 dL_law_1404 ?_
  obtain ⟨r573, σ571, e572, h⟩ := bnd2 h
  refine cl_L_169 X hP hS hz1 (As := [.int (xs j565), .int (xs j567), .int (xs j569)]) (rest := []) (c_X9_item l G hz1 e572) ⟨rfl, rfl, Nat.le_of_ble_eq_true rfl, Nat.le_of_ble_eq_true rfl⟩ rfl hl.1 rfl (Nat.le_of_ble_eq_true rfl) ⟨Nat.le_of_ble_eq_true rfl, Nat.le_of_ble_eq_true rfl⟩ (pc := 1405) dL_law_1405 (fun H locs hP hS => ?_)
  change W p l e _ s m _ below meth c H locs _ _ _ (F0 m (1405 + 3) ls (.int r573 :: []))
  refine lv_aload_n (pc := 1408) hx hb dL_law_1408 rfl (lv_at hl 2 rfl) ?_
  refine lv_aload_n (pc := 1409) hx hb dL_law_1409 rfl (lv_at hl 0 rfl) ?_
  refine lv_iload_n (pc := 1410) hx hb dL_law_1410 rfl (lv_at hl 3 rfl) ?_
  refine lv_iconst (pc := 1411) (v := 1) hx hb dL_law_1411 (by decide) ?_
  refine lv_iadd (pc := 1412) hx hb dL_law_1412 ?_
  obtain ⟨j574, hj575, h⟩ := bnd1 h
  refine r_sld (pc := 1413) X XL hS hj575 dL_law_1413 ?_
  refine lv_aload_n (pc := 1414) hx hb dL_law_1414 rfl (lv_at hl 0 rfl) ?_
  refine lv_iload_n (pc := 1415) hx hb dL_law_1415 rfl (lv_at hl 3 rfl) ?_
  refine lv_iconst (pc := 1416) (v := 2) hx hb dL_law_1416 (by decide) ?_
  refine lv_iadd (pc := 1417) hx hb dL_law_1417 ?_
  obtain ⟨j576, hj577, h⟩ := bnd1 h
  refine r_sld (pc := 1418) X XL hS hj577 dL_law_1418 ?_
  refine lv_aload_n (pc := 1419) hx hb dL_law_1419 rfl (lv_at hl 0 rfl) ?_
  refine lv_iload_n (pc := 1420) hx hb dL_law_1420 rfl (lv_at hl 3 rfl) ?_
  refine lv_iconst (pc := 1421) (v := 3) hx hb dL_law_1421 (by decide) ?_
  refine lv_iadd (pc := 1422) hx hb dL_law_1422 ?_
  obtain ⟨j578, hj579, h⟩ := bnd1 h
  refine r_sld (pc := 1423) X XL hS hj579 dL_law_1423 ?_
  obtain ⟨r582, σ580, e581, h⟩ := bnd2 h
  refine cl_L_172 X hP hS hz2 (As := [.int (xs j574), .int (xs j576), .int (xs j578)]) (rest := [.int r573]) (c_X10_item l G hz2 e581) ⟨rfl, rfl, Nat.le_of_ble_eq_true rfl, Nat.le_of_ble_eq_true rfl⟩ rfl hl.1 rfl (Nat.le_of_ble_eq_true rfl) ⟨Nat.le_of_ble_eq_true rfl, Nat.le_of_ble_eq_true rfl⟩ (pc := 1424) dL_law_1424 (fun H locs hP hS => ?_)
  change W p l e _ s m _ below meth c H locs _ _ _ (F0 m (1424 + 3) ls (.int r582 :: [.int r573]))
  refine lv_icmp_eq (pc := 1427) (tgt := 1623) hx hb dL_law_1427 (by decide) (fun c583 => ?_) (fun c583 => ?_)
  · have h := ipos c583 h
    refine lv_iinc (pc := 1623) (v := (v3 + (5 : Int32))) (lv' := [(3, .int (v3 + (5 : Int32))), (0, .ref b), (1, .ref (ga G k1z)), (2, .ref (ga G k2z))]) hx hb dL_law_1623 hl (k := 3) rfl (congrArg (fun z => v3 + z) (by decide)) (by decide) rfl (fun ls hl => ?_)
    refine lv_goto (pc := 1626) (tgt := 18) hx hb dL_law_1626 (by decide) ?_
    exact ih1 _ _ _ _ _ hP hS (lv_sub hl [1, 2, 3, 0] rfl) h
  · have h := ineg c583 h
    refine lv_iconst (pc := 1430) (v := 0) hx hb dL_law_1430 (by decide) ?_
    exact absurd (inj2 h).1 (by decide)
set_option maxHeartbeats 4000000 in
set_option maxRecDepth 100000 in
theorem w_L_law_1432 {l : Launch} {G : Gh} {p : Program} {e : Env} {s : State} {m : MethodId} {below : List Frame} {meth : Method} {c : Code} {b L : Nat} {xs : Nat → Int32} (X : Cx G p s m #[Value.ref b] meth c code RL 4 (some .boolean)) (XL : LawX G b L xs s) {k1z : Nat} {k2z : Nat} (hz1 : kd k1z = 9) (hz2 : kd k2z = 10) {σr : Mem} {rec1 : Int32 → Mem → Option (Int32 × Mem)} (ih1 : ∀ (v3 : Int32) (σ : Mem) (H : Heap) (locs : List Loc) (ls : Array Slot), PW G σ H → va_S (AA G) s.heap H locs → lv_has ls 4 [(0, .ref b), (1, .ref (ga G k1z)), (2, .ref (ga G k2z)), (3, .int v3)] → rec1 v3 σ = some ((1 : Int32), σr) → W p l e room_1 s m #[Value.ref b] below meth c H locs 127 1782 (lw_Z below #[Value.ref b] s) (F0 m 18 ls [])) : ∀ (v3 : Int32) (σ : Mem) (H : Heap) (locs : List Loc) (ls : Array Slot), PW G σ H → va_S (AA G) s.heap H locs → lv_has ls 4 [(0, .ref b), (1, .ref (ga G k1z)), (2, .ref (ga G k2z)), (3, .int v3)] → F_L_law_1432 L xs k1z k2z rec1 v3 σ = some ((1 : Int32), σr) → W p l e room_1 s m #[Value.ref b] below meth c H locs 127 1782 (lw_Z below #[Value.ref b] s) (F0 m 1432 ls []) := by
  have hx := X.hx
  have hb := X.hb
  intro v3 σ H locs ls hP hS hl h
  unfold F_L_law_1432 at h
  refine lv_aload_n (pc := 1432) hx hb dL_law_1432 rfl (lv_at hl 1 rfl) ?_
  refine lv_aload_n (pc := 1433) hx hb dL_law_1433 rfl (lv_at hl 0 rfl) ?_
  refine lv_iload_n (pc := 1434) hx hb dL_law_1434 rfl (lv_at hl 3 rfl) ?_
  refine lv_iconst (pc := 1435) (v := 1) hx hb dL_law_1435 (by decide) ?_
  refine lv_iadd (pc := 1436) hx hb dL_law_1436 ?_
  obtain ⟨j585, hj586, h⟩ := bnd1 h
  refine r_sld (pc := 1437) X XL hS hj586 dL_law_1437 ?_
  refine lv_aload_n (pc := 1438) hx hb dL_law_1438 rfl (lv_at hl 0 rfl) ?_
  refine lv_iload_n (pc := 1439) hx hb dL_law_1439 rfl (lv_at hl 3 rfl) ?_
  refine lv_iconst (pc := 1440) (v := 2) hx hb dL_law_1440 (by decide) ?_
  refine lv_iadd (pc := 1441) hx hb dL_law_1441 ?_
  obtain ⟨j587, hj588, h⟩ := bnd1 h
  refine r_sld (pc := 1442) X XL hS hj588 dL_law_1442 ?_
  refine lv_aload_n (pc := 1443) hx hb dL_law_1443 rfl (lv_at hl 0 rfl) ?_
  refine lv_iload_n (pc := 1444) hx hb dL_law_1444 rfl (lv_at hl 3 rfl) ?_
  refine lv_iconst (pc := 1445) (v := 3) hx hb dL_law_1445 (by decide) ?_
  refine lv_iadd (pc := 1446) hx hb dL_law_1446 ?_
  obtain ⟨j589, hj590, h⟩ := bnd1 h
  refine r_sld (pc := 1447) X XL hS hj590 dL_law_1447 ?_
  obtain ⟨r593, σ591, e592, h⟩ := bnd2 h
  refine cl_L_173 X hP hS hz1 (As := [.int (xs j585), .int (xs j587), .int (xs j589)]) (rest := []) (c_X9_shelf l G hz1 e592) ⟨rfl, rfl, Nat.le_of_ble_eq_true rfl, Nat.le_of_ble_eq_true rfl⟩ rfl hl.1 rfl (Nat.le_of_ble_eq_true rfl) ⟨Nat.le_of_ble_eq_true rfl, Nat.le_of_ble_eq_true rfl⟩ (pc := 1448) dL_law_1448 (fun H locs hP hS => ?_)
  change W p l e _ s m _ below meth c H locs _ _ _ (F0 m (1448 + 3) ls (.int r593 :: []))
  refine lv_aload_n (pc := 1451) hx hb dL_law_1451 rfl (lv_at hl 2 rfl) ?_
  refine lv_aload_n (pc := 1452) hx hb dL_law_1452 rfl (lv_at hl 0 rfl) ?_
  refine lv_iload_n (pc := 1453) hx hb dL_law_1453 rfl (lv_at hl 3 rfl) ?_
  refine lv_iconst (pc := 1454) (v := 1) hx hb dL_law_1454 (by decide) ?_
  refine lv_iadd (pc := 1455) hx hb dL_law_1455 ?_
  obtain ⟨j594, hj595, h⟩ := bnd1 h
  refine r_sld (pc := 1456) X XL hS hj595 dL_law_1456 ?_
  refine lv_aload_n (pc := 1457) hx hb dL_law_1457 rfl (lv_at hl 0 rfl) ?_
  refine lv_iload_n (pc := 1458) hx hb dL_law_1458 rfl (lv_at hl 3 rfl) ?_
  refine lv_iconst (pc := 1459) (v := 2) hx hb dL_law_1459 (by decide) ?_
  refine lv_iadd (pc := 1460) hx hb dL_law_1460 ?_
  obtain ⟨j596, hj597, h⟩ := bnd1 h
  refine r_sld (pc := 1461) X XL hS hj597 dL_law_1461 ?_
  refine lv_aload_n (pc := 1462) hx hb dL_law_1462 rfl (lv_at hl 0 rfl) ?_
  refine lv_iload_n (pc := 1463) hx hb dL_law_1463 rfl (lv_at hl 3 rfl) ?_
  refine lv_iconst (pc := 1464) (v := 3) hx hb dL_law_1464 (by decide) ?_
  refine lv_iadd (pc := 1465) hx hb dL_law_1465 ?_
  obtain ⟨j598, hj599, h⟩ := bnd1 h
  refine r_sld (pc := 1466) X XL hS hj599 dL_law_1466 ?_
  obtain ⟨r602, σ600, e601, h⟩ := bnd2 h
  refine cl_L_176 X hP hS hz2 (As := [.int (xs j594), .int (xs j596), .int (xs j598)]) (rest := [.int r593]) (c_X10_shelf l G hz2 e601) ⟨rfl, rfl, Nat.le_of_ble_eq_true rfl, Nat.le_of_ble_eq_true rfl⟩ rfl hl.1 rfl (Nat.le_of_ble_eq_true rfl) ⟨Nat.le_of_ble_eq_true rfl, Nat.le_of_ble_eq_true rfl⟩ (pc := 1467) dL_law_1467 (fun H locs hP hS => ?_)
  change W p l e _ s m _ below meth c H locs _ _ _ (F0 m (1467 + 3) ls (.int r602 :: [.int r593]))
  refine lv_icmp_eq (pc := 1470) (tgt := 1623) hx hb dL_law_1470 (by decide) (fun c603 => ?_) (fun c603 => ?_)
  · have h := ipos c603 h
    refine lv_iinc (pc := 1623) (v := (v3 + (5 : Int32))) (lv' := [(3, .int (v3 + (5 : Int32))), (0, .ref b), (1, .ref (ga G k1z)), (2, .ref (ga G k2z))]) hx hb dL_law_1623 hl (k := 3) rfl (congrArg (fun z => v3 + z) (by decide)) (by decide) rfl (fun ls hl => ?_)
    refine lv_goto (pc := 1626) (tgt := 18) hx hb dL_law_1626 (by decide) ?_
    exact ih1 _ _ _ _ _ hP hS (lv_sub hl [1, 2, 3, 0] rfl) h
  · have h := ineg c603 h
    refine lv_iconst (pc := 1473) (v := 0) hx hb dL_law_1473 (by decide) ?_
    exact absurd (inj2 h).1 (by decide)
set_option maxHeartbeats 4000000 in
set_option maxRecDepth 100000 in
theorem w_L_law_1475 {l : Launch} {G : Gh} {p : Program} {e : Env} {s : State} {m : MethodId} {below : List Frame} {meth : Method} {c : Code} {b L : Nat} {xs : Nat → Int32} (X : Cx G p s m #[Value.ref b] meth c code RL 4 (some .boolean)) (XL : LawX G b L xs s) {k1z : Nat} {k2z : Nat} (hz1 : kd k1z = 9) (hz2 : kd k2z = 10) {σr : Mem} {rec1 : Int32 → Mem → Option (Int32 × Mem)} (ih1 : ∀ (v3 : Int32) (σ : Mem) (H : Heap) (locs : List Loc) (ls : Array Slot), PW G σ H → va_S (AA G) s.heap H locs → lv_has ls 4 [(0, .ref b), (1, .ref (ga G k1z)), (2, .ref (ga G k2z)), (3, .int v3)] → rec1 v3 σ = some ((1 : Int32), σr) → W p l e room_1 s m #[Value.ref b] below meth c H locs 127 1782 (lw_Z below #[Value.ref b] s) (F0 m 18 ls [])) : ∀ (v3 : Int32) (σ : Mem) (H : Heap) (locs : List Loc) (ls : Array Slot), PW G σ H → va_S (AA G) s.heap H locs → lv_has ls 4 [(0, .ref b), (1, .ref (ga G k1z)), (2, .ref (ga G k2z)), (3, .int v3)] → F_L_law_1475 L xs k1z k2z rec1 v3 σ = some ((1 : Int32), σr) → W p l e room_1 s m #[Value.ref b] below meth c H locs 127 1782 (lw_Z below #[Value.ref b] s) (F0 m 1475 ls []) := by
  have hx := X.hx
  have hb := X.hb
  intro v3 σ H locs ls hP hS hl h
  unfold F_L_law_1475 at h
  refine lv_aload_n (pc := 1475) hx hb dL_law_1475 rfl (lv_at hl 1 rfl) ?_
  refine lv_aload_n (pc := 1476) hx hb dL_law_1476 rfl (lv_at hl 0 rfl) ?_
  refine lv_iload_n (pc := 1477) hx hb dL_law_1477 rfl (lv_at hl 3 rfl) ?_
  refine lv_iconst (pc := 1478) (v := 1) hx hb dL_law_1478 (by decide) ?_
  refine lv_iadd (pc := 1479) hx hb dL_law_1479 ?_
  obtain ⟨j605, hj606, h⟩ := bnd1 h
  refine r_sld (pc := 1480) X XL hS hj606 dL_law_1480 ?_
  refine lv_aload_n (pc := 1481) hx hb dL_law_1481 rfl (lv_at hl 0 rfl) ?_
  refine lv_iload_n (pc := 1482) hx hb dL_law_1482 rfl (lv_at hl 3 rfl) ?_
  refine lv_iconst (pc := 1483) (v := 2) hx hb dL_law_1483 (by decide) ?_
  refine lv_iadd (pc := 1484) hx hb dL_law_1484 ?_
  obtain ⟨j607, hj608, h⟩ := bnd1 h
  refine r_sld (pc := 1485) X XL hS hj608 dL_law_1485 ?_
  obtain ⟨r611, σ609, e610, h⟩ := bnd2 h
  refine cl_L_177 X hP hS hz1 (As := [.int (xs j605), .int (xs j607)]) (rest := []) (c_X9_taken l G hz1 e610) ⟨rfl, rfl, Nat.le_of_ble_eq_true rfl, Nat.le_of_ble_eq_true rfl⟩ rfl hl.1 rfl (Nat.le_of_ble_eq_true rfl) ⟨Nat.le_of_ble_eq_true rfl, Nat.le_of_ble_eq_true rfl⟩ (pc := 1486) dL_law_1486 (fun H locs hP hS => ?_)
  change W p l e _ s m _ below meth c H locs _ _ _ (F0 m (1486 + 3) ls (.int r611 :: []))
  refine lv_aload_n (pc := 1489) hx hb dL_law_1489 rfl (lv_at hl 2 rfl) ?_
  refine lv_aload_n (pc := 1490) hx hb dL_law_1490 rfl (lv_at hl 0 rfl) ?_
  refine lv_iload_n (pc := 1491) hx hb dL_law_1491 rfl (lv_at hl 3 rfl) ?_
  refine lv_iconst (pc := 1492) (v := 1) hx hb dL_law_1492 (by decide) ?_
  refine lv_iadd (pc := 1493) hx hb dL_law_1493 ?_
  obtain ⟨j612, hj613, h⟩ := bnd1 h
  refine r_sld (pc := 1494) X XL hS hj613 dL_law_1494 ?_
  refine lv_aload_n (pc := 1495) hx hb dL_law_1495 rfl (lv_at hl 0 rfl) ?_
  refine lv_iload_n (pc := 1496) hx hb dL_law_1496 rfl (lv_at hl 3 rfl) ?_
  refine lv_iconst (pc := 1497) (v := 2) hx hb dL_law_1497 (by decide) ?_
  refine lv_iadd (pc := 1498) hx hb dL_law_1498 ?_
  obtain ⟨j614, hj615, h⟩ := bnd1 h
  refine r_sld (pc := 1499) X XL hS hj615 dL_law_1499 ?_
  obtain ⟨r618, σ616, e617, h⟩ := bnd2 h
  refine cl_L_180 X hP hS hz2 (As := [.int (xs j612), .int (xs j614)]) (rest := [.int r611]) (c_X10_taken l G hz2 e617) ⟨rfl, rfl, Nat.le_of_ble_eq_true rfl, Nat.le_of_ble_eq_true rfl⟩ rfl hl.1 rfl (Nat.le_of_ble_eq_true rfl) ⟨Nat.le_of_ble_eq_true rfl, Nat.le_of_ble_eq_true rfl⟩ (pc := 1500) dL_law_1500 (fun H locs hP hS => ?_)
  change W p l e _ s m _ below meth c H locs _ _ _ (F0 m (1500 + 3) ls (.int r618 :: [.int r611]))
  refine lv_icmp_eq (pc := 1503) (tgt := 1623) hx hb dL_law_1503 (by decide) (fun c619 => ?_) (fun c619 => ?_)
  · have h := ipos c619 h
    refine lv_iinc (pc := 1623) (v := (v3 + (5 : Int32))) (lv' := [(3, .int (v3 + (5 : Int32))), (0, .ref b), (1, .ref (ga G k1z)), (2, .ref (ga G k2z))]) hx hb dL_law_1623 hl (k := 3) rfl (congrArg (fun z => v3 + z) (by decide)) (by decide) rfl (fun ls hl => ?_)
    refine lv_goto (pc := 1626) (tgt := 18) hx hb dL_law_1626 (by decide) ?_
    exact ih1 _ _ _ _ _ hP hS (lv_sub hl [1, 2, 3, 0] rfl) h
  · have h := ineg c619 h
    refine lv_iconst (pc := 1506) (v := 0) hx hb dL_law_1506 (by decide) ?_
    exact absurd (inj2 h).1 (by decide)
set_option maxHeartbeats 4000000 in
set_option maxRecDepth 100000 in
theorem w_L_law_1508 {l : Launch} {G : Gh} {p : Program} {e : Env} {s : State} {m : MethodId} {below : List Frame} {meth : Method} {c : Code} {b L : Nat} {xs : Nat → Int32} (X : Cx G p s m #[Value.ref b] meth c code RL 4 (some .boolean)) (XL : LawX G b L xs s) {k1z : Nat} {k2z : Nat} (hz1 : kd k1z = 9) (hz2 : kd k2z = 10) {σr : Mem} {rec1 : Int32 → Mem → Option (Int32 × Mem)} (ih1 : ∀ (v3 : Int32) (σ : Mem) (H : Heap) (locs : List Loc) (ls : Array Slot), PW G σ H → va_S (AA G) s.heap H locs → lv_has ls 4 [(0, .ref b), (1, .ref (ga G k1z)), (2, .ref (ga G k2z)), (3, .int v3)] → rec1 v3 σ = some ((1 : Int32), σr) → W p l e room_1 s m #[Value.ref b] below meth c H locs 127 1782 (lw_Z below #[Value.ref b] s) (F0 m 18 ls [])) : ∀ (v3 : Int32) (σ : Mem) (H : Heap) (locs : List Loc) (ls : Array Slot), PW G σ H → va_S (AA G) s.heap H locs → lv_has ls 4 [(0, .ref b), (1, .ref (ga G k1z)), (2, .ref (ga G k2z)), (3, .int v3)] → F_L_law_1508 L xs k1z k2z rec1 v3 σ = some ((1 : Int32), σr) → W p l e room_1 s m #[Value.ref b] below meth c H locs 127 1782 (lw_Z below #[Value.ref b] s) (F0 m 1508 ls []) := by
  have hx := X.hx
  have hb := X.hb
  intro v3 σ H locs ls hP hS hl h
  unfold F_L_law_1508 at h
  refine lv_aload_n (pc := 1508) hx hb dL_law_1508 rfl (lv_at hl 1 rfl) ?_
  refine lv_aload_n (pc := 1509) hx hb dL_law_1509 rfl (lv_at hl 0 rfl) ?_
  refine lv_iload_n (pc := 1510) hx hb dL_law_1510 rfl (lv_at hl 3 rfl) ?_
  refine lv_iconst (pc := 1511) (v := 1) hx hb dL_law_1511 (by decide) ?_
  refine lv_iadd (pc := 1512) hx hb dL_law_1512 ?_
  obtain ⟨j621, hj622, h⟩ := bnd1 h
  refine r_sld (pc := 1513) X XL hS hj622 dL_law_1513 ?_
  refine lv_aload_n (pc := 1514) hx hb dL_law_1514 rfl (lv_at hl 0 rfl) ?_
  refine lv_iload_n (pc := 1515) hx hb dL_law_1515 rfl (lv_at hl 3 rfl) ?_
  refine lv_iconst (pc := 1516) (v := 2) hx hb dL_law_1516 (by decide) ?_
  refine lv_iadd (pc := 1517) hx hb dL_law_1517 ?_
  obtain ⟨j623, hj624, h⟩ := bnd1 h
  refine r_sld (pc := 1518) X XL hS hj624 dL_law_1518 ?_
  refine lv_aload_n (pc := 1519) hx hb dL_law_1519 rfl (lv_at hl 0 rfl) ?_
  refine lv_iload_n (pc := 1520) hx hb dL_law_1520 rfl (lv_at hl 3 rfl) ?_
  refine lv_iconst (pc := 1521) (v := 3) hx hb dL_law_1521 (by decide) ?_
  refine lv_iadd (pc := 1522) hx hb dL_law_1522 ?_
  obtain ⟨j625, hj626, h⟩ := bnd1 h
  refine r_sld (pc := 1523) X XL hS hj626 dL_law_1523 ?_
  obtain ⟨r629, σ627, e628, h⟩ := bnd2 h
  refine cl_L_181 X hP hS hz1 (As := [.int (xs j621), .int (xs j623), .int (xs j625)]) (rest := []) (c_X9_act l G hz1 e628) ⟨rfl, rfl, Nat.le_of_ble_eq_true rfl, Nat.le_of_ble_eq_true rfl⟩ rfl hl.1 rfl (Nat.le_of_ble_eq_true rfl) ⟨Nat.le_of_ble_eq_true rfl, Nat.le_of_ble_eq_true rfl⟩ (pc := 1524) dL_law_1524 (fun H locs hP hS => ?_)
  change W p l e _ s m _ below meth c H locs _ _ _ (F0 m (1524 + 3) ls (.int r629 :: []))
  refine lv_aload_n (pc := 1527) hx hb dL_law_1527 rfl (lv_at hl 2 rfl) ?_
  refine lv_aload_n (pc := 1528) hx hb dL_law_1528 rfl (lv_at hl 0 rfl) ?_
  refine lv_iload_n (pc := 1529) hx hb dL_law_1529 rfl (lv_at hl 3 rfl) ?_
  refine lv_iconst (pc := 1530) (v := 1) hx hb dL_law_1530 (by decide) ?_
  refine lv_iadd (pc := 1531) hx hb dL_law_1531 ?_
  obtain ⟨j630, hj631, h⟩ := bnd1 h
  refine r_sld (pc := 1532) X XL hS hj631 dL_law_1532 ?_
  refine lv_aload_n (pc := 1533) hx hb dL_law_1533 rfl (lv_at hl 0 rfl) ?_
  refine lv_iload_n (pc := 1534) hx hb dL_law_1534 rfl (lv_at hl 3 rfl) ?_
  refine lv_iconst (pc := 1535) (v := 2) hx hb dL_law_1535 (by decide) ?_
  refine lv_iadd (pc := 1536) hx hb dL_law_1536 ?_
  obtain ⟨j632, hj633, h⟩ := bnd1 h
  refine r_sld (pc := 1537) X XL hS hj633 dL_law_1537 ?_
  refine lv_aload_n (pc := 1538) hx hb dL_law_1538 rfl (lv_at hl 0 rfl) ?_
  refine lv_iload_n (pc := 1539) hx hb dL_law_1539 rfl (lv_at hl 3 rfl) ?_
  refine lv_iconst (pc := 1540) (v := 3) hx hb dL_law_1540 (by decide) ?_
  refine lv_iadd (pc := 1541) hx hb dL_law_1541 ?_
  obtain ⟨j634, hj635, h⟩ := bnd1 h
  refine r_sld (pc := 1542) X XL hS hj635 dL_law_1542 ?_
  obtain ⟨r638, σ636, e637, h⟩ := bnd2 h
  refine cl_L_184 X hP hS hz2 (As := [.int (xs j630), .int (xs j632), .int (xs j634)]) (rest := [.int r629]) (c_X10_act l G hz2 e637) ⟨rfl, rfl, Nat.le_of_ble_eq_true rfl, Nat.le_of_ble_eq_true rfl⟩ rfl hl.1 rfl (Nat.le_of_ble_eq_true rfl) ⟨Nat.le_of_ble_eq_true rfl, Nat.le_of_ble_eq_true rfl⟩ (pc := 1543) dL_law_1543 (fun H locs hP hS => ?_)
  change W p l e _ s m _ below meth c H locs _ _ _ (F0 m (1543 + 3) ls (.int r638 :: [.int r629]))
  refine lv_icmp_eq (pc := 1546) (tgt := 1623) hx hb dL_law_1546 (by decide) (fun c639 => ?_) (fun c639 => ?_)
  · have h := ipos c639 h
    refine lv_iinc (pc := 1623) (v := (v3 + (5 : Int32))) (lv' := [(3, .int (v3 + (5 : Int32))), (0, .ref b), (1, .ref (ga G k1z)), (2, .ref (ga G k2z))]) hx hb dL_law_1623 hl (k := 3) rfl (congrArg (fun z => v3 + z) (by decide)) (by decide) rfl (fun ls hl => ?_)
    refine lv_goto (pc := 1626) (tgt := 18) hx hb dL_law_1626 (by decide) ?_
    exact ih1 _ _ _ _ _ hP hS (lv_sub hl [1, 2, 3, 0] rfl) h
  · have h := ineg c639 h
    refine lv_iconst (pc := 1549) (v := 0) hx hb dL_law_1549 (by decide) ?_
    exact absurd (inj2 h).1 (by decide)
set_option maxHeartbeats 4000000 in
set_option maxRecDepth 100000 in
theorem w_L_law_1551 {l : Launch} {G : Gh} {p : Program} {e : Env} {s : State} {m : MethodId} {below : List Frame} {meth : Method} {c : Code} {b L : Nat} {xs : Nat → Int32} (X : Cx G p s m #[Value.ref b] meth c code RL 4 (some .boolean)) (XL : LawX G b L xs s) {k1z : Nat} {k2z : Nat} (hz1 : kd k1z = 9) (hz2 : kd k2z = 10) {σr : Mem} {rec1 : Int32 → Mem → Option (Int32 × Mem)} (ih1 : ∀ (v3 : Int32) (σ : Mem) (H : Heap) (locs : List Loc) (ls : Array Slot), PW G σ H → va_S (AA G) s.heap H locs → lv_has ls 4 [(0, .ref b), (1, .ref (ga G k1z)), (2, .ref (ga G k2z)), (3, .int v3)] → rec1 v3 σ = some ((1 : Int32), σr) → W p l e room_1 s m #[Value.ref b] below meth c H locs 127 1782 (lw_Z below #[Value.ref b] s) (F0 m 18 ls [])) : ∀ (v3 : Int32) (σ : Mem) (H : Heap) (locs : List Loc) (ls : Array Slot), PW G σ H → va_S (AA G) s.heap H locs → lv_has ls 4 [(0, .ref b), (1, .ref (ga G k1z)), (2, .ref (ga G k2z)), (3, .int v3)] → F_L_law_1551 L xs k1z k2z rec1 v3 σ = some ((1 : Int32), σr) → W p l e room_1 s m #[Value.ref b] below meth c H locs 127 1782 (lw_Z below #[Value.ref b] s) (F0 m 1551 ls []) := by
  have hx := X.hx
  have hb := X.hb
  intro v3 σ H locs ls hP hS hl h
  unfold F_L_law_1551 at h
  refine lv_aload_n (pc := 1551) hx hb dL_law_1551 rfl (lv_at hl 1 rfl) ?_
  refine lv_aload_n (pc := 1552) hx hb dL_law_1552 rfl (lv_at hl 0 rfl) ?_
  refine lv_iload_n (pc := 1553) hx hb dL_law_1553 rfl (lv_at hl 3 rfl) ?_
  refine lv_iconst (pc := 1554) (v := 1) hx hb dL_law_1554 (by decide) ?_
  refine lv_iadd (pc := 1555) hx hb dL_law_1555 ?_
  obtain ⟨j641, hj642, h⟩ := bnd1 h
  refine r_sld (pc := 1556) X XL hS hj642 dL_law_1556 ?_
  obtain ⟨r645, σ643, e644, h⟩ := bnd2 h
  refine cl_L_185 X hP hS hz1 (As := [.int (xs j641)]) (rest := []) (c_X9_trace l G hz1 e644) ⟨rfl, rfl, Nat.le_of_ble_eq_true rfl, Nat.le_of_ble_eq_true rfl⟩ rfl hl.1 rfl (Nat.le_of_ble_eq_true rfl) ⟨Nat.le_of_ble_eq_true rfl, Nat.le_of_ble_eq_true rfl⟩ (pc := 1557) dL_law_1557 (fun H locs hP hS => ?_)
  change W p l e _ s m _ below meth c H locs _ _ _ (F0 m (1557 + 3) ls (.int r645 :: []))
  refine lv_aload_n (pc := 1560) hx hb dL_law_1560 rfl (lv_at hl 2 rfl) ?_
  refine lv_aload_n (pc := 1561) hx hb dL_law_1561 rfl (lv_at hl 0 rfl) ?_
  refine lv_iload_n (pc := 1562) hx hb dL_law_1562 rfl (lv_at hl 3 rfl) ?_
  refine lv_iconst (pc := 1563) (v := 1) hx hb dL_law_1563 (by decide) ?_
  refine lv_iadd (pc := 1564) hx hb dL_law_1564 ?_
  obtain ⟨j646, hj647, h⟩ := bnd1 h
  refine r_sld (pc := 1565) X XL hS hj647 dL_law_1565 ?_
  obtain ⟨r650, σ648, e649, h⟩ := bnd2 h
  refine cl_L_188 X hP hS hz2 (As := [.int (xs j646)]) (rest := [.int r645]) (c_X10_trace l G hz2 e649) ⟨rfl, rfl, Nat.le_of_ble_eq_true rfl, Nat.le_of_ble_eq_true rfl⟩ rfl hl.1 rfl (Nat.le_of_ble_eq_true rfl) ⟨Nat.le_of_ble_eq_true rfl, Nat.le_of_ble_eq_true rfl⟩ (pc := 1566) dL_law_1566 (fun H locs hP hS => ?_)
  change W p l e _ s m _ below meth c H locs _ _ _ (F0 m (1566 + 3) ls (.int r650 :: [.int r645]))
  refine lv_icmp_eq (pc := 1569) (tgt := 1623) hx hb dL_law_1569 (by decide) (fun c651 => ?_) (fun c651 => ?_)
  · have h := ipos c651 h
    refine lv_iinc (pc := 1623) (v := (v3 + (5 : Int32))) (lv' := [(3, .int (v3 + (5 : Int32))), (0, .ref b), (1, .ref (ga G k1z)), (2, .ref (ga G k2z))]) hx hb dL_law_1623 hl (k := 3) rfl (congrArg (fun z => v3 + z) (by decide)) (by decide) rfl (fun ls hl => ?_)
    refine lv_goto (pc := 1626) (tgt := 18) hx hb dL_law_1626 (by decide) ?_
    exact ih1 _ _ _ _ _ hP hS (lv_sub hl [1, 2, 3, 0] rfl) h
  · have h := ineg c651 h
    refine lv_iconst (pc := 1572) (v := 0) hx hb dL_law_1572 (by decide) ?_
    exact absurd (inj2 h).1 (by decide)
set_option maxHeartbeats 4000000 in
set_option maxRecDepth 100000 in
theorem w_L_law_1574 {l : Launch} {G : Gh} {p : Program} {e : Env} {s : State} {m : MethodId} {below : List Frame} {meth : Method} {c : Code} {b L : Nat} {xs : Nat → Int32} (X : Cx G p s m #[Value.ref b] meth c code RL 4 (some .boolean)) (XL : LawX G b L xs s) {k1z : Nat} {k2z : Nat} (hz1 : kd k1z = 9) (hz2 : kd k2z = 10) {σr : Mem} {rec1 : Int32 → Mem → Option (Int32 × Mem)} (ih1 : ∀ (v3 : Int32) (σ : Mem) (H : Heap) (locs : List Loc) (ls : Array Slot), PW G σ H → va_S (AA G) s.heap H locs → lv_has ls 4 [(0, .ref b), (1, .ref (ga G k1z)), (2, .ref (ga G k2z)), (3, .int v3)] → rec1 v3 σ = some ((1 : Int32), σr) → W p l e room_1 s m #[Value.ref b] below meth c H locs 127 1782 (lw_Z below #[Value.ref b] s) (F0 m 18 ls [])) : ∀ (v3 : Int32) (σ : Mem) (H : Heap) (locs : List Loc) (ls : Array Slot), PW G σ H → va_S (AA G) s.heap H locs → lv_has ls 4 [(0, .ref b), (1, .ref (ga G k1z)), (2, .ref (ga G k2z)), (3, .int v3)] → F_L_law_1574 L xs k1z k2z rec1 v3 σ = some ((1 : Int32), σr) → W p l e room_1 s m #[Value.ref b] below meth c H locs 127 1782 (lw_Z below #[Value.ref b] s) (F0 m 1574 ls []) := by
  have hx := X.hx
  have hb := X.hb
  intro v3 σ H locs ls hP hS hl h
  unfold F_L_law_1574 at h
  refine lv_aload_n (pc := 1574) hx hb dL_law_1574 rfl (lv_at hl 1 rfl) ?_
  refine lv_aload_n (pc := 1575) hx hb dL_law_1575 rfl (lv_at hl 0 rfl) ?_
  refine lv_iload_n (pc := 1576) hx hb dL_law_1576 rfl (lv_at hl 3 rfl) ?_
  refine lv_iconst (pc := 1577) (v := 1) hx hb dL_law_1577 (by decide) ?_
  refine lv_iadd (pc := 1578) hx hb dL_law_1578 ?_
  obtain ⟨j653, hj654, h⟩ := bnd1 h
  refine r_sld (pc := 1579) X XL hS hj654 dL_law_1579 ?_
  obtain ⟨r657, σ655, e656, h⟩ := bnd2 h
  refine cl_L_189 X hP hS hz1 (As := [.int (xs j653)]) (rest := []) (c_X9_many l G hz1 e656) ⟨rfl, rfl, Nat.le_of_ble_eq_true rfl, Nat.le_of_ble_eq_true rfl⟩ rfl hl.1 rfl (Nat.le_of_ble_eq_true rfl) ⟨Nat.le_of_ble_eq_true rfl, Nat.le_of_ble_eq_true rfl⟩ (pc := 1580) dL_law_1580 (fun H locs hP hS => ?_)
  change W p l e _ s m _ below meth c H locs _ _ _ (F0 m (1580 + 3) ls (.int r657 :: []))
  refine lv_aload_n (pc := 1583) hx hb dL_law_1583 rfl (lv_at hl 2 rfl) ?_
  refine lv_aload_n (pc := 1584) hx hb dL_law_1584 rfl (lv_at hl 0 rfl) ?_
  refine lv_iload_n (pc := 1585) hx hb dL_law_1585 rfl (lv_at hl 3 rfl) ?_
  refine lv_iconst (pc := 1586) (v := 1) hx hb dL_law_1586 (by decide) ?_
  refine lv_iadd (pc := 1587) hx hb dL_law_1587 ?_
  obtain ⟨j658, hj659, h⟩ := bnd1 h
  refine r_sld (pc := 1588) X XL hS hj659 dL_law_1588 ?_
  obtain ⟨r662, σ660, e661, h⟩ := bnd2 h
  refine cl_L_192 X hP hS hz2 (As := [.int (xs j658)]) (rest := [.int r657]) (c_X10_many l G hz2 e661) ⟨rfl, rfl, Nat.le_of_ble_eq_true rfl, Nat.le_of_ble_eq_true rfl⟩ rfl hl.1 rfl (Nat.le_of_ble_eq_true rfl) ⟨Nat.le_of_ble_eq_true rfl, Nat.le_of_ble_eq_true rfl⟩ (pc := 1589) dL_law_1589 (fun H locs hP hS => ?_)
  change W p l e _ s m _ below meth c H locs _ _ _ (F0 m (1589 + 3) ls (.int r662 :: [.int r657]))
  refine lv_icmp_eq (pc := 1592) (tgt := 1623) hx hb dL_law_1592 (by decide) (fun c663 => ?_) (fun c663 => ?_)
  · have h := ipos c663 h
    refine lv_iinc (pc := 1623) (v := (v3 + (5 : Int32))) (lv' := [(3, .int (v3 + (5 : Int32))), (0, .ref b), (1, .ref (ga G k1z)), (2, .ref (ga G k2z))]) hx hb dL_law_1623 hl (k := 3) rfl (congrArg (fun z => v3 + z) (by decide)) (by decide) rfl (fun ls hl => ?_)
    refine lv_goto (pc := 1626) (tgt := 18) hx hb dL_law_1626 (by decide) ?_
    exact ih1 _ _ _ _ _ hP hS (lv_sub hl [1, 2, 3, 0] rfl) h
  · have h := ineg c663 h
    refine lv_iconst (pc := 1595) (v := 0) hx hb dL_law_1595 (by decide) ?_
    exact absurd (inj2 h).1 (by decide)
set_option maxHeartbeats 4000000 in
set_option maxRecDepth 100000 in
theorem w_L_law_1597 {l : Launch} {G : Gh} {p : Program} {e : Env} {s : State} {m : MethodId} {below : List Frame} {meth : Method} {c : Code} {b L : Nat} {xs : Nat → Int32} (X : Cx G p s m #[Value.ref b] meth c code RL 4 (some .boolean)) (XL : LawX G b L xs s) {k1z : Nat} {k2z : Nat} (hz1 : kd k1z = 9) (hz2 : kd k2z = 10) {σr : Mem} {rec1 : Int32 → Mem → Option (Int32 × Mem)} (ih1 : ∀ (v3 : Int32) (σ : Mem) (H : Heap) (locs : List Loc) (ls : Array Slot), PW G σ H → va_S (AA G) s.heap H locs → lv_has ls 4 [(0, .ref b), (1, .ref (ga G k1z)), (2, .ref (ga G k2z)), (3, .int v3)] → rec1 v3 σ = some ((1 : Int32), σr) → W p l e room_1 s m #[Value.ref b] below meth c H locs 127 1782 (lw_Z below #[Value.ref b] s) (F0 m 18 ls [])) : ∀ (v3 : Int32) (σ : Mem) (H : Heap) (locs : List Loc) (ls : Array Slot), PW G σ H → va_S (AA G) s.heap H locs → lv_has ls 4 [(0, .ref b), (1, .ref (ga G k1z)), (2, .ref (ga G k2z)), (3, .int v3)] → F_L_law_1597 L xs k1z k2z rec1 v3 σ = some ((1 : Int32), σr) → W p l e room_1 s m #[Value.ref b] below meth c H locs 127 1782 (lw_Z below #[Value.ref b] s) (F0 m 1597 ls []) := by
  have hx := X.hx
  have hb := X.hb
  intro v3 σ H locs ls hP hS hl h
  unfold F_L_law_1597 at h
  refine lv_aload_n (pc := 1597) hx hb dL_law_1597 rfl (lv_at hl 1 rfl) ?_
  obtain ⟨r667, σ665, e666, h⟩ := bnd2 h
  refine cl_L_193 X hP hS hz1 (As := []) (rest := []) (c_X9_keep l G hz1 e666) ⟨rfl, rfl, Nat.le_of_ble_eq_true rfl, Nat.le_of_ble_eq_true rfl⟩ rfl hl.1 rfl (Nat.le_of_ble_eq_true rfl) ⟨Nat.le_of_ble_eq_true rfl, Nat.le_of_ble_eq_true rfl⟩ (pc := 1598) dL_law_1598 (fun H locs hP hS => ?_)
  change W p l e _ s m _ below meth c H locs _ _ _ (F0 m (1598 + 3) ls (.int r667 :: []))
  refine lv_aload_n (pc := 1601) hx hb dL_law_1601 rfl (lv_at hl 2 rfl) ?_
  obtain ⟨r670, σ668, e669, h⟩ := bnd2 h
  refine cl_L_196 X hP hS hz2 (As := []) (rest := [.int r667]) (c_X10_keep l G hz2 e669) ⟨rfl, rfl, Nat.le_of_ble_eq_true rfl, Nat.le_of_ble_eq_true rfl⟩ rfl hl.1 rfl (Nat.le_of_ble_eq_true rfl) ⟨Nat.le_of_ble_eq_true rfl, Nat.le_of_ble_eq_true rfl⟩ (pc := 1602) dL_law_1602 (fun H locs hP hS => ?_)
  change W p l e _ s m _ below meth c H locs _ _ _ (F0 m (1602 + 3) ls (.int r670 :: [.int r667]))
  refine lv_icmp_eq (pc := 1605) (tgt := 1623) hx hb dL_law_1605 (by decide) (fun c671 => ?_) (fun c671 => ?_)
  · have h := ipos c671 h
    refine lv_iinc (pc := 1623) (v := (v3 + (5 : Int32))) (lv' := [(3, .int (v3 + (5 : Int32))), (0, .ref b), (1, .ref (ga G k1z)), (2, .ref (ga G k2z))]) hx hb dL_law_1623 hl (k := 3) rfl (congrArg (fun z => v3 + z) (by decide)) (by decide) rfl (fun ls hl => ?_)
    refine lv_goto (pc := 1626) (tgt := 18) hx hb dL_law_1626 (by decide) ?_
    exact ih1 _ _ _ _ _ hP hS (lv_sub hl [1, 2, 3, 0] rfl) h
  · have h := ineg c671 h
    refine lv_iconst (pc := 1608) (v := 0) hx hb dL_law_1608 (by decide) ?_
    exact absurd (inj2 h).1 (by decide)
set_option maxHeartbeats 4000000 in
set_option maxRecDepth 100000 in
theorem w_L_law_1610 {l : Launch} {G : Gh} {p : Program} {e : Env} {s : State} {m : MethodId} {below : List Frame} {meth : Method} {c : Code} {b L : Nat} {xs : Nat → Int32} (X : Cx G p s m #[Value.ref b] meth c code RL 4 (some .boolean)) (XL : LawX G b L xs s) {k1z : Nat} {k2z : Nat} (hz1 : kd k1z = 9) (hz2 : kd k2z = 10) {σr : Mem} {rec1 : Int32 → Mem → Option (Int32 × Mem)} (ih1 : ∀ (v3 : Int32) (σ : Mem) (H : Heap) (locs : List Loc) (ls : Array Slot), PW G σ H → va_S (AA G) s.heap H locs → lv_has ls 4 [(0, .ref b), (1, .ref (ga G k1z)), (2, .ref (ga G k2z)), (3, .int v3)] → rec1 v3 σ = some ((1 : Int32), σr) → W p l e room_1 s m #[Value.ref b] below meth c H locs 127 1782 (lw_Z below #[Value.ref b] s) (F0 m 18 ls [])) : ∀ (v3 : Int32) (σ : Mem) (H : Heap) (locs : List Loc) (ls : Array Slot), PW G σ H → va_S (AA G) s.heap H locs → lv_has ls 4 [(0, .ref b), (1, .ref (ga G k1z)), (2, .ref (ga G k2z)), (3, .int v3)] → F_L_law_1610 L xs k1z k2z rec1 v3 σ = some ((1 : Int32), σr) → W p l e room_1 s m #[Value.ref b] below meth c H locs 127 1782 (lw_Z below #[Value.ref b] s) (F0 m 1610 ls []) := by
  have hx := X.hx
  have hb := X.hb
  intro v3 σ H locs ls hP hS hl h
  unfold F_L_law_1610 at h
  refine lv_aload_n (pc := 1610) hx hb dL_law_1610 rfl (lv_at hl 1 rfl) ?_
  obtain ⟨r675, σ673, e674, h⟩ := bnd2 h
  refine cl_L_197 X hP hS hz1 (As := []) (rest := []) (c_X9_again l G hz1 e674) ⟨rfl, rfl, Nat.le_of_ble_eq_true rfl, Nat.le_of_ble_eq_true rfl⟩ rfl hl.1 rfl (Nat.le_of_ble_eq_true rfl) ⟨Nat.le_of_ble_eq_true rfl, Nat.le_of_ble_eq_true rfl⟩ (pc := 1611) dL_law_1611 (fun H locs hP hS => ?_)
  change W p l e _ s m _ below meth c H locs _ _ _ (F0 m (1611 + 3) ls (.int r675 :: []))
  refine lv_aload_n (pc := 1614) hx hb dL_law_1614 rfl (lv_at hl 2 rfl) ?_
  obtain ⟨r678, σ676, e677, h⟩ := bnd2 h
  refine cl_L_200 X hP hS hz2 (As := []) (rest := [.int r675]) (c_X10_again l G hz2 e677) ⟨rfl, rfl, Nat.le_of_ble_eq_true rfl, Nat.le_of_ble_eq_true rfl⟩ rfl hl.1 rfl (Nat.le_of_ble_eq_true rfl) ⟨Nat.le_of_ble_eq_true rfl, Nat.le_of_ble_eq_true rfl⟩ (pc := 1615) dL_law_1615 (fun H locs hP hS => ?_)
  change W p l e _ s m _ below meth c H locs _ _ _ (F0 m (1615 + 3) ls (.int r678 :: [.int r675]))
  refine lv_icmp_eq (pc := 1618) (tgt := 1623) hx hb dL_law_1618 (by decide) (fun c679 => ?_) (fun c679 => ?_)
  · have h := ipos c679 h
    refine lv_iinc (pc := 1623) (v := (v3 + (5 : Int32))) (lv' := [(3, .int (v3 + (5 : Int32))), (0, .ref b), (1, .ref (ga G k1z)), (2, .ref (ga G k2z))]) hx hb dL_law_1623 hl (k := 3) rfl (congrArg (fun z => v3 + z) (by decide)) (by decide) rfl (fun ls hl => ?_)
    refine lv_goto (pc := 1626) (tgt := 18) hx hb dL_law_1626 (by decide) ?_
    exact ih1 _ _ _ _ _ hP hS (lv_sub hl [1, 2, 3, 0] rfl) h
  · have h := ineg c679 h
    refine lv_iconst (pc := 1621) (v := 0) hx hb dL_law_1621 (by decide) ?_
    exact absurd (inj2 h).1 (by decide)
set_option maxHeartbeats 4000000 in
set_option maxRecDepth 100000 in
theorem w_L_law_18 {l : Launch} {G : Gh} {p : Program} {e : Env} {s : State} {m : MethodId} {below : List Frame} {meth : Method} {c : Code} {b L : Nat} {xs : Nat → Int32} (X : Cx G p s m #[Value.ref b] meth c code RL 4 (some .boolean)) (XL : LawX G b L xs s) {k1z : Nat} {k2z : Nat} (hz1 : kd k1z = 9) (hz2 : kd k2z = 10) {σr : Mem} : ∀ (n : Nat) (v3 : Int32) (σ : Mem) (H : Heap) (locs : List Loc) (ls : Array Slot), PW G σ H → va_S (AA G) s.heap H locs → lv_has ls 4 [(0, .ref b), (1, .ref (ga G k1z)), (2, .ref (ga G k2z)), (3, .int v3)] → iterF (F_L_law_18 L xs k1z k2z) (fun _ _ => none) n v3 σ = some ((1 : Int32), σr) → W p l e room_1 s m #[Value.ref b] below meth c H locs 127 1782 (lw_Z below #[Value.ref b] s) (F0 m 18 ls []) := by
  have hx := X.hx
  have hb := X.hb
  intro n
  induction n with
  | zero => intro v3 σ H locs ls hP hS hl h; exact nnone (α := (Int32 × Mem)) h
  | succ n ih1 =>
    intro v3 σ H locs ls hP hS hl h
    have h : F_L_law_18 L xs k1z k2z (iterF (F_L_law_18 L xs k1z k2z) (fun _ _ => none) n) v3 σ = some _ := h
    unfold F_L_law_18 at h
    refine lv_iload_n (pc := 18) hx hb dL_law_18 rfl (lv_at hl 3 rfl) ?_
    refine lv_aload_n (pc := 19) hx hb dL_law_19 rfl (lv_at hl 0 rfl) ?_
    refine r_sln (pc := 20) X XL hS dL_law_20 ?_
    refine lv_iconst (pc := 21) (v := 5) hx hb dL_law_21 (by decide) ?_
    refine lv_isub (pc := 22) hx hb dL_law_22 ?_
    refine lv_icmp_gt (pc := 23) (tgt := 1629) hx hb dL_law_23 (by decide) (fun c1 => ?_) (fun c1 => ?_)
    · have h := ipos c1 h
      refine lv_iconst (pc := 1629) (v := 1) hx hb dL_law_1629 (by decide) ?_
      exact law_ret X XL hS dL_law_1630
    · have h := ineg c1 h
      refine lv_aload_n (pc := 26) hx hb dL_law_26 rfl (lv_at hl 0 rfl) ?_
      refine lv_iload_n (pc := 27) hx hb dL_law_27 rfl (lv_at hl 3 rfl) ?_
      obtain ⟨j2, hj3, h⟩ := bnd1 h
      refine r_sld (pc := 28) X XL hS hj3 dL_law_28 ?_
      refine lv_bipush (pc := 29) (v := (63)) hx hb dL_law_29 (by decide) ?_
      refine lv_iand (pc := 31) hx hb dL_law_31 ?_
      by_cases c4 : ((xs j2) &&& (63 : Int32)) = (0 : Int32)
      · have h := ipos c4 h
        refine r_tabIn X (pc := 32) (tgt := 228) c4 dL_law_32 (by decide) (by decide) rfl (by decide) ?_
        exact w_L_law_228 X XL hz1 hz2 ih1 _ _ _ _ _ hP hS (lv_sub hl [0, 1, 2, 3] rfl) h
      have h := ineg c4 h
      by_cases c24 : ((xs j2) &&& (63 : Int32)) = (1 : Int32)
      · have h := ipos c24 h
        refine r_tabIn X (pc := 32) (tgt := 291) c24 dL_law_32 (by decide) (by decide) rfl (by decide) ?_
        exact w_L_law_291 X XL hz1 hz2 ih1 _ _ _ _ _ hP hS (lv_sub hl [0, 1, 2, 3] rfl) h
      have h := ineg c24 h
      by_cases c32 : ((xs j2) &&& (63 : Int32)) = (2 : Int32)
      · have h := ipos c32 h
        refine r_tabIn X (pc := 32) (tgt := 304) c32 dL_law_32 (by decide) (by decide) rfl (by decide) ?_
        exact w_L_law_304 X XL hz1 hz2 ih1 _ _ _ _ _ hP hS (lv_sub hl [0, 1, 2, 3] rfl) h
      have h := ineg c32 h
      by_cases c48 : ((xs j2) &&& (63 : Int32)) = (3 : Int32)
      · have h := ipos c48 h
        refine r_tabIn X (pc := 32) (tgt := 337) c48 dL_law_32 (by decide) (by decide) rfl (by decide) ?_
        exact w_L_law_337 X XL hz1 hz2 ih1 _ _ _ _ _ hP hS (lv_sub hl [0, 1, 2, 3] rfl) h
      have h := ineg c48 h
      by_cases c64 : ((xs j2) &&& (63 : Int32)) = (4 : Int32)
      · have h := ipos c64 h
        refine r_tabIn X (pc := 32) (tgt := 370) c64 dL_law_32 (by decide) (by decide) rfl (by decide) ?_
        exact w_L_law_370 X XL hz1 hz2 ih1 _ _ _ _ _ hP hS (lv_sub hl [0, 1, 2, 3] rfl) h
      have h := ineg c64 h
      by_cases c84 : ((xs j2) &&& (63 : Int32)) = (5 : Int32)
      · have h := ipos c84 h
        refine r_tabIn X (pc := 32) (tgt := 413) c84 dL_law_32 (by decide) (by decide) rfl (by decide) ?_
        exact w_L_law_413 X XL hz1 hz2 ih1 _ _ _ _ _ hP hS (lv_sub hl [0, 1, 2, 3] rfl) h
      have h := ineg c84 h
      by_cases c100 : ((xs j2) &&& (63 : Int32)) = (6 : Int32)
      · have h := ipos c100 h
        refine r_tabIn X (pc := 32) (tgt := 446) c100 dL_law_32 (by decide) (by decide) rfl (by decide) ?_
        exact w_L_law_446 X XL hz1 hz2 ih1 _ _ _ _ _ hP hS (lv_sub hl [0, 1, 2, 3] rfl) h
      have h := ineg c100 h
      by_cases c112 : ((xs j2) &&& (63 : Int32)) = (7 : Int32)
      · have h := ipos c112 h
        refine r_tabIn X (pc := 32) (tgt := 469) c112 dL_law_32 (by decide) (by decide) rfl (by decide) ?_
        exact w_L_law_469 X XL hz1 hz2 ih1 _ _ _ _ _ hP hS (lv_sub hl [0, 1, 2, 3] rfl) h
      have h := ineg c112 h
      by_cases c136 : ((xs j2) &&& (63 : Int32)) = (8 : Int32)
      · have h := ipos c136 h
        refine r_tabIn X (pc := 32) (tgt := 522) c136 dL_law_32 (by decide) (by decide) rfl (by decide) ?_
        exact w_L_law_522 X XL hz1 hz2 ih1 _ _ _ _ _ hP hS (lv_sub hl [0, 1, 2, 3] rfl) h
      have h := ineg c136 h
      by_cases c152 : ((xs j2) &&& (63 : Int32)) = (9 : Int32)
      · have h := ipos c152 h
        refine r_tabIn X (pc := 32) (tgt := 555) c152 dL_law_32 (by decide) (by decide) rfl (by decide) ?_
        exact w_L_law_555 X XL hz1 hz2 ih1 _ _ _ _ _ hP hS (lv_sub hl [0, 1, 2, 3] rfl) h
      have h := ineg c152 h
      by_cases c172 : ((xs j2) &&& (63 : Int32)) = (10 : Int32)
      · have h := ipos c172 h
        refine r_tabIn X (pc := 32) (tgt := 598) c172 dL_law_32 (by decide) (by decide) rfl (by decide) ?_
        exact w_L_law_598 X XL hz1 hz2 ih1 _ _ _ _ _ hP hS (lv_sub hl [0, 1, 2, 3] rfl) h
      have h := ineg c172 h
      by_cases c192 : ((xs j2) &&& (63 : Int32)) = (11 : Int32)
      · have h := ipos c192 h
        refine r_tabIn X (pc := 32) (tgt := 641) c192 dL_law_32 (by decide) (by decide) rfl (by decide) ?_
        exact w_L_law_641 X XL hz1 hz2 ih1 _ _ _ _ _ hP hS (lv_sub hl [0, 1, 2, 3] rfl) h
      have h := ineg c192 h
      by_cases c208 : ((xs j2) &&& (63 : Int32)) = (12 : Int32)
      · have h := ipos c208 h
        refine r_tabIn X (pc := 32) (tgt := 674) c208 dL_law_32 (by decide) (by decide) rfl (by decide) ?_
        exact w_L_law_674 X XL hz1 hz2 ih1 _ _ _ _ _ hP hS (lv_sub hl [0, 1, 2, 3] rfl) h
      have h := ineg c208 h
      by_cases c220 : ((xs j2) &&& (63 : Int32)) = (13 : Int32)
      · have h := ipos c220 h
        refine r_tabIn X (pc := 32) (tgt := 697) c220 dL_law_32 (by decide) (by decide) rfl (by decide) ?_
        exact w_L_law_697 X XL hz1 hz2 ih1 _ _ _ _ _ hP hS (lv_sub hl [0, 1, 2, 3] rfl) h
      have h := ineg c220 h
      by_cases c232 : ((xs j2) &&& (63 : Int32)) = (14 : Int32)
      · have h := ipos c232 h
        refine r_tabIn X (pc := 32) (tgt := 720) c232 dL_law_32 (by decide) (by decide) rfl (by decide) ?_
        exact w_L_law_720 X XL hz1 hz2 ih1 _ _ _ _ _ hP hS (lv_sub hl [0, 1, 2, 3] rfl) h
      have h := ineg c232 h
      by_cases c244 : ((xs j2) &&& (63 : Int32)) = (15 : Int32)
      · have h := ipos c244 h
        refine r_tabIn X (pc := 32) (tgt := 743) c244 dL_law_32 (by decide) (by decide) rfl (by decide) ?_
        exact w_L_law_743 X XL hz1 hz2 ih1 _ _ _ _ _ hP hS (lv_sub hl [0, 1, 2, 3] rfl) h
      have h := ineg c244 h
      by_cases c256 : ((xs j2) &&& (63 : Int32)) = (16 : Int32)
      · have h := ipos c256 h
        refine r_tabIn X (pc := 32) (tgt := 766) c256 dL_law_32 (by decide) (by decide) rfl (by decide) ?_
        exact w_L_law_766 X XL hz1 hz2 ih1 _ _ _ _ _ hP hS (lv_sub hl [0, 1, 2, 3] rfl) h
      have h := ineg c256 h
      by_cases c272 : ((xs j2) &&& (63 : Int32)) = (17 : Int32)
      · have h := ipos c272 h
        refine r_tabIn X (pc := 32) (tgt := 799) c272 dL_law_32 (by decide) (by decide) rfl (by decide) ?_
        exact w_L_law_799 X XL hz1 hz2 ih1 _ _ _ _ _ hP hS (lv_sub hl [0, 1, 2, 3] rfl) h
      have h := ineg c272 h
      by_cases c280 : ((xs j2) &&& (63 : Int32)) = (18 : Int32)
      · have h := ipos c280 h
        refine r_tabIn X (pc := 32) (tgt := 812) c280 dL_law_32 (by decide) (by decide) rfl (by decide) ?_
        exact w_L_law_812 X XL hz1 hz2 ih1 _ _ _ _ _ hP hS (lv_sub hl [0, 1, 2, 3] rfl) h
      have h := ineg c280 h
      by_cases c292 : ((xs j2) &&& (63 : Int32)) = (19 : Int32)
      · have h := ipos c292 h
        refine r_tabIn X (pc := 32) (tgt := 835) c292 dL_law_32 (by decide) (by decide) rfl (by decide) ?_
        exact w_L_law_835 X XL hz1 hz2 ih1 _ _ _ _ _ hP hS (lv_sub hl [0, 1, 2, 3] rfl) h
      have h := ineg c292 h
      by_cases c304 : ((xs j2) &&& (63 : Int32)) = (20 : Int32)
      · have h := ipos c304 h
        refine r_tabIn X (pc := 32) (tgt := 858) c304 dL_law_32 (by decide) (by decide) rfl (by decide) ?_
        exact w_L_law_858 X XL hz1 hz2 ih1 _ _ _ _ _ hP hS (lv_sub hl [0, 1, 2, 3] rfl) h
      have h := ineg c304 h
      by_cases c320 : ((xs j2) &&& (63 : Int32)) = (21 : Int32)
      · have h := ipos c320 h
        refine r_tabIn X (pc := 32) (tgt := 891) c320 dL_law_32 (by decide) (by decide) rfl (by decide) ?_
        exact w_L_law_891 X XL hz1 hz2 ih1 _ _ _ _ _ hP hS (lv_sub hl [0, 1, 2, 3] rfl) h
      have h := ineg c320 h
      by_cases c336 : ((xs j2) &&& (63 : Int32)) = (22 : Int32)
      · have h := ipos c336 h
        refine r_tabIn X (pc := 32) (tgt := 924) c336 dL_law_32 (by decide) (by decide) rfl (by decide) ?_
        exact w_L_law_924 X XL hz1 hz2 ih1 _ _ _ _ _ hP hS (lv_sub hl [0, 1, 2, 3] rfl) h
      have h := ineg c336 h
      by_cases c352 : ((xs j2) &&& (63 : Int32)) = (23 : Int32)
      · have h := ipos c352 h
        refine r_tabIn X (pc := 32) (tgt := 957) c352 dL_law_32 (by decide) (by decide) rfl (by decide) ?_
        exact w_L_law_957 X XL hz1 hz2 ih1 _ _ _ _ _ hP hS (lv_sub hl [0, 1, 2, 3] rfl) h
      have h := ineg c352 h
      by_cases c368 : ((xs j2) &&& (63 : Int32)) = (24 : Int32)
      · have h := ipos c368 h
        refine r_tabIn X (pc := 32) (tgt := 990) c368 dL_law_32 (by decide) (by decide) rfl (by decide) ?_
        exact w_L_law_990 X XL hz1 hz2 ih1 _ _ _ _ _ hP hS (lv_sub hl [0, 1, 2, 3] rfl) h
      have h := ineg c368 h
      by_cases c380 : ((xs j2) &&& (63 : Int32)) = (25 : Int32)
      · have h := ipos c380 h
        refine r_tabIn X (pc := 32) (tgt := 1013) c380 dL_law_32 (by decide) (by decide) rfl (by decide) ?_
        exact w_L_law_1013 X XL hz1 hz2 ih1 _ _ _ _ _ hP hS (lv_sub hl [0, 1, 2, 3] rfl) h
      have h := ineg c380 h
      by_cases c392 : ((xs j2) &&& (63 : Int32)) = (26 : Int32)
      · have h := ipos c392 h
        refine r_tabIn X (pc := 32) (tgt := 1036) c392 dL_law_32 (by decide) (by decide) rfl (by decide) ?_
        exact w_L_law_1036 X XL hz1 hz2 ih1 _ _ _ _ _ hP hS (lv_sub hl [0, 1, 2, 3] rfl) h
      have h := ineg c392 h
      by_cases c404 : ((xs j2) &&& (63 : Int32)) = (27 : Int32)
      · have h := ipos c404 h
        refine r_tabIn X (pc := 32) (tgt := 1059) c404 dL_law_32 (by decide) (by decide) rfl (by decide) ?_
        exact w_L_law_1059 X XL hz1 hz2 ih1 _ _ _ _ _ hP hS (lv_sub hl [0, 1, 2, 3] rfl) h
      have h := ineg c404 h
      by_cases c416 : ((xs j2) &&& (63 : Int32)) = (28 : Int32)
      · have h := ipos c416 h
        refine r_tabIn X (pc := 32) (tgt := 1082) c416 dL_law_32 (by decide) (by decide) rfl (by decide) ?_
        exact w_L_law_1082 X XL hz1 hz2 ih1 _ _ _ _ _ hP hS (lv_sub hl [0, 1, 2, 3] rfl) h
      have h := ineg c416 h
      by_cases c428 : ((xs j2) &&& (63 : Int32)) = (29 : Int32)
      · have h := ipos c428 h
        refine r_tabIn X (pc := 32) (tgt := 1105) c428 dL_law_32 (by decide) (by decide) rfl (by decide) ?_
        exact w_L_law_1105 X XL hz1 hz2 ih1 _ _ _ _ _ hP hS (lv_sub hl [0, 1, 2, 3] rfl) h
      have h := ineg c428 h
      by_cases c440 : ((xs j2) &&& (63 : Int32)) = (30 : Int32)
      · have h := ipos c440 h
        refine r_tabIn X (pc := 32) (tgt := 1128) c440 dL_law_32 (by decide) (by decide) rfl (by decide) ?_
        exact w_L_law_1128 X XL hz1 hz2 ih1 _ _ _ _ _ hP hS (lv_sub hl [0, 1, 2, 3] rfl) h
      have h := ineg c440 h
      by_cases c452 : ((xs j2) &&& (63 : Int32)) = (31 : Int32)
      · have h := ipos c452 h
        refine r_tabIn X (pc := 32) (tgt := 1151) c452 dL_law_32 (by decide) (by decide) rfl (by decide) ?_
        exact w_L_law_1151 X XL hz1 hz2 ih1 _ _ _ _ _ hP hS (lv_sub hl [0, 1, 2, 3] rfl) h
      have h := ineg c452 h
      by_cases c468 : ((xs j2) &&& (63 : Int32)) = (32 : Int32)
      · have h := ipos c468 h
        refine r_tabIn X (pc := 32) (tgt := 1184) c468 dL_law_32 (by decide) (by decide) rfl (by decide) ?_
        exact w_L_law_1184 X XL hz1 hz2 ih1 _ _ _ _ _ hP hS (lv_sub hl [0, 1, 2, 3] rfl) h
      have h := ineg c468 h
      by_cases c488 : ((xs j2) &&& (63 : Int32)) = (33 : Int32)
      · have h := ipos c488 h
        refine r_tabIn X (pc := 32) (tgt := 1227) c488 dL_law_32 (by decide) (by decide) rfl (by decide) ?_
        exact w_L_law_1227 X XL hz1 hz2 ih1 _ _ _ _ _ hP hS (lv_sub hl [0, 1, 2, 3] rfl) h
      have h := ineg c488 h
      by_cases c500 : ((xs j2) &&& (63 : Int32)) = (34 : Int32)
      · have h := ipos c500 h
        refine r_tabIn X (pc := 32) (tgt := 1250) c500 dL_law_32 (by decide) (by decide) rfl (by decide) ?_
        exact w_L_law_1250 X XL hz1 hz2 ih1 _ _ _ _ _ hP hS (lv_sub hl [0, 1, 2, 3] rfl) h
      have h := ineg c500 h
      by_cases c524 : ((xs j2) &&& (63 : Int32)) = (35 : Int32)
      · have h := ipos c524 h
        refine r_tabIn X (pc := 32) (tgt := 1303) c524 dL_law_32 (by decide) (by decide) rfl (by decide) ?_
        exact w_L_law_1303 X XL hz1 hz2 ih1 _ _ _ _ _ hP hS (lv_sub hl [0, 1, 2, 3] rfl) h
      have h := ineg c524 h
      by_cases c544 : ((xs j2) &&& (63 : Int32)) = (36 : Int32)
      · have h := ipos c544 h
        refine r_tabIn X (pc := 32) (tgt := 1346) c544 dL_law_32 (by decide) (by decide) rfl (by decide) ?_
        exact w_L_law_1346 X XL hz1 hz2 ih1 _ _ _ _ _ hP hS (lv_sub hl [0, 1, 2, 3] rfl) h
      have h := ineg c544 h
      by_cases c564 : ((xs j2) &&& (63 : Int32)) = (37 : Int32)
      · have h := ipos c564 h
        refine r_tabIn X (pc := 32) (tgt := 1389) c564 dL_law_32 (by decide) (by decide) rfl (by decide) ?_
        exact w_L_law_1389 X XL hz1 hz2 ih1 _ _ _ _ _ hP hS (lv_sub hl [0, 1, 2, 3] rfl) h
      have h := ineg c564 h
      by_cases c584 : ((xs j2) &&& (63 : Int32)) = (38 : Int32)
      · have h := ipos c584 h
        refine r_tabIn X (pc := 32) (tgt := 1432) c584 dL_law_32 (by decide) (by decide) rfl (by decide) ?_
        exact w_L_law_1432 X XL hz1 hz2 ih1 _ _ _ _ _ hP hS (lv_sub hl [0, 1, 2, 3] rfl) h
      have h := ineg c584 h
      by_cases c604 : ((xs j2) &&& (63 : Int32)) = (39 : Int32)
      · have h := ipos c604 h
        refine r_tabIn X (pc := 32) (tgt := 1475) c604 dL_law_32 (by decide) (by decide) rfl (by decide) ?_
        exact w_L_law_1475 X XL hz1 hz2 ih1 _ _ _ _ _ hP hS (lv_sub hl [0, 1, 2, 3] rfl) h
      have h := ineg c604 h
      by_cases c620 : ((xs j2) &&& (63 : Int32)) = (40 : Int32)
      · have h := ipos c620 h
        refine r_tabIn X (pc := 32) (tgt := 1508) c620 dL_law_32 (by decide) (by decide) rfl (by decide) ?_
        exact w_L_law_1508 X XL hz1 hz2 ih1 _ _ _ _ _ hP hS (lv_sub hl [0, 1, 2, 3] rfl) h
      have h := ineg c620 h
      by_cases c640 : ((xs j2) &&& (63 : Int32)) = (41 : Int32)
      · have h := ipos c640 h
        refine r_tabIn X (pc := 32) (tgt := 1551) c640 dL_law_32 (by decide) (by decide) rfl (by decide) ?_
        exact w_L_law_1551 X XL hz1 hz2 ih1 _ _ _ _ _ hP hS (lv_sub hl [0, 1, 2, 3] rfl) h
      have h := ineg c640 h
      by_cases c652 : ((xs j2) &&& (63 : Int32)) = (42 : Int32)
      · have h := ipos c652 h
        refine r_tabIn X (pc := 32) (tgt := 1574) c652 dL_law_32 (by decide) (by decide) rfl (by decide) ?_
        exact w_L_law_1574 X XL hz1 hz2 ih1 _ _ _ _ _ hP hS (lv_sub hl [0, 1, 2, 3] rfl) h
      have h := ineg c652 h
      by_cases c664 : ((xs j2) &&& (63 : Int32)) = (43 : Int32)
      · have h := ipos c664 h
        refine r_tabIn X (pc := 32) (tgt := 1597) c664 dL_law_32 (by decide) (by decide) rfl (by decide) ?_
        exact w_L_law_1597 X XL hz1 hz2 ih1 _ _ _ _ _ hP hS (lv_sub hl [0, 1, 2, 3] rfl) h
      have h := ineg c664 h
      by_cases c672 : ((xs j2) &&& (63 : Int32)) = (44 : Int32)
      · have h := ipos c672 h
        refine r_tabIn X (pc := 32) (tgt := 1610) c672 dL_law_32 (by decide) (by decide) rfl (by decide) ?_
        exact w_L_law_1610 X XL hz1 hz2 ih1 _ _ _ _ _ hP hS (lv_sub hl [0, 1, 2, 3] rfl) h
      have h := ineg c672 h
      refine lv_tableOut (pc := 32) (tgt := 1623) hx hb dL_law_32 (by have := lv_neT c4 (a := 0) (by decide); have := lv_neT c24 (a := 1) (by decide); have := lv_neT c32 (a := 2) (by decide); have := lv_neT c48 (a := 3) (by decide); have := lv_neT c64 (a := 4) (by decide); have := lv_neT c84 (a := 5) (by decide); have := lv_neT c100 (a := 6) (by decide); have := lv_neT c112 (a := 7) (by decide); have := lv_neT c136 (a := 8) (by decide); have := lv_neT c152 (a := 9) (by decide); have := lv_neT c172 (a := 10) (by decide); have := lv_neT c192 (a := 11) (by decide); have := lv_neT c208 (a := 12) (by decide); have := lv_neT c220 (a := 13) (by decide); have := lv_neT c232 (a := 14) (by decide); have := lv_neT c244 (a := 15) (by decide); have := lv_neT c256 (a := 16) (by decide); have := lv_neT c272 (a := 17) (by decide); have := lv_neT c280 (a := 18) (by decide); have := lv_neT c292 (a := 19) (by decide); have := lv_neT c304 (a := 20) (by decide); have := lv_neT c320 (a := 21) (by decide); have := lv_neT c336 (a := 22) (by decide); have := lv_neT c352 (a := 23) (by decide); have := lv_neT c368 (a := 24) (by decide); have := lv_neT c380 (a := 25) (by decide); have := lv_neT c392 (a := 26) (by decide); have := lv_neT c404 (a := 27) (by decide); have := lv_neT c416 (a := 28) (by decide); have := lv_neT c428 (a := 29) (by decide); have := lv_neT c440 (a := 30) (by decide); have := lv_neT c452 (a := 31) (by decide); have := lv_neT c468 (a := 32) (by decide); have := lv_neT c488 (a := 33) (by decide); have := lv_neT c500 (a := 34) (by decide); have := lv_neT c524 (a := 35) (by decide); have := lv_neT c544 (a := 36) (by decide); have := lv_neT c564 (a := 37) (by decide); have := lv_neT c584 (a := 38) (by decide); have := lv_neT c604 (a := 39) (by decide); have := lv_neT c620 (a := 40) (by decide); have := lv_neT c640 (a := 41) (by decide); have := lv_neT c652 (a := 42) (by decide); have := lv_neT c664 (a := 43) (by decide); have := lv_neT c672 (a := 44) (by decide); omega) (by decide) ?_
      refine lv_iinc (pc := 1623) (v := (v3 + (5 : Int32))) (lv' := [(3, .int (v3 + (5 : Int32))), (0, .ref b), (1, .ref (ga G k1z)), (2, .ref (ga G k2z))]) hx hb dL_law_1623 hl (k := 3) rfl (congrArg (fun z => v3 + z) (by decide)) (by decide) rfl (fun ls hl => ?_)
      refine lv_goto (pc := 1626) (tgt := 18) hx hb dL_law_1626 (by decide) ?_
      exact ih1 _ _ _ _ _ hP hS (lv_sub hl [1, 2, 3, 0] rfl) h
