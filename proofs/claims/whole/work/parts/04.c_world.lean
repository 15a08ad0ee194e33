/-! the memory of both systems behind their constructors: fixed cells at addresses ga; the ints and longs in them -/
abbrev Mem : Type := (Nat → Nat → Int32) × (Nat → Nat → Int64)
abbrev Gh : Type := va_G × (Nat → Nat) × (Nat → ClassId) × (Nat → Nat) × (Nat → Nat) × Option Nat
def ga (G : Gh) (k : Nat) : Nat := G.2.1 k
def gc (G : Gh) (k : Nat) : ClassId := G.2.2.1 k
def gI (σ : Mem) (k i : Nat) : Int32 := σ.1 k i
def gL (σ : Mem) (k i : Nat) : Int64 := σ.2 k i
def pC (σ : Mem) (k : Nat) (f : Nat → Int32) : Mem := (fun a => if a = k then f else σ.1 a, σ.2)
def pI (σ : Mem) (k i : Nat) (v : Int32) : Mem := pC σ k (upd (σ.1 k) i v)
def pL (σ : Mem) (k i : Nat) (v : Int64) : Mem := (σ.1, fun a => if a = k then vp_updL (σ.2 k) i v else σ.2 a)
abbrev NC : Nat := 127
def KDL : List Nat := [9, 2, 15, 14, 12, 3, 3, 3, 3, 3, 0, 0, 0, 0, 0, 0, 2, 15, 14, 12, 3, 3, 3, 3, 3, 0, 0, 0, 0, 0, 0, 2, 15, 14, 12, 3, 3, 3, 3, 3, 0, 0, 0, 0, 0, 0, 7, 11, 8, 2, 15, 14, 12, 3, 3, 3, 3, 3, 0, 0, 0, 0, 0, 0, 12, 12, 18, 12, 12, 12, 12, 12, 12, 12, 4, 12, 4, 12, 16, 17, 1, 12, 5, 12, 5, 12, 5, 12, 5, 12, 6, 6, 6, 6, 10, 12, 12, 12, 12, 12, 12, 12, 12, 12, 12, 12, 12, 12, 12, 12, 12, 12, 12, 12, 12, 12, 12, 12, 12, 12, 13, 12, 12, 12, 12, 12, 12]
def ALL : List Nat := [0, 0, 5, 6, 12, 0, 0, 0, 0, 0, 0, 0, 0, 0, 0, 0, 0, 5, 6, 12, 0, 0, 0, 0, 0, 0, 0, 0, 0, 0, 0, 0, 5, 6, 12, 0, 0, 0, 0, 0, 0, 0, 0, 0, 0, 0, 0, 200, 0, 0, 5, 6, 12, 0, 0, 0, 0, 0, 0, 0, 0, 0, 0, 0, 5, 5, 6, 6, 6, 6, 6, 6, 6, 6, 0, 60, 0, 60, 4, 4, 0, 30, 0, 40, 0, 40, 0, 40, 0, 40, 0, 0, 0, 0, 0, 5, 5, 5, 5, 5, 12, 6, 6, 6, 22, 200, 5, 5, 6, 6, 6, 6, 12, 60, 5, 5, 5, 60, 4, 4, 160, 4, 4, 4, 30, 80, 4]
def kd (k : Nat) : Nat := KDL.getD k 99
def al (k : Nat) : Nat := ALL.getD k 0
theorem kd_lt {k n : Nat} (h : kd k = n) (hn : n < 99) : k < NC := by
  rcases Nat.lt_or_ge k NC with q | q
  · exact q
  · have hl : KDL.length ≤ k := Nat.le_trans (by decide +kernel : KDL.length ≤ NC) q
    have e : kd k = 99 := by simp [kd, List.getD, List.getElem?_eq_none hl]
    omega
def ixo (a : Nat) (i : Int32) : Option Nat := if i < 0 ∨ al a ≤ i.toNatClampNeg then none else some i.toNatClampNeg
theorem ixo_in {a j : Nat} {i : Int32} (h : ixo a i = some j) : vp_in i (al a) ∧ i.toNatClampNeg = j ∧ j < al a := by
  unfold ixo at h
  by_cases c : i < 0 ∨ al a ≤ i.toNatClampNeg
  · rw [if_pos c] at h; cases h
  · rw [if_neg c] at h
    have e := Option.some.inj h
    exact ⟨c, e, by omega⟩
/-- loops, by fuel -/
def iterF {τ : Type} (F : τ → τ) (bot : τ) : Nat → τ
  | 0 => bot
  | n + 1 => F (iterF F bot n)
theorem ipos {α : Sort _} {c : Prop} [Decidable c] {A B r : α} (hc : c) (h : (if c then A else B) = r) : A = r := (if_pos hc).symm.trans h
theorem ineg {α : Sort _} {c : Prop} [Decidable c] {A B r : α} (hc : ¬ c) (h : (if c then A else B) = r) : B = r := (if_neg hc).symm.trans h
def bd1 {α β : Type} (x : Option α) (f : α → Option β) : Option β := match x with
  | none => none
  | some a => f a
def bd2 {α β γ : Type} (x : Option (α × β)) (f : α → β → Option γ) : Option γ := match x with
  | none => none
  | some a => f a.1 a.2
theorem bnd1 {α β : Type} {x : Option α} {f : α → Option β} {r : β} (h : bd1 x f = some r) : ∃ a, x = some a ∧ f a = some r := by
  cases x with
  | none => cases h
  | some a => exact ⟨a, rfl, h⟩
theorem bnd2 {α β γ : Type} {x : Option (α × β)} {f : α → β → Option γ} {r : γ} (h : bd2 x f = some r) : ∃ a b, x = some (a, b) ∧ f a b = some r := by
  cases x with
  | none => cases h
  | some a => exact ⟨a.1, a.2, rfl, h⟩
def grd {β : Type} (c : Prop) [Decidable c] (x : Option β) : Option β := if c then x else none
theorem grd_inv {β : Type} {c : Prop} [Decidable c] {x : Option β} {r : β} (h : grd c x = some r) : c ∧ x = some r := by
  unfold grd at h
  by_cases hc : c
  · rw [if_pos hc] at h; exact ⟨hc, h⟩
  · rw [if_neg hc] at h; cases h
def onr {β : Type} (x : Option Nat) (a : Option β) (f : Nat → Option β) : Option β := match x with
  | none => a
  | some k => f k
/-! the tables' words -/
def tw_nest : Cond → Bool
  | .fieldLinkNest _ _ _ _ _ _ => true
  | .methodLinkNest _ _ _ _ => true
  | _ => false
def tw_ok (w : Cond) : Bool := goodWord w || tw_nest w
def Tab (s : State) : Prop := ∀ w ∈ lw_tbl, tw_ok w = true → w.before #[] s = true
theorem Tab.warm {s U : State} (hW : s.WarmedH U.vm) (h : Tab s) : Tab U := by
  intro w hm hg
  have h0 := h w hm hg
  unfold tw_ok at hg
  rw [Bool.or_eq_true] at hg
  rcases hg with q | q
  · exact word_at hW (good_of_word q) h0
  · cases w <;> first | exact va_Nw.warmF hW h0 | exact va_Nw.warmM hW h0 | (exact absurd q (by simp [tw_nest]))
theorem Tab.at {s : State} (h : Tab s) {w : Cond} (hm : w ∈ lw_tbl) (hg : tw_ok w = true) {A : Array Value} : w.before A s = true := by
  have h0 := h w hm hg
  unfold tw_ok at hg
  rw [Bool.or_eq_true] at hg
  rcases hg with q | q
  · exact word_at (State.WarmedH.refl s) (good_of_word q) h0
  · cases w <;> first | exact va_Nw.use (w := Cond.fieldLinkNest _ _ _ _ _ _) rfl h0 | exact va_Nw.use (w := Cond.methodLinkNest _ _ _ _) rfl h0 | (exact absurd q (by simp [tw_nest]))
/-! the world -/
def entR (G : Gh) (k : Nat) (r : Nat → Int32) (q : Nat → Int64) : va_E := match kd k with
  | 0 => .inr (0, [.int (r 0), .int (r 1), .int (r 2), .int (r 3)])
  | 1 => .inr (1, [.ref (ga G (k + 1)), .int (r 1), .int (r 2), .int (r 3), .int (r 4), .int (r 5)])
  | 2 => .inr (2, [.ref (ga G (k + 1)), .int (r 1), .ref (ga G (k + 2)), .int (r 3), .ref (ga G (k + 3)), .int (r 5), .int (r 6), .int (r 7), .int (r 8), .int (r 9), .int (r 10), .int (r 11)])
  | 3 => .inr (3, [.int (r 0), .int (r 1), .int (r 2), .int (r 3), .int (r 4)])
  | 4 => .inr (4, [.ref (ga G (k + 1)), .int (r 1)])
  | 5 => .inr (5, [.ref (ga G (k + 1)), .int (r 1), .int (r 2)])
  | 6 => .inr (6, [.int (r 0), .int (r 1), .int (r 2)])
  | 7 => .inr (7, [.ref (ga G (k + 1)), .int (r 1), .int (r 2), .int (r 3)])
  | 8 => .inr (8, [.ref (ga G (k + 1)), .int (r 1), .int (r 2), .ref (ga G (k + 16)), .ref (ga G (k + 17)), .ref (ga G (k + 18)), .ref (ga G (k + 25))])
  | 9 => .inr (9, [.ref (ga G (k + 1)), .ref (ga G (k + 16)), .int (r 2), .ref (ga G (k + 31)), .ref (ga G (k + 46)), .ref (ga G (k + 48)), .ref (ga G (k + 74)), .ref (ga G (k + 76)), .ref (ga G (k + 78)), .ref (ga G (k + 79)), .ref (ga G (k + 80))])
  | 10 => .inr (10, [.int (r 0), .ref (ga G (k + 1)), .ref (ga G (k + 2)), .ref (ga G (k + 3)), .ref (ga G (k + 4)), .ref (ga G (k + 5)), .ref (ga G (k + 6)), .int (r 7), .int (r 8), .ref (ga G (k + 7)), .ref (ga G (k + 8)), .ref (ga G (k + 9)), .ref (ga G (k + 10)), .int (r 13), .int (r 14), .ref (ga G (k + 11)), .int (r 16), .int (r 17), .int (r 18), .int (r 19), .long (q 20), .int (r 21), .int (r 22), .int (r 23), .int (r 24), .int (r 25), .ref (ga G (k + 12)), .ref (ga G (k + 13)), .ref (ga G (k + 14)), .ref (ga G (k + 15)), .ref (ga G (k + 16)), .ref (ga G (k + 17)), .ref (ga G (k + 18)), .int (r 33), .ref (ga G (k + 19)), .int (r 35), .int (r 36), .int (r 37), .int (r 38), .ref (ga G (k + 20)), .ref (ga G (k + 21)), .ref (ga G (k + 22)), .int (r 42), .int (r 43), .ref (ga G (k + 23)), .int (r 45), .ref (ga G (k + 24)), .ref (ga G (k + 25)), .ref (ga G (k + 26)), .ref (ga G (k + 27)), .ref (ga G (k + 28)), .ref (ga G (k + 29)), .int (r 52), .int (r 53), .int (r 54), .ref (ga G (k + 30)), .int (r 56), .int (r 57), .int (r 58), .ref (ga G (k + 31)), .int (r 60), .ref (ga G (k + 32))])
  | 11 => .inl (gc G 0, al k, .inl r)
  | 12 => .inl (gc G 1, al k, .inl r)
  | 13 => .inl (gc G 2, al k, .inr (.inl q))
  | 14 => .inl (gc G 3, al k, .inr (.inr (.inr (.inr (fun j => some (ga G (k + 7 + j)))))))
  | 15 => .inl (gc G 4, al k, .inr (.inr (.inr (.inr (fun j => some (ga G (k + 3 + j)))))))
  | 16 => .inl (gc G 5, al k, .inr (.inr (.inr (.inr (fun j => some (ga G (k + 4 + 2 * j)))))))
  | 17 => .inl (gc G 6, al k, .inr (.inr (.inr (.inr (fun j => some (ga G (k + 11 + j)))))))
  | _ => .inl (gc G 7, al k, .inr (.inr (.inr (.inr (fun j => some (ga G (k + 1 + j)))))))
def ent (G : Gh) (σ : Mem) (k : Nat) : va_E := entR G k (σ.1 k) (σ.2 k)
def wl (G : Gh) (σ : Mem) : va_W := (List.range NC).map (fun k => (ga G k, ent G σ k))
theorem wl_at {G : Gh} {σ : Mem} {k : Nat} (hk : k < NC) : (wl G σ)[k]? = some (ga G k, ent G σ k) := by
  unfold wl
  rw [List.getElem?_map, List.getElem?_range hk]
  rfl
theorem wl_set {G : Gh} {σ σ' : Mem} {k : Nat} (h1 : ∀ a, a ≠ k → σ'.1 a = σ.1 a ∧ σ'.2 a = σ.2 a) {e : va_E} (he : ent G σ' k = e) : (wl G σ).set k (ga G k, e) = wl G σ' := by
  apply List.ext_getElem?
  intro i
  rw [List.getElem?_set]
  by_cases hi : i < NC
  · rw [wl_at (σ := σ') hi]
    by_cases hik : k = i
    · subst hik
      rw [if_pos rfl, if_pos (by simpa [wl] using hi), he]
    · rw [if_neg hik, wl_at hi]
      have := h1 i (fun q => hik q.symm)
      unfold ent
      rw [this.1, this.2]
  · have h2 : (wl G σ')[i]? = none := List.getElem?_eq_none (by simp [wl]; omega)
    have h3 : (wl G σ)[i]? = none := List.getElem?_eq_none (by simp [wl]; omega)
    rw [h2]
    by_cases hik : k = i
    · subst hik
      rw [if_pos rfl, if_neg (by simp [wl]; omega)]
    · rw [if_neg hik, h3]
def PW (G : Gh) (σ : Mem) (H : Heap) : Prop := va_P G.1 vwCl (wl G σ) H
def AA (G : Gh) : Nat → Prop := fun q => ∃ k, k < NC ∧ q = ga G k
def Inj (G : Gh) : Prop := ∀ i j, i < NC → j < NC → ga G i = ga G j → i = j
theorem wl_D {G : Gh} {σ : Mem} (h : Inj G) : va_D (AA G) (wl G σ) := by
  have key : ∀ (i : Nat) (p : Nat × va_E), (wl G σ)[i]? = some p → i < NC ∧ p.1 = ga G i := by
    intro i p hp
    have hi : i < NC := by
      have := (List.getElem?_eq_some_iff.mp hp).1
      simpa [wl] using this
    rw [wl_at hi] at hp
    cases hp
    exact ⟨hi, rfl⟩
  refine ⟨fun i j p q hp hq e => ?_, fun i p hp => ?_⟩
  · obtain ⟨a1, a2⟩ := key i p hp
    obtain ⟨b1, b2⟩ := key j q hq
    exact h i j a1 b1 (by rw [← a2, ← b2]; exact e)
  · obtain ⟨a1, a2⟩ := key i p hp
    exact ⟨i, a1, a2⟩
def tysG (G : Gh) : List (ClassId × FieldType) := [(gc G 0, .byte), (gc G 1, .int), (gc G 2, .long), (gc G 3, .object "InchCandle$Bidder"), (gc G 4, .object "InchCandle$Lot"), (gc G 5, .object "InchCandle$Sheet"), (gc G 6, .object "InchCandle$Shelf"), (gc G 7, .array .int)]
def KG (G : Gh) (U : State) : Prop := va_K G.1 vwCl (tysG G) U
def strIx : List Nat := [119, 121, 123, 125, 127, 129, 40, 72, 87, 89, 54, 59]
def strTx : List String := ["late", "leaper", "sniper", "broker", "blind", "bidder", "lot", "worth", "value", "purse", "draught", "step"]
def strLen : List Nat := strTx.map String.length
def strByt : List (List Int32) := strTx.map (fun t => t.toList.map (fun c => Int32.ofNat c.toNat))
def StrG (G : Gh) (U : State) (H : Heap) : Prop := vk_S 12 strLen strByt G.2.2.2.1 G.2.2.2.2.1 (AA G) U H ∧ (∀ i : Nat, i < 12 → vk_R "InchCandle$Tape" (strIx.getD i 0) (strTx.getD i "") (G.2.2.2.1 i) U) ∧
  va_Z "java/lang/String" "COMPACT_STRINGS" "Z" (.int 1) (AA G) U H ∧ va_Z "jdk/internal/util/Preconditions" "SIOOBE_FORMATTER" "Ljava/util/function/BiFunction;" (va_rf G.2.2.2.2.2) (AA G) U H
theorem StrG.go {G : Gh} {u U : State} {H0 H1 : Heap} (hW : u.WarmedH U.vm) (hk : ∀ a : Nat, a < H0.size → ¬ AA G a → H1[a]? = H0[a]?) (h : StrG G u H0) : StrG G U H1 :=
  ⟨vk_S.moved hW.alike (vk_S.kept h.1 hk), fun i hi => vk_R.warm hW (h.2.1 i hi), va_Z.moved hW.alike (va_Z.kept h.2.2.1 hk), va_Z.moved hW.alike (va_Z.kept h.2.2.2 hk)⟩
def Pre (G : Gh) (σ : Mem) (U : State) : Prop := Tab U ∧ KG G U ∧ Inj G ∧ StrG G U U.heap ∧ PW G σ U.heap
theorem Pre.blind (G : Gh) (σ : Mem) (av : List Value) : FrameBlind (va_Pc av (Pre G σ)) := by
  intro a U g mk h
  obtain ⟨h0, h1, h2, h3, h4, h5⟩ := h
  exact ⟨h0, Tab.warm (s := U) (U := U.calling g mk a) (State.WarmedH.refl U) h1, va_K.moved (u := U) (U := U.calling g mk a) (Vm.Alike.refl U.vm) h2, h3,
    StrG.go (u := U) (U := U.calling g mk a) (State.WarmedH.refl U) (fun _ _ _ => rfl) h4, h5⟩
def QG (G : Gh) (rv : Option Value) (σ : Mem) : Array Value → State → Outcome → State → Prop := fun _ st oc t => (oc = .returned rv ∧ PW G σ t.heap) ∧ va_F (AA G) st t
/-- the context of a walk -/
def Cx (G : Gh) (p : Program) (s : State) (m : MethodId) (args : Array Value) (meth : Method) (c : Code) (cc : ByteArray) (own : String) (nL : Nat) (ret : Option FieldType) : Prop :=
  p.tables.exec = Jvm.exec ∧ c.code = cc ∧ c.maxLocals = nL ∧ s.vm.findClass own = some m.cls ∧ meth.sig.returnType = ret ∧ meth.locks = false ∧ Tab s ∧ KG G s ∧ Inj G ∧ StrG G s s.heap
section RW
variable {p : Program} {l : Launch} {e : Env} {R : Room} {s : State} {m : MethodId} {args : Array Value} {below : List Frame} {meth : Method} {c : Code} {H : Heap} {locs : List Loc} {cells slots : Nat} {Q : State → Prop}
variable {cc : ByteArray} {pc : Nat} {ls : Array Slot} {rest st0 : List Value} {G : Gh} {σ σ' : Mem} {own : String} {nL : Nat} {ret : Option FieldType}
theorem Cx.hx (X : Cx G p s m args meth c cc own nL ret) : p.tables.exec = Jvm.exec := X.1
theorem Cx.hb (X : Cx G p s m args meth c cc own nL ret) : c.code = cc := X.2.1
theorem Cx.hml (X : Cx G p s m args meth c cc own nL ret) : c.maxLocals = nL := X.2.2.1
theorem Cx.hown (X : Cx G p s m args meth c cc own nL ret) : s.vm.findClass own = some m.cls := X.2.2.2.1
theorem Cx.hr (X : Cx G p s m args meth c cc own nL ret) : meth.sig.returnType = ret := X.2.2.2.2.1
theorem Cx.hlk (X : Cx G p s m args meth c cc own nL ret) : meth.locks = false := X.2.2.2.2.2.1
theorem Cx.hT (X : Cx G p s m args meth c cc own nL ret) : Tab s := X.2.2.2.2.2.2.1
theorem Cx.hK (X : Cx G p s m args meth c cc own nL ret) : KG G s := X.2.2.2.2.2.2.2.1
theorem Cx.hI (X : Cx G p s m args meth c cc own nL ret) : Inj G := X.2.2.2.2.2.2.2.2.1
theorem Cx.hstr (X : Cx G p s m args meth c cc own nL ret) : StrG G s s.heap := X.2.2.2.2.2.2.2.2.2
theorem Cx.tb (X : Cx G p s m args meth c cc own nL ret) {w : Cond} (hm : w ∈ lw_tbl) (hg : tw_ok w = true) : w.before args s = true := X.hT.at hm hg
theorem r_get (X : Cx G p s m args meth c cc own nL ret) (hP : PW G σ H) {C : String} {T : u_T} {N ci index k j : Nat} {fs : List Value} {v : Value} (hU : ∀ w ∈ u_ws C T N, w.before args s = true) (he : (wl G σ)[k]? = some (ga G k, .inr (ci, fs))) (hc : vwCl[ci]? = some (C, T, N)) (hj : j < N)
    (hm : (Cond.fieldLink own index (T j).1 (T j).2.1 (T j).2.2.1).before args s = true) (hv : fs[j]? = some v) (hdg : decode cc pc = .ok (.getfield index, 3))
    (kk : W p l e R s m args below meth c H locs cells slots Q (F0 m (pc + 3) ls (v :: rest))) : W p l e R s m args below meth c H locs cells slots Q (F0 m pc ls (.ref (ga G k) :: rest)) :=
  va_get (Ts := u_ws C T N) X.hx X.hb hU (fun _ h => h) X.hown X.hK hP k he hc j hj hm (fun _ h => h) hv hdg kk
theorem r_getN (X : Cx G p s m args meth c cc own nL ret) (hP : PW G σ H) {C host : String} {T : u_T} {N ci index k j : Nat} {fs : List Value} {v : Value} (hU : ∀ w ∈ u_ws C T N, w.before args s = true) (he : (wl G σ)[k]? = some (ga G k, .inr (ci, fs))) (hc : vwCl[ci]? = some (C, T, N)) (hj : j < N)
    (hm : (Cond.fieldLinkNest own index (T j).1 (T j).2.1 (T j).2.2.1 host).before args s = true) (hv : fs[j]? = some v) (hdg : decode cc pc = .ok (.getfield index, 3))
    (kk : W p l e R s m args below meth c H locs cells slots Q (F0 m (pc + 3) ls (v :: rest))) : W p l e R s m args below meth c H locs cells slots Q (F0 m pc ls (.ref (ga G k) :: rest)) :=
  va_getN (Ts := u_ws C T N) X.hx X.hb hU (fun _ h => h) X.hown X.hK hP k he hc j hj hm (fun _ h => h) hv hdg kk
theorem r_put (X : Cx G p s m args meth c cc own nL ret) (hP : PW G σ H) (hS : va_S (AA G) s.heap H locs) {C : String} {T : u_T} {N ci index k j : Nat} {fs : List Value} {v : Value} {ty : FieldType} (ty0 : Nat → FieldType) (hty : ∀ k, k < N → parseFieldDescriptor (T k).2.2.1 = some (ty0 k)) (hnm : ∀ a, a < N → ∀ b, b < N → a ≠ b → (T a).2.1 ≠ (T b).2.1)
    (hU : ∀ w ∈ u_ws C T N, w.before args s = true) (he : (wl G σ)[k]? = some (ga G k, .inr (ci, fs))) (hc : vwCl[ci]? = some (C, T, N)) (hj : j < N)
    (hm : (Cond.fieldLink own index (T j).1 (T j).2.1 (T j).2.2.1).before args s = true) (hfin : (T j).2.2.2 = false) (hd : parseFieldDescriptor (T j).2.2.1 = some ty) (hn : narrow ty v = v) (hfit : fits ty v = true) (hl : j < fs.length)
    (h1 : ∀ a, a ≠ k → σ'.1 a = σ.1 a ∧ σ'.2 a = σ.2 a) (h2 : ent G σ' k = .inr (ci, fs.set j v)) (hdg : decode cc pc = .ok (.putfield index, 3))
    (kk : ∀ (H : Heap) (locs : List Loc), PW G σ' H → va_S (AA G) s.heap H locs → W p l e R s m args below meth c H locs cells slots Q (F0 m (pc + 3) ls rest)) : W p l e R s m args below meth c H locs cells slots Q (F0 m pc ls (v :: .ref (ga G k) :: rest)) :=
  va_put (Ts := u_ws C T N) X.hx X.hb hU (fun _ h => h) ty0 hty hnm X.hown X.hK hP (wl_D X.hI) hS k he hc j hj hm (fun _ h => h) hfin hd hn hfit hl hdg (fun H1 locs1 q1 _ q3 => kk H1 locs1 (by rw [wl_set h1 h2] at q1; exact q1) q3)
theorem r_putN (X : Cx G p s m args meth c cc own nL ret) (hP : PW G σ H) (hS : va_S (AA G) s.heap H locs) {C host : String} {T : u_T} {N ci index k j : Nat} {fs : List Value} {v : Value} {ty : FieldType} (ty0 : Nat → FieldType) (hty : ∀ k, k < N → parseFieldDescriptor (T k).2.2.1 = some (ty0 k)) (hnm : ∀ a, a < N → ∀ b, b < N → a ≠ b → (T a).2.1 ≠ (T b).2.1)
    (hU : ∀ w ∈ u_ws C T N, w.before args s = true) (he : (wl G σ)[k]? = some (ga G k, .inr (ci, fs))) (hc : vwCl[ci]? = some (C, T, N)) (hj : j < N)
    (hm : (Cond.fieldLinkNest own index (T j).1 (T j).2.1 (T j).2.2.1 host).before args s = true) (hfin : (T j).2.2.2 = false) (hd : parseFieldDescriptor (T j).2.2.1 = some ty) (hn : narrow ty v = v) (hfit : fits ty v = true) (hl : j < fs.length)
    (h1 : ∀ a, a ≠ k → σ'.1 a = σ.1 a ∧ σ'.2 a = σ.2 a) (h2 : ent G σ' k = .inr (ci, fs.set j v)) (hdg : decode cc pc = .ok (.putfield index, 3))
    (kk : ∀ (H : Heap) (locs : List Loc), PW G σ' H → va_S (AA G) s.heap H locs → W p l e R s m args below meth c H locs cells slots Q (F0 m (pc + 3) ls rest)) : W p l e R s m args below meth c H locs cells slots Q (F0 m pc ls (v :: .ref (ga G k) :: rest)) :=
  va_putN (Ts := u_ws C T N) X.hx X.hb hU (fun _ h => h) ty0 hty hnm X.hown X.hK hP (wl_D X.hI) hS k he hc j hj hm (fun _ h => h) hfin hd hn hfit hl hdg (fun H1 locs1 q1 _ q3 => kk H1 locs1 (by rw [wl_set h1 h2] at q1; exact q1) q3)
theorem pI_ne {σ : Mem} {k i : Nat} {v : Int32} : ∀ a, a ≠ k → (pI σ k i v).1 a = σ.1 a ∧ (pI σ k i v).2 a = σ.2 a := fun a h => ⟨if_neg h, rfl⟩
theorem pL_ne {σ : Mem} {k i : Nat} {v : Int64} : ∀ a, a ≠ k → (pL σ k i v).1 a = σ.1 a ∧ (pL σ k i v).2 a = σ.2 a := fun a h => ⟨rfl, if_neg h⟩
theorem pC_ne {σ : Mem} {k : Nat} {f : Nat → Int32} : ∀ a, a ≠ k → (pC σ k f).1 a = σ.1 a ∧ (pC σ k f).2 a = σ.2 a := fun a h => ⟨if_neg h, rfl⟩
theorem pI_row {σ : Mem} {k i : Nat} {v : Int32} : (pI σ k i v).1 k = upd (σ.1 k) i v := if_pos rfl
theorem pL_row {σ : Mem} {k i : Nat} {v : Int64} : (pL σ k i v).2 k = vp_updL (σ.2 k) i v := if_pos rfl
theorem pC_row {σ : Mem} {k : Nat} {f : Nat → Int32} : (pC σ k f).1 k = f := if_pos rfl
theorem ea11 {a : Nat} (h : kd a = 11) : (wl G σ)[a]? = some (ga G a, .inl (gc G 0, al a, .inl (σ.1 a))) := by rw [wl_at (kd_lt h (by decide))]; unfold ent entR; rw [h] <;> rfl
theorem ea12 {a : Nat} (h : kd a = 12) : (wl G σ)[a]? = some (ga G a, .inl (gc G 1, al a, .inl (σ.1 a))) := by rw [wl_at (kd_lt h (by decide))]; unfold ent entR; rw [h] <;> rfl
theorem ea13 {a : Nat} (h : kd a = 13) : (wl G σ)[a]? = some (ga G a, .inl (gc G 2, al a, .inr (.inl (σ.2 a)))) := by rw [wl_at (kd_lt h (by decide))]; unfold ent entR; rw [h] <;> rfl
theorem ea14 {a : Nat} (h : kd a = 14) : (wl G σ)[a]? = some (ga G a, .inl (gc G 3, al a, .inr (.inr (.inr (.inr (fun j => some (ga G (a + 7 + j)))))))) := by rw [wl_at (kd_lt h (by decide))]; unfold ent entR; rw [h] <;> rfl
theorem ea15 {a : Nat} (h : kd a = 15) : (wl G σ)[a]? = some (ga G a, .inl (gc G 4, al a, .inr (.inr (.inr (.inr (fun j => some (ga G (a + 3 + j)))))))) := by rw [wl_at (kd_lt h (by decide))]; unfold ent entR; rw [h] <;> rfl
theorem ea16 {a : Nat} (h : kd a = 16) : (wl G σ)[a]? = some (ga G a, .inl (gc G 5, al a, .inr (.inr (.inr (.inr (fun j => some (ga G (a + 4 + 2 * j)))))))) := by rw [wl_at (kd_lt h (by decide))]; unfold ent entR; rw [h] <;> rfl
theorem ea17 {a : Nat} (h : kd a = 17) : (wl G σ)[a]? = some (ga G a, .inl (gc G 6, al a, .inr (.inr (.inr (.inr (fun j => some (ga G (a + 11 + j)))))))) := by rw [wl_at (kd_lt h (by decide))]; unfold ent entR; rw [h] <;> rfl
theorem ea18 {a : Nat} (h : kd a = 18) : (wl G σ)[a]? = some (ga G a, .inl (gc G 7, al a, .inr (.inr (.inr (.inr (fun j => some (ga G (a + 1 + j)))))))) := by rw [wl_at (kd_lt h (by decide))]; unfold ent entR; rw [h] <;> rfl
theorem r_iald (X : Cx G p s m args meth c cc own nL ret) (hP : PW G σ H) {a j : Nat} {i : Int32} (hk : kd a = 12) (hj : ixo a i = some j) (hdg : decode cc pc = .ok (.iaload, 1))
    (kk : W p l e R s m args below meth c H locs cells slots Q (F0 m (pc + 1) ls (.int (gI σ a j) :: rest))) : W p l e R s m args below meth c H locs cells slots Q (F0 m pc ls (.int i :: .ref (ga G a) :: rest)) := by
  obtain ⟨h1, h2, -⟩ := ixo_in hj
  subst h2
  exact va_iald X.hx X.hb X.hK hP a 1 (ea12 hk) rfl h1 hdg kk
theorem r_bald (X : Cx G p s m args meth c cc own nL ret) (hP : PW G σ H) {a j : Nat} {i : Int32} (hk : kd a = 11) (hj : ixo a i = some j) (hdg : decode cc pc = .ok (.baload, 1))
    (kk : W p l e R s m args below meth c H locs cells slots Q (F0 m (pc + 1) ls (.int (gI σ a j) :: rest))) : W p l e R s m args below meth c H locs cells slots Q (F0 m pc ls (.int i :: .ref (ga G a) :: rest)) := by
  obtain ⟨h1, h2, -⟩ := ixo_in hj
  subst h2
  exact va_bald X.hx X.hb X.hK hP a 0 (ea11 hk) rfl h1 hdg kk
theorem r_lald (X : Cx G p s m args meth c cc own nL ret) (hP : PW G σ H) {a j : Nat} {i : Int32} (hk : kd a = 13) (hj : ixo a i = some j) (hdg : decode cc pc = .ok (.laload, 1))
    (kk : W p l e R s m args below meth c H locs cells slots Q (F0 m (pc + 1) ls (.long (gL σ a j) :: rest))) : W p l e R s m args below meth c H locs cells slots Q (F0 m pc ls (.int i :: .ref (ga G a) :: rest)) := by
  obtain ⟨h1, h2, -⟩ := ixo_in hj
  subst h2
  exact va_lald X.hx X.hb X.hK hP a 2 (ea13 hk) rfl h1 hdg kk
theorem r_iast (X : Cx G p s m args meth c cc own nL ret) (hP : PW G σ H) (hS : va_S (AA G) s.heap H locs) {a j : Nat} {i x : Int32} (hk : kd a = 12) (hj : ixo a i = some j) (hdg : decode cc pc = .ok (.iastore, 1))
    (kk : ∀ (H : Heap) (locs : List Loc), PW G (pI σ a j x) H → va_S (AA G) s.heap H locs → W p l e R s m args below meth c H locs cells slots Q (F0 m (pc + 1) ls rest)) : W p l e R s m args below meth c H locs cells slots Q (F0 m pc ls (.int x :: .int i :: .ref (ga G a) :: rest)) := by
  obtain ⟨h1, h2, -⟩ := ixo_in hj
  subst h2
  exact va_iast X.hx X.hb X.hK hP (wl_D X.hI) hS a 1 (ea12 hk) rfl h1 hdg (fun H1 locs1 q1 _ q3 => kk H1 locs1 (by rw [wl_set (σ' := pI σ a i.toNatClampNeg x) pI_ne (by unfold ent entR; rw [hk, pI_row] <;> rfl)] at q1; exact q1) q3)
theorem r_bast (X : Cx G p s m args meth c cc own nL ret) (hP : PW G σ H) (hS : va_S (AA G) s.heap H locs) {a j : Nat} {i x : Int32} (hk : kd a = 11) (hj : ixo a i = some j) (hdg : decode cc pc = .ok (.bastore, 1))
    (kk : ∀ (H : Heap) (locs : List Loc), PW G (pI σ a j (vp_nar .byte x)) H → va_S (AA G) s.heap H locs → W p l e R s m args below meth c H locs cells slots Q (F0 m (pc + 1) ls rest)) : W p l e R s m args below meth c H locs cells slots Q (F0 m pc ls (.int x :: .int i :: .ref (ga G a) :: rest)) := by
  obtain ⟨h1, h2, -⟩ := ixo_in hj
  subst h2
  exact va_bast X.hx X.hb X.hK hP (wl_D X.hI) hS a 0 (ea11 hk) rfl h1 hdg (fun H1 locs1 q1 _ q3 => kk H1 locs1 (by rw [wl_set (σ' := pI σ a i.toNatClampNeg (vp_nar .byte x)) pI_ne (by unfold ent entR; rw [hk, pI_row] <;> rfl)] at q1; exact q1) q3)
theorem r_last (X : Cx G p s m args meth c cc own nL ret) (hP : PW G σ H) (hS : va_S (AA G) s.heap H locs) {a j : Nat} {i : Int32} {x : Int64} (hk : kd a = 13) (hj : ixo a i = some j) (hdg : decode cc pc = .ok (.lastore, 1))
    (kk : ∀ (H : Heap) (locs : List Loc), PW G (pL σ a j x) H → va_S (AA G) s.heap H locs → W p l e R s m args below meth c H locs cells slots Q (F0 m (pc + 1) ls rest)) : W p l e R s m args below meth c H locs cells slots Q (F0 m pc ls (.long x :: .int i :: .ref (ga G a) :: rest)) := by
  obtain ⟨h1, h2, -⟩ := ixo_in hj
  subst h2
  exact va_last X.hx X.hb X.hK hP (wl_D X.hI) hS a 2 (ea13 hk) rfl h1 hdg (fun H1 locs1 q1 _ q3 => kk H1 locs1 (by rw [wl_set (σ' := pL σ a i.toNatClampNeg x) pL_ne (by unfold ent entR; rw [hk, pL_row] <;> rfl)] at q1; exact q1) q3)
theorem r_ald14 (X : Cx G p s m args meth c cc own nL ret) (hP : PW G σ H) {a j : Nat} {i : Int32} (hk : kd a = 14) (hj : ixo a i = some j) (hdg : decode cc pc = .ok (.aaload, 1))
    (kk : W p l e R s m args below meth c H locs cells slots Q (F0 m (pc + 1) ls (.ref (ga G (a + 7 + j)) :: rest))) : W p l e R s m args below meth c H locs cells slots Q (F0 m pc ls (.int i :: .ref (ga G a) :: rest)) := by
  obtain ⟨h1, h2, -⟩ := ixo_in hj
  subst h2
  exact va_aldq X.hx X.hb X.hK hP a 3 (ea14 hk) rfl h1 hdg kk
theorem r_ald15 (X : Cx G p s m args meth c cc own nL ret) (hP : PW G σ H) {a j : Nat} {i : Int32} (hk : kd a = 15) (hj : ixo a i = some j) (hdg : decode cc pc = .ok (.aaload, 1))
    (kk : W p l e R s m args below meth c H locs cells slots Q (F0 m (pc + 1) ls (.ref (ga G (a + 3 + j)) :: rest))) : W p l e R s m args below meth c H locs cells slots Q (F0 m pc ls (.int i :: .ref (ga G a) :: rest)) := by
  obtain ⟨h1, h2, -⟩ := ixo_in hj
  subst h2
  exact va_aldq X.hx X.hb X.hK hP a 4 (ea15 hk) rfl h1 hdg kk
theorem r_ald16 (X : Cx G p s m args meth c cc own nL ret) (hP : PW G σ H) {a j : Nat} {i : Int32} (hk : kd a = 16) (hj : ixo a i = some j) (hdg : decode cc pc = .ok (.aaload, 1))
    (kk : W p l e R s m args below meth c H locs cells slots Q (F0 m (pc + 1) ls (.ref (ga G (a + 4 + 2 * j)) :: rest))) : W p l e R s m args below meth c H locs cells slots Q (F0 m pc ls (.int i :: .ref (ga G a) :: rest)) := by
  obtain ⟨h1, h2, -⟩ := ixo_in hj
  subst h2
  exact va_aldq X.hx X.hb X.hK hP a 5 (ea16 hk) rfl h1 hdg kk
theorem r_ald17 (X : Cx G p s m args meth c cc own nL ret) (hP : PW G σ H) {a j : Nat} {i : Int32} (hk : kd a = 17) (hj : ixo a i = some j) (hdg : decode cc pc = .ok (.aaload, 1))
    (kk : W p l e R s m args below meth c H locs cells slots Q (F0 m (pc + 1) ls (.ref (ga G (a + 11 + j)) :: rest))) : W p l e R s m args below meth c H locs cells slots Q (F0 m pc ls (.int i :: .ref (ga G a) :: rest)) := by
  obtain ⟨h1, h2, -⟩ := ixo_in hj
  subst h2
  exact va_aldq X.hx X.hb X.hK hP a 6 (ea17 hk) rfl h1 hdg kk
theorem r_ald18 (X : Cx G p s m args meth c cc own nL ret) (hP : PW G σ H) {a j : Nat} {i : Int32} (hk : kd a = 18) (hj : ixo a i = some j) (hdg : decode cc pc = .ok (.aaload, 1))
    (kk : W p l e R s m args below meth c H locs cells slots Q (F0 m (pc + 1) ls (.ref (ga G (a + 1 + j)) :: rest))) : W p l e R s m args below meth c H locs cells slots Q (F0 m pc ls (.int i :: .ref (ga G a) :: rest)) := by
  obtain ⟨h1, h2, -⟩ := ixo_in hj
  subst h2
  have hlt : i.toNatClampNeg < al a := Nat.not_le.mp fun q => h1 (Or.inr q)
  have hin := h1
  exact W.aald (v := va_rf (some (ga G (a + 1 + i.toNatClampNeg)))) (ty := .array .int) X.hx X.hb (hP a _ (ea18 hk)) ((X.hK.2 7 (gc G 7, .array .int) rfl).1 (al a) (fun j => va_rf (some (ga G (a + 1 + j))))) rfl (fun q => by cases q) (by show ¬ (i < 0 ∨ (arrV _ _ _).slots.size ≤ _); rw [arrV_size]; exact hin) (by show (arrV _ _ _).slots[_]? = _; rw [arrV_read _ _ hlt]) rfl rfl hdg kk
theorem r_alen12 (X : Cx G p s m args meth c cc own nL ret) (hP : PW G σ H) {a : Nat} (hk : kd a = 12) (hdg : decode cc pc = .ok (.arraylength, 1))
    (kk : W p l e R s m args below meth c H locs cells slots Q (F0 m (pc + 1) ls (.int (Int32.ofNat (al a)) :: rest))) : W p l e R s m args below meth c H locs cells slots Q (F0 m pc ls (.ref (ga G a) :: rest)) :=
  va_alen X.hx X.hb X.hK hP a 1 (ea12 hk) rfl rfl hdg kk
/-- System.arraycopy over ints -/
def cpo (σ : Mem) (a : Nat) (sp : Int32) (b : Nat) (dp n : Int32) : Option Mem := if sp < 0 ∨ dp < 0 ∨ n < 0 ∨ al a < sp.toNatClampNeg + n.toNatClampNeg ∨ al b < dp.toNatClampNeg + n.toNatClampNeg then none else some (pC σ b (va_cpy (σ.1 a) (σ.1 b) sp.toNatClampNeg dp.toNatClampNeg n.toNatClampNeg))
theorem r_copy (X : Cx G p s m args meth c cc own nL ret) (hP : PW G σ H) (hS : va_S (AA G) s.heap H locs) {index a b : Nat} {sp dp n : Int32} (hml : ls.size = nL) (hlink : (Cond.methodLink own index arraycopyName).before args s = true) (hnat : (Cond.native arraycopyName).before args s = true) (hstat : (Cond.static arraycopyName).before args s = true) (hini : (Cond.initialized "java/lang/System").before args s = true)
    (ha : kd a = 12) (hb : kd b = 12) (hg : cpo σ a sp b dp n = some σ') (hframes : 1 ≤ R.frames) (hlocals : (rest.map fun v => v.category).sum + (nativeFrameWords "java/lang/System" "arraycopy" 5 + 11) ≤ R.locals) (hdg : decode cc pc = .ok (.invokestatic index, 3))
    (kk : ∀ (H : Heap) (locs : List Loc), PW G σ' H → va_S (AA G) s.heap H locs → W p l e R s m args below meth c H locs cells slots Q (F0 m (pc + 3) ls rest)) : W p l e R s m args below meth c H locs cells slots Q (F0 m pc ls (.int n :: .int dp :: .ref (ga G b) :: .int sp :: .ref (ga G a) :: rest)) := by
  unfold cpo at hg
  by_cases cnd : sp < 0 ∨ dp < 0 ∨ n < 0 ∨ al a < sp.toNatClampNeg + n.toNatClampNeg ∨ al b < dp.toNatClampNeg + n.toNatClampNeg
  · rw [if_pos cnd] at hg; cases hg
  · rw [if_neg cnd] at hg
    have hg := Option.some.inj hg
    subst hg
    simp only [not_or, Nat.not_lt] at cnd
    obtain ⟨h1, h2, h3, h4, h5⟩ := cnd
    exact va_copyi X.hx X.hb (X.hml.trans hml.symm) X.hown hlink hnat hstat hini X.hK hP (wl_D X.hI) hS a b 1 1 (ea12 ha) (ea12 hb) rfl rfl rfl h1 h2 h3 h4 h5 (fun _ _ => rfl) hframes hlocals hdg
      (fun H1 locs1 q1 _ q3 => kk H1 locs1 (by rw [wl_set (σ' := pC σ b (va_cpy (σ.1 a) (σ.1 b) sp.toNatClampNeg dp.toNatClampNeg n.toNatClampNeg)) pC_ne (by unfold ent entR; rw [hb, pC_row] <;> rfl)] at q1; exact q1) q3)
/-- a call comes back -/
theorem r_call {rv : Option Value} {a : Array Value} (hr : va_Run p l e R s m args below meth c H locs cells slots 0 0 (F0 m pc ls st0) rest (QG G rv σ' a) (AA G)) (hS : va_S (AA G) s.heap H locs)
    (kk : ∀ (H : Heap) (locs : List Loc), PW G σ' H → va_S (AA G) s.heap H locs → W p l e R s m args below meth c H locs cells slots Q (F0 m (pc + 3) ls (rv.toList ++ rest))) : W p l e R s m args below meth c H locs cells slots Q (F0 m pc ls st0) := by
  intro T hT X
  obtain ⟨v, st₀, t, T', L, h0, X', hL, e1, e2, ⟨⟨hv, hp⟩, hz, hk⟩, st⟩ := hr T hT X
  have hv' : v = rv := by cases hv; rfl
  subst hv'
  rw [h0] at hz hk
  obtain ⟨t2, a1, b1⟩ := kk T'.heap (locs ++ L) (by rw [e1]; exact hp)
    ⟨Nat.le_trans hS.1 (by rw [e1]; exact hz), fun q h1 h2 => by rw [e1, hk q (Nat.lt_of_lt_of_le h1 hS.1) h2]; exact hS.2.1 q h1 h2, fun q hq => by
      rcases List.mem_append.mp hq with h | h
      · exact hS.2.2 q h
      · exact hL q h⟩ T' rfl X'
  exact ⟨t2, st t2 a1, b1⟩
theorem Pre.to (X : Cx G p s m args meth c cc own nL ret) (hP : PW G σ H) (hS : va_S (AA G) s.heap H locs) {U : State} (hU : U.heap = H) (hW : s.WarmedH U.vm) : Pre G σ U := by
  subst hU
  exact ⟨X.hT.warm hW, va_K.moved hW.alike X.hK, X.hI, StrG.go hW hS.2.1 X.hstr, hP⟩
theorem code_good {y : MethodName} {bytes : ByteArray} {maxL : Nat} {rt : Option FieldType} : GoodIn [Cond.code y bytes maxL rt] [Cond.code y bytes maxL rt] := fun w h => ⟨h, Or.inl (by rw [List.mem_singleton.mp h]; rfl)⟩
theorem r_callV (X : Cx G p s m args meth c cc own nL ret) (hP : PW G σ H) (hS : va_S (AA G) s.heap H locs) {y : MethodName} {bytes : ByteArray} {maxL index ci k n : Nat} {rt : Option FieldType} {fs : List Value} {T : u_T} {N : Nat} {As : List Value} {rv : Option Value} {rm : Room}
    (hM : Met l y [Cond.code y bytes maxL rt] rm (va_Pc (.ref (ga G k) :: As) (Pre G σ)) (QG G rv σ') 0 0 (AA G)) (he : (wl G σ)[k]? = some (ga G k, .inr (ci, fs))) (hc : vwCl[ci]? = some (y.cls, T, N))
    (hcode : (Cond.code y bytes maxL rt).before args s = true) (hini : (Cond.initialized y.cls).before args s = true) (hlink : (Cond.methodLink own index y).before args s = true) (hin : (Cond.instanceMethod y).before args s = true) (hsel : (Cond.selects y.cls y y).before args s = true)
    (hd : y.cls ≠ "java/lang/invoke/MethodHandle" ∧ y.cls ≠ "java/lang/invoke/VarHandle" ∧ (parseMethodDescriptor y.desc).map (fun d => d.parameters.length) = some n)
    (hrm : rm.cells = 0 ∧ rm.slots = 0 ∧ rm.frames + 1 ≤ R.frames ∧ 8 + (maxL + 11) + rm.locals ≤ R.locals) (hn : As.length = n) (hsz : ls.size = nL) (hst : st0 = As.reverse ++ .ref (ga G k) :: rest) (hcat : (rest.map fun v => v.category).sum ≤ 8) (hcs : cells ≤ R.cells ∧ slots ≤ R.slots)
    (hdg : decode cc pc = .ok (.invokevirtual index, 3))
    (kk : ∀ (H : Heap) (locs : List Loc), PW G σ' H → va_S (AA G) s.heap H locs → W p l e R s m args below meth c H locs cells slots Q (F0 m (pc + 3) ls (rv.toList ++ rest))) : W p l e R s m args below meth c H locs cells slots Q (F0 m pc ls st0) := by
  refine r_call (va_runV (C := y.cls) (n := n) (As := As) (rest := rest) (Ts := [Cond.code y bytes maxL rt]) ⟨X.hx, X.hb, X.hml, X.hown, fun w h => by rw [List.mem_singleton.mp h]; exact hcode⟩ hM
    ⟨callB_of n (fun w h => by rw [List.mem_singleton.mp h]; exact hcode) code_good rfl hrm.1 hrm.2.1 hini hlink hd ⟨hrm.2.2.1, hrm.2.2.2⟩, hin, hsel⟩
    ⟨Pre.blind G σ _, va_recv X.hK hP hc he, fun U hU hW => ⟨rfl, Pre.to X hP hS hU hW⟩⟩ rfl hn hsz hst (lv_room hcat) hdg hcs) hS kk
theorem r_callVN (X : Cx G p s m args meth c cc own nL ret) (hP : PW G σ H) (hS : va_S (AA G) s.heap H locs) {y : MethodName} {host : String} {bytes : ByteArray} {maxL index ci k n : Nat} {rt : Option FieldType} {fs : List Value} {T : u_T} {N : Nat} {As : List Value} {rv : Option Value} {rm : Room}
    (hM : Met l y [Cond.code y bytes maxL rt] rm (va_Pc (.ref (ga G k) :: As) (Pre G σ)) (QG G rv σ') 0 0 (AA G)) (he : (wl G σ)[k]? = some (ga G k, .inr (ci, fs))) (hc : vwCl[ci]? = some (y.cls, T, N))
    (hcode : (Cond.code y bytes maxL rt).before args s = true) (hini : (Cond.initialized y.cls).before args s = true) (hlink : (Cond.methodLinkNest own index y host).before args s = true) (hin : (Cond.instanceMethod y).before args s = true) (hsel : (Cond.selects y.cls y y).before args s = true)
    (hd : y.cls ≠ "java/lang/invoke/MethodHandle" ∧ y.cls ≠ "java/lang/invoke/VarHandle" ∧ (parseMethodDescriptor y.desc).map (fun d => d.parameters.length) = some n)
    (hrm : rm.cells = 0 ∧ rm.slots = 0 ∧ rm.frames + 1 ≤ R.frames ∧ 8 + (maxL + 11) + rm.locals ≤ R.locals) (hn : As.length = n) (hsz : ls.size = nL) (hst : st0 = As.reverse ++ .ref (ga G k) :: rest) (hcat : (rest.map fun v => v.category).sum ≤ 8) (hcs : cells ≤ R.cells ∧ slots ≤ R.slots)
    (hdg : decode cc pc = .ok (.invokevirtual index, 3))
    (kk : ∀ (H : Heap) (locs : List Loc), PW G σ' H → va_S (AA G) s.heap H locs → W p l e R s m args below meth c H locs cells slots Q (F0 m (pc + 3) ls (rv.toList ++ rest))) : W p l e R s m args below meth c H locs cells slots Q (F0 m pc ls st0) := by
  refine r_call (va_runVN (C := y.cls) (n := n) (As := As) (rest := rest) (Ts := [Cond.code y bytes maxL rt]) (host := host) ⟨X.hx, X.hb, X.hml, X.hown, fun w h => by rw [List.mem_singleton.mp h]; exact hcode⟩ hM
    ⟨va_cnB n (fun w h => by rw [List.mem_singleton.mp h]; exact hcode) code_good rfl hrm.1 hrm.2.1 (va_Nw.of rfl hlink) hini hd ⟨hrm.2.2.1, hrm.2.2.2⟩, hin, hsel⟩
    ⟨Pre.blind G σ _, va_recv X.hK hP hc he, fun U hU hW => ⟨rfl, Pre.to X hP hS hU hW⟩⟩ rfl hn hsz hst (lv_room hcat) hdg hcs) hS kk
theorem r_callS (X : Cx G p s m args meth c cc own nL ret) (hP : PW G σ H) (hS : va_S (AA G) s.heap H locs) {y : MethodName} {bytes : ByteArray} {maxL index n : Nat} {rt : Option FieldType} {As : List Value} {rv : Option Value} {rm : Room}
    (hM : Met l y [Cond.code y bytes maxL rt] rm (va_Pc As (Pre G σ)) (QG G rv σ') 0 0 (AA G))
    (hcode : (Cond.code y bytes maxL rt).before args s = true) (hini : (Cond.initialized y.cls).before args s = true) (hlink : (Cond.methodLink own index y).before args s = true) (hsta : (Cond.static y).before args s = true)
    (hd : y.cls ≠ "java/lang/invoke/MethodHandle" ∧ y.cls ≠ "java/lang/invoke/VarHandle" ∧ (parseMethodDescriptor y.desc).map (fun d => d.parameters.length) = some n)
    (hrm : rm.cells = 0 ∧ rm.slots = 0 ∧ rm.frames + 1 ≤ R.frames ∧ 8 + (maxL + 11) + rm.locals ≤ R.locals) (hn : As.length = n) (hsz : ls.size = nL) (hst : st0 = As.reverse ++ rest) (hcat : (rest.map fun v => v.category).sum ≤ 8) (hcs : cells ≤ R.cells ∧ slots ≤ R.slots)
    (hdg : decode cc pc = .ok (.invokestatic index, 3))
    (kk : ∀ (H : Heap) (locs : List Loc), PW G σ' H → va_S (AA G) s.heap H locs → W p l e R s m args below meth c H locs cells slots Q (F0 m (pc + 3) ls (rv.toList ++ rest))) : W p l e R s m args below meth c H locs cells slots Q (F0 m pc ls st0) := by
  refine r_call (va_runS (n := n) (As := As) (rest := rest) (Ts := [Cond.code y bytes maxL rt]) ⟨X.hx, X.hb, X.hml, X.hown, fun w h => by rw [List.mem_singleton.mp h]; exact hcode⟩ hM
    ⟨callB_of n (fun w h => by rw [List.mem_singleton.mp h]; exact hcode) code_good rfl hrm.1 hrm.2.1 hini hlink hd ⟨hrm.2.2.1, hrm.2.2.2⟩, hsta⟩
    ⟨Pre.blind G σ _, fun U hU hW => ⟨rfl, Pre.to X hP hS hU hW⟩⟩ rfl hn hsz hst (lv_room hcat) hdg hcs) hS kk
theorem r_callSN (X : Cx G p s m args meth c cc own nL ret) (hP : PW G σ H) (hS : va_S (AA G) s.heap H locs) {y : MethodName} {host : String} {bytes : ByteArray} {maxL index n : Nat} {rt : Option FieldType} {As : List Value} {rv : Option Value} {rm : Room}
    (hM : Met l y [Cond.code y bytes maxL rt] rm (va_Pc As (Pre G σ)) (QG G rv σ') 0 0 (AA G))
    (hcode : (Cond.code y bytes maxL rt).before args s = true) (hini : (Cond.initialized y.cls).before args s = true) (hlink : (Cond.methodLinkNest own index y host).before args s = true) (hsta : (Cond.static y).before args s = true)
    (hd : y.cls ≠ "java/lang/invoke/MethodHandle" ∧ y.cls ≠ "java/lang/invoke/VarHandle" ∧ (parseMethodDescriptor y.desc).map (fun d => d.parameters.length) = some n)
    (hrm : rm.cells = 0 ∧ rm.slots = 0 ∧ rm.frames + 1 ≤ R.frames ∧ 8 + (maxL + 11) + rm.locals ≤ R.locals) (hn : As.length = n) (hsz : ls.size = nL) (hst : st0 = As.reverse ++ rest) (hcat : (rest.map fun v => v.category).sum ≤ 8) (hcs : cells ≤ R.cells ∧ slots ≤ R.slots)
    (hdg : decode cc pc = .ok (.invokestatic index, 3))
    (kk : ∀ (H : Heap) (locs : List Loc), PW G σ' H → va_S (AA G) s.heap H locs → W p l e R s m args below meth c H locs cells slots Q (F0 m (pc + 3) ls (rv.toList ++ rest))) : W p l e R s m args below meth c H locs cells slots Q (F0 m pc ls st0) := by
  refine r_call (va_runSN (n := n) (As := As) (rest := rest) (Ts := [Cond.code y bytes maxL rt]) (host := host) ⟨X.hx, X.hb, X.hml, X.hown, fun w h => by rw [List.mem_singleton.mp h]; exact hcode⟩ hM
    ⟨va_cnB n (fun w h => by rw [List.mem_singleton.mp h]; exact hcode) code_good rfl hrm.1 hrm.2.1 (va_Nw.of rfl hlink) hini hd ⟨hrm.2.2.1, hrm.2.2.2⟩, hsta, trivial⟩
    ⟨Pre.blind G σ _, fun U hU hW => ⟨rfl, Pre.to X hP hS hU hW⟩⟩ rfl hn hsz hst (lv_room hcat) hdg hcs) hS kk
theorem QG.at (hP : PW G σ H) (hS : va_S (AA G) s.heap H locs) {rv : Option Value} {a : Array Value} {t : State} (ht : t.heap = H) : QG G rv σ a s (.returned rv) t := ⟨⟨rfl, by rw [ht]; exact hP⟩, hS.F ht⟩
theorem r_iret (X : Cx G p s m args meth c cc own nL (some .int)) (hP : PW G σ H) (hS : va_S (AA G) s.heap H locs) {v : Int32} (hdg : decode cc pc = .ok (.ireturn, 1)) : W p l e R s m args below meth c H locs cells slots (MQ below (QG G (some (.int v)) σ) args s cells slots (AA G)) (F0 m pc ls [.int v]) :=
  W.iret X.hx X.hb X.hr (fun t ht _ => QG.at hP hS ht) hS.2.2 hdg X.hlk
theorem r_zret (X : Cx G p s m args meth c cc own nL (some .boolean)) (hP : PW G σ H) (hS : va_S (AA G) s.heap H locs) {v : Int32} (hv : v = 0 ∨ v = 1) (hdg : decode cc pc = .ok (.ireturn, 1)) : W p l e R s m args below meth c H locs cells slots (MQ below (QG G (some (.int v)) σ) args s cells slots (AA G)) (F0 m pc ls [.int v]) :=
  W.zret X.hx X.hb X.hr (by rcases hv with rfl | rfl <;> rfl) (fun t ht _ => QG.at hP hS ht) hS.2.2 hdg X.hlk
theorem r_vret (X : Cx G p s m args meth c cc own nL none) (hP : PW G σ H) (hS : va_S (AA G) s.heap H locs) (hdg : decode cc pc = .ok (.return_, 1)) : W p l e R s m args below meth c H locs cells slots (MQ below (QG G none σ) args s cells slots (AA G)) (F0 m pc ls []) :=
  W.vret X.hx X.hb X.hr (fun t ht _ => QG.at hP hS ht) hS.2.2 hdg X.hlk
theorem r_aret {C : String} (X : Cx G p s m args meth c cc own nL (some (.object C))) (hP : PW G σ H) (hS : va_S (AA G) s.heap H locs) {v : Value} (hv : v = .null ∨ ∃ a, v = .ref a) (hdg : decode cc pc = .ok (.areturn, 1)) : W p l e R s m args below meth c H locs cells slots (MQ below (QG G (some v) σ) args s cells slots (AA G)) (F0 m pc ls [v]) :=
  W.aret X.hx X.hb X.hr (Or.inl ⟨_, rfl⟩) hv (fun t ht _ => QG.at hP hS ht) hS.2.2 hdg X.hlk
theorem r_callStr (X : Cx G p s m args meth c cc own nL ret) (hP : PW G σ H) (hS : va_S (AA G) s.heap H locs) {y : MethodName} {bytes : ByteArray} {maxL index k n : Nat} {rt : Option FieldType} {As : List Value} {rv : Option Value} {rm : Room}
    (hM : Met l y [Cond.code y bytes maxL rt] rm (va_Pc (.ref (G.2.2.2.1 k) :: As) (Pre G σ)) (QG G rv σ') 0 0 (AA G)) (hk : k < 12) (hyc : y.cls = "java/lang/String")
    (hcode : (Cond.code y bytes maxL rt).before args s = true) (hini : (Cond.initialized y.cls).before args s = true) (hlink : (Cond.methodLink own index y).before args s = true) (hin : (Cond.instanceMethod y).before args s = true) (hsel : (Cond.selects y.cls y y).before args s = true)
    (hd : y.cls ≠ "java/lang/invoke/MethodHandle" ∧ y.cls ≠ "java/lang/invoke/VarHandle" ∧ (parseMethodDescriptor y.desc).map (fun d => d.parameters.length) = some n)
    (hrm : rm.cells = 0 ∧ rm.slots = 0 ∧ rm.frames + 1 ≤ R.frames ∧ 8 + (maxL + 11) + rm.locals ≤ R.locals) (hn : As.length = n) (hsz : ls.size = nL) (hst : st0 = As.reverse ++ .ref (G.2.2.2.1 k) :: rest) (hcat : (rest.map fun v => v.category).sum ≤ 8) (hcs : cells ≤ R.cells ∧ slots ≤ R.slots)
    (hdg : decode cc pc = .ok (.invokevirtual index, 3))
    (kk : ∀ (H : Heap) (locs : List Loc), PW G σ' H → va_S (AA G) s.heap H locs → W p l e R s m args below meth c H locs cells slots Q (F0 m (pc + 3) ls (rv.toList ++ rest))) : W p l e R s m args below meth c H locs cells slots Q (F0 m pc ls st0) := by
  refine r_call (va_runV (C := y.cls) (n := n) (As := As) (rest := rest) (Ts := [Cond.code y bytes maxL rt]) ⟨X.hx, X.hb, X.hml, X.hown, fun w h => by rw [List.mem_singleton.mp h]; exact hcode⟩ hM
    ⟨callB_of n (fun w h => by rw [List.mem_singleton.mp h]; exact hcode) code_good rfl hrm.1 hrm.2.1 hini hlink hd ⟨hrm.2.2.1, hrm.2.2.2⟩, hin, hsel⟩
    ⟨Pre.blind G σ _, by rw [hyc]; exact vk_recv X.hstr.1 hk hS, fun U hU hW => ⟨rfl, Pre.to X hP hS hU hW⟩⟩ rfl hn hsz hst (lv_room hcat) hdg hcs) hS kk
theorem r_sval (X : Cx G p s m args meth c cc own nL ret) (hS : va_S (AA G) s.heap H locs) {k index : Nat} (hk : k < 12) (hlink : (Cond.fieldLink own index "java/lang/String" "value" "[B").before args s = true) (hdg : decode cc pc = .ok (.getfield index, 3))
    (kk : W p l e R s m args below meth c H locs cells slots Q (F0 m (pc + 3) ls (.ref (G.2.2.2.2.1 k) :: rest))) : W p l e R s m args below meth c H locs cells slots Q (F0 m pc ls (.ref (G.2.2.2.1 k) :: rest)) :=
  vk_getf X.hx X.hb (X.hstr.1.1 k hk).2.2.1 hS X.hown hlink (fun _ h => h) hdg kk
theorem r_scod (X : Cx G p s m args meth c cc own nL ret) (hS : va_S (AA G) s.heap H locs) {k index : Nat} (hk : k < 12) (hlink : (Cond.fieldLink own index "java/lang/String" "coder" "B").before args s = true) (hdg : decode cc pc = .ok (.getfield index, 3))
    (kk : W p l e R s m args below meth c H locs cells slots Q (F0 m (pc + 3) ls (.int (0 : Int32) :: rest))) : W p l e R s m args below meth c H locs cells slots Q (F0 m pc ls (.ref (G.2.2.2.1 k) :: rest)) :=
  vk_getf X.hx X.hb (X.hstr.1.1 k hk).2.1 hS X.hown hlink (fun _ h => h) hdg kk
theorem r_scmp (X : Cx G p s m args meth c cc own nL ret) (hS : va_S (AA G) s.heap H locs) {index : Nat} (hlink : (Cond.fieldLink own index "java/lang/String" "COMPACT_STRINGS" "Z").before args s = true) (hdg : decode cc pc = .ok (.getstatic index, 3))
    (kk : W p l e R s m args below meth c H locs cells slots Q (F0 m (pc + 3) ls (.int (1 : Int32) :: rest))) : W p l e R s m args below meth c H locs cells slots Q (F0 m pc ls rest) :=
  va_gets X.hx X.hb X.hstr.2.2.1 hS X.hown hlink (fun _ h => h) hdg kk
theorem r_sfmt (X : Cx G p s m args meth c cc own nL ret) (hS : va_S (AA G) s.heap H locs) {index : Nat} (hlink : (Cond.fieldLink own index "jdk/internal/util/Preconditions" "SIOOBE_FORMATTER" "Ljava/util/function/BiFunction;").before args s = true) (hdg : decode cc pc = .ok (.getstatic index, 3))
    (kk : W p l e R s m args below meth c H locs cells slots Q (F0 m (pc + 3) ls (va_rf G.2.2.2.2.2 :: rest))) : W p l e R s m args below meth c H locs cells slots Q (F0 m pc ls rest) :=
  va_gets X.hx X.hb X.hstr.2.2.2 hS X.hown hlink (fun _ h => h) hdg kk
def sLen (k : Nat) : Nat := strLen.getD k 0
def sByt (k j : Nat) : Int32 := (strByt.getD k []).getD j 0
def sxo (k : Nat) (i : Int32) : Option Nat := if i < 0 ∨ sLen k ≤ i.toNatClampNeg then none else some i.toNatClampNeg
theorem r_slen (X : Cx G p s m args meth c cc own nL ret) (hS : va_S (AA G) s.heap H locs) {k : Nat} (hk : k < 12) (hdg : decode cc pc = .ok (.arraylength, 1))
    (kk : W p l e R s m args below meth c H locs cells slots Q (F0 m (pc + 1) ls (.int (Int32.ofNat (sLen k)) :: rest))) : W p l e R s m args below meth c H locs cells slots Q (F0 m pc ls (.ref (G.2.2.2.2.1 k) :: rest)) := by
  obtain ⟨scr, h1, h2, h3, h4, h5, h6, h7⟩ := (X.hstr.1.1 k hk).2.2.2
  have hc0 : H[G.2.2.2.2.1 k]? = some scr := by rw [hS.2.1 _ (Array.getElem?_eq_some_iff.mp h1).1 h7]; exact h1
  exact W.alen (n := Int32.ofNat (sLen k)) X.hx X.hb hc0 h2 h5 rfl rfl hdg kk
theorem r_sbald (X : Cx G p s m args meth c cc own nL ret) (hS : va_S (AA G) s.heap H locs) {k j : Nat} {i : Int32} (hk : k < 12) (hj : sxo k i = some j) (hdg : decode cc pc = .ok (.baload, 1))
    (kk : W p l e R s m args below meth c H locs cells slots Q (F0 m (pc + 1) ls (.int (sByt k j) :: rest))) : W p l e R s m args below meth c H locs cells slots Q (F0 m pc ls (.int i :: .ref (G.2.2.2.2.1 k) :: rest)) := by
  unfold sxo at hj
  by_cases cnd : i < 0 ∨ sLen k ≤ i.toNatClampNeg
  · rw [if_pos cnd] at hj; cases hj
  · rw [if_neg cnd] at hj
    have hj := Option.some.inj hj
    subst hj
    obtain ⟨scr, h1, h2, h3, h4, h5, h6, h7⟩ := (X.hstr.1.1 k hk).2.2.2
    have hc0 : H[G.2.2.2.2.1 k]? = some scr := by rw [hS.2.1 _ (Array.getElem?_eq_some_iff.mp h1).1 h7]; exact h1
    simp only [not_or, Nat.not_le] at cnd
    have h4' : sLen k ≤ scr.slots.size := h4
    exact W.bald (v := .int (sByt k i.toNatClampNeg)) X.hx X.hb hc0 h2 h3 (by rintro (q | q); exact cnd.1 q; omega) (h6 _ cnd.2) rfl rfl hdg kk
theorem r_nret {ty : FieldType} (X : Cx G p s m args meth c cc own nL (some ty)) (hP : PW G σ H) (hS : va_S (AA G) s.heap H locs) {v : Int32} (hv : narrow ty (.int v) = .int v) (hdg : decode cc pc = .ok (.ireturn, 1)) : W p l e R s m args below meth c H locs cells slots (MQ below (QG G (some (.int v)) σ) args s cells slots (AA G)) (F0 m pc ls [.int v]) :=
  W.zret X.hx X.hb X.hr hv (fun t ht _ => QG.at hP hS ht) hS.2.2 hdg X.hlk
theorem ct_of {y : MethodName} {rm : Room} {av : List Value} {rv : Option Value} (hy : plainName y.cls = true)
    (body : ∀ (p : Program) (e : Env) (s : State) (m : MethodId) (below : List Frame) (meth : Method) (c : Code), Cx G p s m av.toArray meth c cc y.cls nL ret → PW G σ s.heap →
      W p l e rm s m av.toArray below meth c s.heap [] 0 0 (MQ below (QG G rv σ') av.toArray s 0 0 (AA G)) (entryFrame m av.toArray nL)) : Met l y [Cond.code y cc nL ret] rm (va_Pc av (Pre G σ)) (QG G rv σ') 0 0 (AA G) := by
  refine Met.ofW (cc := cc) (maxL := nL) (ret := ret) hy rfl ?_
  intro p e s m args below meth c s₁ B hml hv
  obtain ⟨rfl, hT, hK, hI, hstr, hP⟩ := hv
  exact body p e s m below meth c ⟨B.exec, B.bytes, hml, findClass_of_methodNamed B.named, B.returns, B.notSynchronized, hT, hK, hI, hstr⟩ hP
theorem r_tabIn (X : Cx G p s m args meth c cc own nL ret) {dflt lo hi : Int} {offs : Array Int} {len : Nat} {x v : Int32} {off : Int} {tgt : Nat} (hxv : x = v) (hdg : decode cc pc = .ok (.tableswitch dflt lo hi offs, len)) (h1 : ¬ v.toInt < lo) (h2 : ¬ hi < v.toInt) (ho : offs[(v.toInt - lo).toNat]? = some off) (ht : (pc : Int) + off = (tgt : Int))
    (k : W p l e R s m args below meth c H locs cells slots Q (F0 m tgt ls rest)) : W p l e R s m args below meth c H locs cells slots Q (F0 m pc ls (.int x :: rest)) := by
  subst hxv
  exact lv_tableIn X.hx X.hb hdg h1 h2 ho ht k
theorem r_look (X : Cx G p s m args meth c cc own nL ret) {dflt : Int} {ps : Array (Int × Int)} {len : Nat} {x v : Int32} {off : Int} {tgt : Nat} (hxv : x = v) (hdg : decode cc pc = .ok (.lookupswitch dflt ps, len)) (hp : (ps.toList.zip (ps.toList.drop 1)).all (fun (a, next) => a.1 < next.1) = true) (ho : Op.lookupswitch.offset ps.toList dflt v.toInt = off) (ht : (pc : Int) + off = (tgt : Int))
    (k : W p l e R s m args below meth c H locs cells slots Q (F0 m tgt ls rest)) : W p l e R s m args below meth c H locs cells slots Q (F0 m pc ls (.int x :: rest)) := by
  subst hxv
  exact lv_lookup X.hx X.hb hdg hp ho ht k
end RW
