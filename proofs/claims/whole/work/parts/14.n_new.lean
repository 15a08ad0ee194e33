/-! construction: the cells come one behind another, the i-th at base + i; a constructor at a = base + P.length lays its own segment behind P -/
def cwl (base : Nat) (L : List va_E) : va_W := L.mapIdx (fun i e => (base + i, e))
theorem cwl_at (base : Nat) (L : List va_E) (i : Nat) : (cwl base L)[i]? = (L[i]?).map (fun e => (base + i, e)) := by
  unfold cwl
  rw [List.getElem?_mapIdx]
theorem cwl_some {base : Nat} {L : List va_E} {i : Nat} {e : va_E} (h : L[i]? = some e) : (cwl base L)[i]? = some (base + i, e) := by rw [cwl_at, h]; rfl
theorem cwl_len {base : Nat} {L : List va_E} : (cwl base L).length = L.length := by simp [cwl]
theorem cwl_set {base : Nat} {L : List va_E} {i : Nat} {e : va_E} : (cwl base L).set i (base + i, e) = cwl base (L.set i e) := by
  apply List.ext_getElem?
  intro j
  rw [List.getElem?_set, cwl_at, cwl_at, List.getElem?_set, cwl_len]
  by_cases h : i = j
  · subst h
    rw [if_pos rfl, if_pos rfl]
    by_cases q : i < L.length
    · rw [if_pos q, if_pos q]; rfl
    · rw [if_neg q, if_neg q]; rfl
  · rw [if_neg h, if_neg h]
theorem cwl_push {base : Nat} {L : List va_E} {e : va_E} : cwl base L ++ [(base + L.length, e)] = cwl base (L ++ [e]) := by
  apply List.ext_getElem?
  intro j
  rw [cwl_at, List.getElem?_append, List.getElem?_append, cwl_len]
  by_cases h : j < L.length
  · rw [if_pos h, if_pos h, cwl_at]
  · rw [if_neg h, if_neg h]
    by_cases q : j = L.length
    · subst q
      simp
    · have : j - L.length ≠ 0 := by omega
      rw [List.getElem?_eq_none (by simp; omega), List.getElem?_eq_none (by simp; omega)]
      rfl
theorem cwl_D {base : Nat} {L : List va_E} : va_D (fun q => base ≤ q) (cwl base L) := by
  refine ⟨fun i j p q hi hj e => ?_, fun i p hi => ?_⟩
  · rw [cwl_at] at hi hj
    obtain ⟨e1, -, rfl⟩ := Option.map_eq_some_iff.mp hi
    obtain ⟨e2, -, rfl⟩ := Option.map_eq_some_iff.mp hj
    have : base + i = base + j := e
    omega
  · rw [cwl_at] at hi
    obtain ⟨e1, -, rfl⟩ := Option.map_eq_some_iff.mp hi
    exact Nat.le_add_right _ _
theorem mid_at {P l : List va_E} {i : Nat} {e : va_E} (h : l[i]? = some e) : (P ++ l)[P.length + i]? = some e := by
  rw [List.getElem?_append_right (Nat.le_add_right _ _), Nat.add_sub_cancel_left]
  exact h
theorem mid_set {P l : List va_E} {i : Nat} {e : va_E} : (P ++ l).set (P.length + i) e = P ++ l.set i e := by
  rw [List.set_append_right (h := Nat.le_add_right _ _), Nat.add_sub_cancel_left]
def SW (G : Gh) (base : Nat) (P l : List va_E) (H : Heap) : Prop := va_P G.1 vwCl (cwl base (P ++ l)) H ∧ H.size = base + (P.length + l.length)
abbrev BA (base : Nat) : Nat → Prop := fun q => base ≤ q
/-- what the tables say of the arrays of references that constructors make -/
theorem aoa_moved {t : FieldType} {u U : State} (hvm : u.vm.Alike U.vm) (h : (Cond.arrayOver (.array t)).before #[] u = true) : (Cond.arrayOver (.array t)).before #[] U = true := by
  obtain ⟨comp, c, k, h1, h2, h3, h4, h5⟩ := arrayOverA_spec h
  obtain ⟨k', hk', he⟩ := hvm.2.2 _ _ h3
  have e1 := va_idx_bare U.vm comp
  have e0 := va_idx_bare u.vm comp
  have hbb : U.vm.bare = u.vm.bare := by first | exact hvm.bare_eq | exact hvm.bare_eq.symm
  rw [hbb] at e1
  have hi := e1.symm.trans (e0.trans h2)
  have hkind : k'.kind = .array comp (.array t) := by rw [he]; exact h4
  have f1 : U.vm.findClass (FieldType.array t).toString = some comp := by rw [hvm.findClass]; exact h1
  have f2 : U.vm.findClass ("[" ++ (FieldType.array t).toString) = some c := by rw [hvm.findClass]; exact h5
  unfold Cond.before Cond.holds
  simp only [Cond.value]
  rw [f1, Option.bind_some]
  refine (congrArg (fun o : Option Nat => (o.bind (fun c => (U.vm.classes[c]?).map fun (k : Class) => match k.kind with | .array _ ty => decide (ty = FieldType.array t) && decide (U.vm.findClass ("[" ++ (FieldType.array t).toString) = some c) | _ => false) == some true)) hi).trans ?_
  simp [hk', hkind, f2]
def AOw (U : State) : Prop := va_AO "InchCandle$Lot" U ∧ va_AO "InchCandle$Bidder" U ∧ va_AO "InchCandle$Sheet" U ∧ va_AO "InchCandle$Shelf" U ∧ (Cond.arrayOver (.array .int)).before #[] U = true
theorem AOw.moved {u U : State} (hvm : u.vm.Alike U.vm) (h : AOw u) : AOw U := ⟨h.1.moved hvm, h.2.1.moved hvm, h.2.2.1.moved hvm, h.2.2.2.1.moved hvm, aoa_moved hvm h.2.2.2.2⟩
theorem AOw.w3 {U : State} {A : Array Value} (h : AOw U) : (Cond.arrayOver (.object "InchCandle$Bidder")).before A U = true := va_AO.use h.2.1
theorem AOw.w4 {U : State} {A : Array Value} (h : AOw U) : (Cond.arrayOver (.object "InchCandle$Lot")).before A U = true := va_AO.use h.1
theorem AOw.w5 {U : State} {A : Array Value} (h : AOw U) : (Cond.arrayOver (.object "InchCandle$Sheet")).before A U = true := va_AO.use h.2.2.1
theorem AOw.w6 {U : State} {A : Array Value} (h : AOw U) : (Cond.arrayOver (.object "InchCandle$Shelf")).before A U = true := va_AO.use h.2.2.2.1
theorem AOw.w7 {U : State} {A : Array Value} (h : AOw U) : (Cond.arrayOver (.array .int)).before A U = true := h.2.2.2.2
def PreN (G : Gh) (base : Nat) (P l : List va_E) (U : State) : Prop := Tab U ∧ KG G U ∧ AOw U ∧ SW G base P l U.heap
def QN (G : Gh) (base : Nat) (P l : List va_E) : Array Value → State → Outcome → State → Prop := fun _ st oc t => (oc = .returned none ∧ SW G base P l t.heap) ∧ va_F (BA base) st t
theorem PreN.blind (G : Gh) (base : Nat) (P l : List va_E) (av : List Value) : FrameBlind (va_Pc av (PreN G base P l)) := by
  intro a U g mk h
  obtain ⟨h0, h1, h2, h9, h3⟩ := h
  exact ⟨h0, Tab.warm (s := U) (U := U.calling g mk a) (State.WarmedH.refl U) h1, va_K.moved (u := U) (U := U.calling g mk a) (Vm.Alike.refl U.vm) h2, AOw.moved (u := U) (U := U.calling g mk a) (Vm.Alike.refl U.vm) h9, h3⟩
def CxN (G : Gh) (p : Program) (s : State) (m : MethodId) (args : Array Value) (meth : Method) (c : Code) (cc : ByteArray) (own : String) (nL : Nat) (ret : Option FieldType) (nm : String) : Prop :=
  p.tables.exec = Jvm.exec ∧ c.code = cc ∧ c.maxLocals = nL ∧ s.vm.findClass own = some m.cls ∧ meth.sig.returnType = ret ∧ meth.locks = false ∧ Tab s ∧ KG G s ∧ meth.name = nm ∧ AOw s
theorem ap_last {L : List va_E} {e : va_E} {n : Nat} (h : L.length = n) : (L ++ [e])[n]? = some e := by
  subst h
  simp
theorem ap_at {L : List va_E} {e x : va_E} {i : Nat} (h : L[i]? = some x) : (L ++ [e])[i]? = some x := by
  rw [List.getElem?_append_left (List.getElem?_eq_some_iff.mp h).1]
  exact h
theorem apx_at {L M : List va_E} {x : va_E} {i : Nat} (h : L[i]? = some x) : (L ++ M)[i]? = some x := by
  rw [List.getElem?_append_left (List.getElem?_eq_some_iff.mp h).1]
  exact h
theorem ap_hd {L M : List va_E} {n : Nat} (h : L.length = n) : (L ++ M)[n]? = M[0]? := by
  subst h
  rw [List.getElem?_append_right (Nat.le_refl _), Nat.sub_self]
theorem st_same {L : List va_E} {e : va_E} {i : Nat} (h : i < L.length) : (L.set i e)[i]? = some e := List.getElem?_set_self h
theorem st_ne {L : List va_E} {e x : va_E} {i j : Nat} (hij : i ≠ j) (h : L[j]? = some x) : (L.set i e)[j]? = some x := by
  rw [List.getElem?_set_ne hij]
  exact h
section RN
variable {p : Program} {l : Launch} {e : Env} {R : Room} {s : State} {m : MethodId} {args : Array Value} {below : List Frame} {meth : Method} {c : Code} {H : Heap} {locs : List Loc} {cells slots : Nat} {Q : State → Prop}
variable {cc : ByteArray} {pc : Nat} {ls : Array Slot} {rest st0 : List Value} {G : Gh} {own : String} {nL base a : Nat} {P L : List va_E} {ret : Option FieldType} {nm : String}
theorem CxN.hx (X : CxN G p s m args meth c cc own nL ret nm) : p.tables.exec = Jvm.exec := X.1
theorem CxN.hb (X : CxN G p s m args meth c cc own nL ret nm) : c.code = cc := X.2.1
theorem CxN.hml (X : CxN G p s m args meth c cc own nL ret nm) : c.maxLocals = nL := X.2.2.1
theorem CxN.hown (X : CxN G p s m args meth c cc own nL ret nm) : s.vm.findClass own = some m.cls := X.2.2.2.1
theorem CxN.hr (X : CxN G p s m args meth c cc own nL ret nm) : meth.sig.returnType = ret := X.2.2.2.2.1
theorem CxN.hlk (X : CxN G p s m args meth c cc own nL ret nm) : meth.locks = false := X.2.2.2.2.2.1
theorem CxN.hT (X : CxN G p s m args meth c cc own nL ret nm) : Tab s := X.2.2.2.2.2.2.1
theorem CxN.hK (X : CxN G p s m args meth c cc own nL ret nm) : KG G s := X.2.2.2.2.2.2.2.1
theorem CxN.hin (X : CxN G p s m args meth c cc own nL ret nm) : meth.name = nm := X.2.2.2.2.2.2.2.2.1
theorem CxN.hao (X : CxN G p s m args meth c cc own nL ret nm) : AOw s := X.2.2.2.2.2.2.2.2.2
theorem CxN.tb (X : CxN G p s m args meth c cc own nL ret nm) {w : Cond} (hm : w ∈ lw_tbl) (hg : tw_ok w = true) : w.before args s = true := X.hT.at hm hg
theorem n_size {g : JFrame} (k : H.size ≤ s.heap.size + cells → W p l e R s m args below meth c H locs cells slots Q g) : W p l e R s m args below meth c H locs cells slots Q g :=
  fun T hT X => k (by rw [← hT]; exact X.heapSize) T hT X
theorem SW.re (h : va_P G.1 vwCl (cwl base (P ++ L)) H) {n : Nat} (hne : 0 < L.length) (hb : base + (P.length + L.length) = n) (hs : H.size ≤ n) : SW G base P L H := by
  refine ⟨h, ?_⟩
  obtain ⟨x, hx⟩ : ∃ x, (P ++ L)[P.length + L.length - 1]? = some x := ⟨_, List.getElem?_eq_getElem (by rw [List.length_append]; omega)⟩
  have := (h _ _ (cwl_some hx)).lt
  have h2 : base + (P.length + L.length - 1) < H.size := this
  omega
theorem n_get (X : CxN G p s m args meth c cc own nL ret nm) (hP : SW G base P L H) (ha : a = base + P.length) {C : String} {T : u_T} {N ci index i j q : Nat} {fs : List Value} {v : Value} (hU : ∀ w ∈ u_ws C T N, w.before args s = true) (hL : L[i]? = some (.inr (ci, fs))) (hq : a + i = q) (hc : vwCl[ci]? = some (C, T, N)) (hj : j < N)
    (hm : (Cond.fieldLink own index (T j).1 (T j).2.1 (T j).2.2.1).before args s = true) (hv : fs[j]? = some v) (hdg : decode cc pc = .ok (.getfield index, 3))
    (kk : W p l e R s m args below meth c H locs cells slots Q (F0 m (pc + 3) ls (v :: rest))) : W p l e R s m args below meth c H locs cells slots Q (F0 m pc ls (.ref q :: rest)) := by
  subst ha
  subst hq
  rw [Nat.add_assoc]
  exact va_get (Ts := u_ws C T N) X.hx X.hb hU (fun _ h => h) X.hown X.hK hP.1 (P.length + i) (cwl_some (mid_at hL)) hc j hj hm (fun _ h => h) hv hdg kk
theorem n_putF (X : CxN G p s m args meth c cc own nL ret "<init>") (hP : SW G base P L H) (hS : va_S (BA base) s.heap H locs) (hN : base + (P.length + L.length) = s.heap.size + cells) (ha : a = base + P.length) {C : String} {T : u_T} {N ci index i j q : Nat} {fs : List Value} {v : Value} {ty : FieldType} (ty0 : Nat → FieldType) (hty : ∀ k, k < N → parseFieldDescriptor (T k).2.2.1 = some (ty0 k)) (hnm : ∀ a, a < N → ∀ b, b < N → a ≠ b → (T a).2.1 ≠ (T b).2.1)
    (hU : ∀ w ∈ u_ws C T N, w.before args s = true) (hc : vwCl[ci]? = some (C, T, N)) (hj : j < N)
    (hm : (Cond.fieldLink own index (T j).1 (T j).2.1 (T j).2.2.1).before args s = true) (hfin : (T j).2.2.2 = true) (hdecl : (T j).1 = own) (hd : parseFieldDescriptor (T j).2.2.1 = some ty) (hn : narrow ty v = v) (hfit : fits ty v = true)
    (hL : L[i]? = some (.inr (ci, fs))) (hq : a + i = q) (hl : j < fs.length) {L' : List va_E} (hL' : L.set i (.inr (ci, fs.set j v)) = L') (hdg : decode cc pc = .ok (.putfield index, 3))
    (kk : ∀ (H : Heap) (locs : List Loc), SW G base P L' H → va_S (BA base) s.heap H locs → W p l e R s m args below meth c H locs cells slots Q (F0 m (pc + 3) ls rest)) : W p l e R s m args below meth c H locs cells slots Q (F0 m pc ls (v :: .ref q :: rest)) := by
  subst ha
  subst hq
  subst hL'
  rw [Nat.add_assoc]
  refine va_putF (Ts := u_ws C T N) X.hx X.hb hU (fun _ h => h) ty0 hty hnm X.hown X.hK hP.1 cwl_D hS (P.length + i) (cwl_some (mid_at hL)) hc j hj hm (fun _ h => h) hfin X.hin hdecl hd hn hfit hl hdg (fun H1 locs1 q1 _ q3 => n_size (fun hs => ?_))
  rw [cwl_set, mid_set] at q1
  have hlen : (L.set i (.inr (ci, fs.set j v))).length = L.length := List.length_set
  have h0 : 0 < L.length := Nat.lt_of_le_of_lt (Nat.zero_le _) (List.getElem?_eq_some_iff.mp hL).1
  exact kk H1 locs1 (SW.re q1 (by rw [hlen]; exact h0) (by rw [hlen]; exact hN) hs) q3
theorem n_put (X : CxN G p s m args meth c cc own nL ret nm) (hP : SW G base P L H) (hS : va_S (BA base) s.heap H locs) (hN : base + (P.length + L.length) = s.heap.size + cells) (ha : a = base + P.length) {C : String} {T : u_T} {N ci index i j q : Nat} {fs : List Value} {v : Value} {ty : FieldType} (ty0 : Nat → FieldType) (hty : ∀ k, k < N → parseFieldDescriptor (T k).2.2.1 = some (ty0 k)) (hnm : ∀ a, a < N → ∀ b, b < N → a ≠ b → (T a).2.1 ≠ (T b).2.1)
    (hU : ∀ w ∈ u_ws C T N, w.before args s = true) (hc : vwCl[ci]? = some (C, T, N)) (hj : j < N)
    (hm : (Cond.fieldLink own index (T j).1 (T j).2.1 (T j).2.2.1).before args s = true) (hfin : (T j).2.2.2 = false) (hd : parseFieldDescriptor (T j).2.2.1 = some ty) (hn : narrow ty v = v) (hfit : fits ty v = true)
    (hL : L[i]? = some (.inr (ci, fs))) (hq : a + i = q) (hl : j < fs.length) {L' : List va_E} (hL' : L.set i (.inr (ci, fs.set j v)) = L') (hdg : decode cc pc = .ok (.putfield index, 3))
    (kk : ∀ (H : Heap) (locs : List Loc), SW G base P L' H → va_S (BA base) s.heap H locs → W p l e R s m args below meth c H locs cells slots Q (F0 m (pc + 3) ls rest)) : W p l e R s m args below meth c H locs cells slots Q (F0 m pc ls (v :: .ref q :: rest)) := by
  subst ha
  subst hq
  subst hL'
  rw [Nat.add_assoc]
  refine va_put (Ts := u_ws C T N) X.hx X.hb hU (fun _ h => h) ty0 hty hnm X.hown X.hK hP.1 cwl_D hS (P.length + i) (cwl_some (mid_at hL)) hc j hj hm (fun _ h => h) hfin hd hn hfit hl hdg (fun H1 locs1 q1 _ q3 => n_size (fun hs => ?_))
  rw [cwl_set, mid_set] at q1
  have hlen : (L.set i (.inr (ci, fs.set j v))).length = L.length := List.length_set
  have h0 : 0 < L.length := Nat.lt_of_le_of_lt (Nat.zero_le _) (List.getElem?_eq_some_iff.mp hL).1
  exact kk H1 locs1 (SW.re q1 (by rw [hlen]; exact h0) (by rw [hlen]; exact hN) hs) q3
theorem n_iast (X : CxN G p s m args meth c cc own nL ret nm) (hP : SW G base P L H) (hS : va_S (BA base) s.heap H locs) (hN : base + (P.length + L.length) = s.heap.size + cells) (ha : a = base + P.length) {i q n : Nat} {f : Nat → Int32} {x v : Int32} (hL : L[i]? = some (.inl (gc G 1, n, .inl f))) (hq : a + i = q) (hin : vp_in x n) {L' : List va_E} (hL' : L.set i (.inl (gc G 1, n, .inl (upd f x.toNatClampNeg v))) = L') (hdg : decode cc pc = .ok (.iastore, 1))
    (kk : ∀ (H : Heap) (locs : List Loc), SW G base P L' H → va_S (BA base) s.heap H locs → W p l e R s m args below meth c H locs cells slots Q (F0 m (pc + 1) ls rest)) : W p l e R s m args below meth c H locs cells slots Q (F0 m pc ls (.int v :: .int x :: .ref q :: rest)) := by
  subst ha
  subst hq
  subst hL'
  rw [Nat.add_assoc]
  refine va_iast X.hx X.hb X.hK hP.1 cwl_D hS (P.length + i) 1 (cwl_some (mid_at hL)) rfl hin hdg (fun H1 locs1 q1 _ q3 => n_size (fun hs => ?_))
  rw [cwl_set, mid_set] at q1
  have hlen : (L.set i (.inl (gc G 1, n, .inl (upd f x.toNatClampNeg v)))).length = L.length := List.length_set
  have h0 : 0 < L.length := Nat.lt_of_le_of_lt (Nat.zero_le _) (List.getElem?_eq_some_iff.mp hL).1
  exact kk H1 locs1 (SW.re q1 (by rw [hlen]; exact h0) (by rw [hlen]; exact hN) hs) q3
theorem n_aast (X : CxN G p s m args meth c cc own nL ret nm) (hP : SW G base P L H) (hS : va_S (BA base) s.heap H locs) (hN : base + (P.length + L.length) = s.heap.size + cells) (ha : a = base + P.length) {i q n t0 k q2 ci : Nat} {cA : ClassId} {r : vw_C} {vs : List Value} {f : Nat → Option Nat} {x : Int32} (hL : L[i]? = some (.inl (cA, n, .inr (.inr (.inr (.inr f)))))) (ht : (tysG G)[t0]? = some (cA, .object r.1)) (hV : L[k]? = some (.inr (ci, vs))) (hc : vwCl[ci]? = some r) (hq : a + i = q) (hq2 : a + k = q2) (hin : vp_in x n) {L' : List va_E} (hL' : L.set i (.inl (cA, n, .inr (.inr (.inr (.inr (va_up f x.toNatClampNeg (some q2))))))) = L') (hdg : decode cc pc = .ok (.aastore, 1))
    (kk : ∀ (H : Heap) (locs : List Loc), SW G base P L' H → va_S (BA base) s.heap H locs → W p l e R s m args below meth c H locs cells slots Q (F0 m (pc + 1) ls rest)) : W p l e R s m args below meth c H locs cells slots Q (F0 m pc ls (.ref q2 :: .int x :: .ref q :: rest)) := by
  subst ha
  subst hq
  subst hq2
  subst hL'
  rw [Nat.add_assoc base P.length k] at kk ⊢
  rw [Nat.add_assoc base P.length i]
  refine va_astq X.hx X.hb X.hK hP.1 cwl_D hS (P.length + i) t0 (P.length + k) ci (cwl_some (mid_at hL)) ht (cwl_some (mid_at hV)) hc hin hdg (fun H1 locs1 q1 _ q3 => n_size (fun hs => ?_))
  rw [cwl_set, mid_set] at q1
  have hlen : (L.set i (.inl (cA, n, .inr (.inr (.inr (.inr (va_up f x.toNatClampNeg (some (base + (P.length + k)))))))))).length = L.length := List.length_set
  have h0 : 0 < L.length := Nat.lt_of_le_of_lt (Nat.zero_le _) (List.getElem?_eq_some_iff.mp hL).1
  exact kk H1 locs1 (SW.re q1 (by rw [hlen]; exact h0) (by rw [hlen]; exact hN) hs) q3
theorem SW.push (hP : SW G base P L H) {H1 : Heap} {e : va_E} (he : va_at G.1 vwCl (base + (P.length + L.length), e) H1) (hz : H1.size = H.size + 1) (ho : ∀ q, q < H.size → H1[q]? = H[q]?) : SW G base P (L ++ [e]) H1 := by
  refine ⟨?_, by rw [hz, hP.2, List.length_append]; simp; omega⟩
  have h2 : cwl base (P ++ (L ++ [e])) = cwl base (P ++ L) ++ [(base + (P ++ L).length, e)] := by rw [cwl_push, List.append_assoc]
  rw [h2]
  refine (hP.1.kept (fun k x hx => ho x.1 ((hP.1 k x hx).lt))).app (fun k x hx => ?_)
  have hz2 : k < 1 := (List.getElem?_eq_some_iff.mp hx).1
  rw [show k = 0 by omega] at hx
  cases hx
  rw [List.length_append]
  exact he
theorem SW.fr (hP : SW G base P L H) (hS : va_S (BA base) s.heap H locs) {H1 : Heap} (hz : H1.size = H.size + 1) (ho : ∀ q, q < H.size → H1[q]? = H[q]?) : va_S (BA base) s.heap H1 locs :=
  ⟨Nat.le_trans hS.1 (by omega), fun x h1 h2 => (ho x (Nat.lt_of_lt_of_le h1 hS.1)).trans (hS.2.1 x h1 h2), hS.2.2⟩
theorem n_new (X : CxN G p s m args meth c cc own nL ret nm) (hP : SW G base P L H) (hS : va_S (BA base) s.heap H locs) (ha : a = base + P.length) {C : String} {T : u_T} {N ci index n q : Nat} (ty : Nat → FieldType) (hty : ∀ k, k < N → parseFieldDescriptor (T k).2.2.1 = some (ty k)) (hU : ∀ w ∈ u_ws C T N, w.before args s = true) (hcl : (Cond.classLink own index C).before args s = true) (hinst : (Cond.instantiable C N).before args s = true) (hini : (Cond.initialized C).before args s = true)
    (hc : vwCl[ci]? = some (C, T, N)) {fs : List Value} (hfs : ∀ j, j < N → defaultValue (ty j) = vp_V fs j) (hn : L.length = n) (hq : a + n = q) {L' : List va_E} (hL' : L ++ [.inr (ci, fs)] = L') (hcells : cells + 1 ≤ R.cells) (hslots : slots + N ≤ R.slots) (hdg : decode cc pc = .ok (.new index, 3))
    (kk : ∀ (H : Heap), SW G base P L' H → va_S (BA base) s.heap H locs → W p l e R s m args below meth c H locs (cells + 1) (slots + N) Q (F0 m (pc + 3) ls (.ref q :: rest))) : W p l e R s m args below meth c H locs cells slots Q (F0 m pc ls rest) := by
  subst ha
  subst hn
  subst hq
  subst hL'
  have hKn := X.hK.1 ci _ hc
  have hz0 : H.size = base + P.length + L.length := by rw [hP.2, Nat.add_assoc]
  refine W.newcK X.hx X.hb X.hown hcl hinst hini rfl hdg hcells hslots hKn.2.1 hz0 fun H1 kC hkC e1 z1 o1 => ?_
  rw [← hz0] at z1 o1
  refine kk H1 (hP.push ?_ z1 o1) (hP.fr hS z1 o1)
  rw [Nat.add_assoc] at e1
  exact ⟨_, hc, (u_born ty hU (fun _ h => h) hKn hkC e1 hty).to hfs⟩
theorem n_arr (X : CxN G p s m args meth c cc own nL ret nm) (hP : SW G base P L H) (hS : va_S (BA base) s.heap H locs) (ha : a = base + P.length) {atype : ArrayType} {ty : FieldType} (hty : newarray.typeOf atype = ty) (harr : (Cond.arrayClass ty).before args s = true) {t0 : Nat} {cA : ClassId} (ht : (tysG G)[t0]? = some (cA, ty)) (hnr : ∀ C, ty ≠ .object C)
    {x : Int32} {N n q : Nat} {a0 : vp_A} (ha0 : ∀ cA : ClassId, vp_cell cA a0 = arrV cA N (fun _ => defaultValue ty)) (hx0 : ¬ x < 0) (hxN : x.toNatClampNeg = N) (hbytes : N * componentBytes ty ≤ 536870912) (hn : L.length = n) (hq : a + n = q) {L' : List va_E} (hL' : L ++ [.inl (cA, a0)] = L') (hcells : cells + 1 ≤ R.cells) (hslots : slots + N ≤ R.slots) (hdg : decode cc pc = .ok (.newarray atype, 2))
    (kk : ∀ (H : Heap), SW G base P L' H → va_S (BA base) s.heap H locs → W p l e R s m args below meth c H locs (cells + 1) (slots + N) Q (F0 m (pc + 2) ls (.ref q :: rest))) : W p l e R s m args below meth c H locs cells slots Q (F0 m pc ls (.int x :: rest)) := by
  subst ha
  subst hn
  subst hq
  subst hL'
  subst hty
  have hz0 : H.size = base + P.length + L.length := by rw [hP.2, Nat.add_assoc]
  refine va_newaK X.hx X.hb harr rfl hdg rfl hx0 hxN hbytes hcells hslots hz0 fun H1 cB e1 z1 o1 hAr hNm => ?_
  rw [← hz0] at z1 o1
  have hRA := (X.hK.2 t0 _ ht).2
  have hcl : s.vm.findClass ("[" ++ (newarray.typeOf atype).toString) = some cA := by
    revert hRA hnr
    cases atype <;> exact fun _ h => h
  have hcc : cB = cA := Option.some.inj (hNm.symm.trans hcl)
  subst hcc
  refine kk H1 (hP.push ?_ z1 o1) (hP.fr hS z1 o1)
  rw [Nat.add_assoc] at e1
  show H1[_]? = some (vp_cell _ _)
  rw [ha0]
  exact e1
theorem n_arq (X : CxN G p s m args meth c cc own nL ret nm) (hP : SW G base P L H) (hS : va_S (BA base) s.heap H locs) (ha : a = base + P.length) {C : String} {index t0 : Nat} {cA : ClassId} (hclink : (Cond.classLink own index C).before args s = true) (hover : (Cond.arrayOver (.object C)).before args s = true) (ht : (tysG G)[t0]? = some (cA, .object C))
    {x : Int32} {N n q : Nat} (hx0 : ¬ x < 0) (hxN : x.toNatClampNeg = N) (hbytes : N * 4 ≤ 536870912) (hn : L.length = n) (hq : a + n = q) {L' : List va_E} (hL' : L ++ [.inl (cA, N, .inr (.inr (.inr (.inr (fun _ => none)))))] = L') (hcells : cells + 1 ≤ R.cells) (hslots : slots + N ≤ R.slots) (hdg : decode cc pc = .ok (.anewarray index, 3))
    (kk : ∀ (H : Heap), SW G base P L' H → va_S (BA base) s.heap H locs → W p l e R s m args below meth c H locs (cells + 1) (slots + N) Q (F0 m (pc + 3) ls (.ref q :: rest))) : W p l e R s m args below meth c H locs cells slots Q (F0 m pc ls (.int x :: rest)) := by
  subst ha
  subst hn
  subst hq
  subst hL'
  subst hxN
  have hz0 : H.size = base + P.length + L.length := by rw [hP.2, Nat.add_assoc]
  refine W.anew X.hx X.hb X.hown hclink hover rfl hdg rfl hx0 hbytes hcells hslots fun cB kB comp f1 f2 f3 f4 => ?_
  obtain ⟨kA, comp2, k1, k2, k3, k4⟩ := (X.hK.2 t0 _ ht).2
  have hcc : cB = cA := Option.some.inj (f1.symm.trans k4)
  subst hcc
  generalize hH1 : H.push ({ cls := cB, slots := Array.replicate x.toNatClampNeg .null, vm := .none } : Cell) = H1
  have z1 : H1.size = H.size + 1 := by rw [← hH1, Array.size_push]
  have e1 : H1[H.size]? = some (arrV cB x.toNatClampNeg (fun _ => .null)) := by rw [← hH1, Array.getElem?_push_size, ← arrV_new]
  have o1 : ∀ q : Nat, q < H.size → H1[q]? = H[q]? := fun q hq => by rw [← hH1, Array.getElem?_push, if_neg (Nat.ne_of_lt hq)]
  have k9 := kk H1 (hP.push (e := .inl (cB, x.toNatClampNeg, .inr (.inr (.inr (.inr (fun _ => none)))))) (by rw [← hP.2]; exact e1) z1 o1) (hP.fr hS z1 o1)
  rw [← hz0] at k9
  exact k9
theorem n_obj (X : CxN G p s m args meth c cc own nL ret nm) {index q : Nat} (hlink : (Cond.methodLink own index Lib.objectInit).before args s = true) (hinst : (Cond.instanceMethod Lib.objectInit).before args s = true) (hcode : (Cond.code Lib.objectInit ⟨#[0xb1]⟩ 1 none).before args s = true) (hsz : ls.size = nL) (hdg : decode cc pc = .ok (.invokespecial index, 3)) (hfr : 1 ≤ R.frames) (hlo : 12 ≤ R.locals)
    (kk : W p l e R s m args below meth c H locs cells slots Q (F0 m (pc + 3) ls [])) : W p l e R s m args below meth c H locs cells slots Q (F0 m pc ls [.ref q]) :=
  W.objInit X.hx X.hb X.hown hlink hinst hcode rfl (by rw [X.hml]; exact hsz) rfl hdg hfr (by show 2 * 0 + 0 + 12 ≤ _; omega) kk
theorem n_back {a0 : Array Value} {mc ms : Nat} {P' L' : List va_E} (hr : va_Run p l e R s m args below meth c H locs cells slots mc ms (F0 m pc ls st0) rest (QN G base P' L' a0) (BA base)) (hS : va_S (BA base) s.heap H locs)
    (kk : ∀ (H : Heap) (locs : List Loc), SW G base P' L' H → va_S (BA base) s.heap H locs → W p l e R s m args below meth c H locs (cells + mc) (slots + ms) Q (F0 m (pc + 3) ls rest)) : W p l e R s m args below meth c H locs cells slots Q (F0 m pc ls st0) := by
  intro T hT X
  obtain ⟨v, st₀, t, T', L, h0, X', hL, e1, e2, ⟨⟨hv, hp⟩, hz, hk⟩, st⟩ := hr T hT X
  have hv' : v = none := by cases hv; rfl
  subst hv'
  rw [h0] at hz hk
  obtain ⟨t2, a1, b1⟩ := kk T'.heap (locs ++ L) (by rw [e1]; exact hp)
    ⟨Nat.le_trans hS.1 (by rw [e1]; exact hz), fun q h1 h2 => by rw [e1, hk q (Nat.lt_of_lt_of_le h1 hS.1) h2]; exact hS.2.1 q h1 h2, fun q hq => by
      rcases List.mem_append.mp hq with h | h
      · exact hS.2.2 q h
      · exact hL q h⟩ T' rfl X'
  exact ⟨t2, st t2 a1, b1⟩
theorem PreN.to (X : CxN G p s m args meth c cc own nL ret nm) {P' L' : List va_E} (hP : SW G base P' L' H) {U : State} (hU : U.heap = H) (hW : s.WarmedH U.vm) : PreN G base P' L' U := by
  subst hU
  exact ⟨X.hT.warm hW, va_K.moved hW.alike X.hK, X.hao.moved hW.alike, hP⟩
theorem SW.split {L1 L2 : List va_E} (h : SW G base P (L1 ++ L2) H) : SW G base (P ++ L1) L2 H := by
  refine ⟨by rw [List.append_assoc]; exact h.1, ?_⟩
  rw [h.2, List.length_append, List.length_append]
  omega
theorem SW.join {L1 L2 : List va_E} (h : SW G base (P ++ L1) L2 H) : SW G base P (L1 ++ L2) H := by
  refine ⟨by rw [← List.append_assoc]; exact h.1, ?_⟩
  rw [h.2, List.length_append, List.length_append]
  omega
/-- a constructor's contract: at any place, its segment comes -/
def IM (l : Launch) (G : Gh) (y : MethodName) (bytes : ByteArray) (maxL : Nat) (e0 : va_E) (seg : Nat → List va_E) (rm : Room) (mc ms : Nat) : Prop :=
  ∀ (base : Nat) (P : List va_E), Met l y [Cond.code y bytes maxL none] rm (va_Pc [.ref (base + P.length)] (PreN G base P [e0])) (QN G base P (seg (base + P.length))) mc ms (BA base)
theorem n_init (X : CxN G p s m args meth c cc own nL ret nm) (hS : va_S (BA base) s.heap H locs) (ha : a = base + P.length) {y : MethodName} {bytes : ByteArray} {maxL index n q mc ms : Nat} {e0 : va_E} {seg : Nat → List va_E} {rm : Room} (hM : IM l G y bytes maxL e0 seg rm mc ms) (hP : SW G base P (L ++ [e0]) H)
    (hcode : (Cond.code y bytes maxL none).before args s = true) (hini : (Cond.initialized y.cls).before args s = true) (hlink : (Cond.methodLink own index y).before args s = true) (hin : (Cond.instanceMethod y).before args s = true) (hy : y.name = "<init>")
    (hd : y.cls ≠ "java/lang/invoke/MethodHandle" ∧ y.cls ≠ "java/lang/invoke/VarHandle" ∧ (parseMethodDescriptor y.desc).map (fun d => d.parameters.length) = some 0)
    (hrm : rm.cells = mc ∧ rm.slots = ms ∧ rm.frames + 1 ≤ R.frames ∧ 8 + (maxL + 11) + rm.locals ≤ R.locals) (hsz : ls.size = nL) (hcat : (rest.map fun v => v.category).sum ≤ 8) (hcs : cells + mc ≤ R.cells ∧ slots + ms ≤ R.slots) (hn : L.length = n) (hq : a + n = q)
    (hdg : decode cc pc = .ok (.invokespecial index, 3))
    (kk : ∀ (H : Heap) (locs : List Loc), SW G base P (L ++ seg q) H → va_S (BA base) s.heap H locs → W p l e R s m args below meth c H locs (cells + mc) (slots + ms) Q (F0 m (pc + 3) ls rest)) : W p l e R s m args below meth c H locs cells slots Q (F0 m pc ls (.ref q :: rest)) := by
  subst ha
  subst hn
  subst hq
  have he : base + P.length + L.length = base + (P ++ L).length := by rw [List.length_append, Nat.add_assoc]
  rw [he] at kk ⊢
  refine n_back (va_runI (n := 0) (As := []) (rest := rest) (Ts := [Cond.code y bytes maxL none]) ⟨X.hx, X.hb, X.hml, X.hown, fun w h => by rw [List.mem_singleton.mp h]; exact hcode⟩ (hM base (P ++ L))
    ⟨callB_of 0 (fun w h => by rw [List.mem_singleton.mp h]; exact hcode) code_good rfl hrm.1 hrm.2.1 hini hlink hd ⟨hrm.2.2.1, hrm.2.2.2⟩, hy, hin⟩
    ⟨PreN.blind G base _ _ _, fun U hU hW => ⟨rfl, PreN.to X hP.split hU hW⟩⟩ rfl rfl hsz rfl (lv_room hcat) hdg hcs) hS (fun H locs q1 q2 => kk H locs q1.join q2)
theorem n_initN (X : CxN G p s m args meth c cc own nL ret nm) (hS : va_S (BA base) s.heap H locs) (ha : a = base + P.length) {y : MethodName} {host : String} {bytes : ByteArray} {maxL index n q mc ms : Nat} {e0 : va_E} {seg : Nat → List va_E} {rm : Room} (hM : IM l G y bytes maxL e0 seg rm mc ms) (hP : SW G base P (L ++ [e0]) H)
    (hcode : (Cond.code y bytes maxL none).before args s = true) (hini : (Cond.initialized y.cls).before args s = true) (hlink : (Cond.methodLinkNest own index y host).before args s = true) (hin : (Cond.instanceMethod y).before args s = true) (hy : y.name = "<init>")
    (hd : y.cls ≠ "java/lang/invoke/MethodHandle" ∧ y.cls ≠ "java/lang/invoke/VarHandle" ∧ (parseMethodDescriptor y.desc).map (fun d => d.parameters.length) = some 0)
    (hrm : rm.cells = mc ∧ rm.slots = ms ∧ rm.frames + 1 ≤ R.frames ∧ 8 + (maxL + 11) + rm.locals ≤ R.locals) (hsz : ls.size = nL) (hcat : (rest.map fun v => v.category).sum ≤ 8) (hcs : cells + mc ≤ R.cells ∧ slots + ms ≤ R.slots) (hn : L.length = n) (hq : a + n = q)
    (hdg : decode cc pc = .ok (.invokespecial index, 3))
    (kk : ∀ (H : Heap) (locs : List Loc), SW G base P (L ++ seg q) H → va_S (BA base) s.heap H locs → W p l e R s m args below meth c H locs (cells + mc) (slots + ms) Q (F0 m (pc + 3) ls rest)) : W p l e R s m args below meth c H locs cells slots Q (F0 m pc ls (.ref q :: rest)) := by
  subst ha
  subst hn
  subst hq
  have he : base + P.length + L.length = base + (P ++ L).length := by rw [List.length_append, Nat.add_assoc]
  rw [he] at kk ⊢
  refine n_back (va_runIN (n := 0) (As := []) (rest := rest) (Ts := [Cond.code y bytes maxL none]) (host := host) ⟨X.hx, X.hb, X.hml, X.hown, fun w h => by rw [List.mem_singleton.mp h]; exact hcode⟩ (hM base (P ++ L))
    ⟨va_cnB 0 (fun w h => by rw [List.mem_singleton.mp h]; exact hcode) code_good rfl hrm.1 hrm.2.1 (va_Nw.of rfl hlink) hini hd ⟨hrm.2.2.1, hrm.2.2.2⟩, hy, hin⟩
    ⟨PreN.blind G base _ _ _, fun U hU hW => ⟨rfl, PreN.to X hP.split hU hW⟩⟩ rfl rfl hsz rfl (lv_room hcat) hdg hcs) hS (fun H locs q1 q2 => kk H locs q1.join q2)
theorem n_ret (X : CxN G p s m args meth c cc own nL none nm) (hP : SW G base P L H) (hS : va_S (BA base) s.heap H locs) {L' : List va_E} (hL : L = L') {mc ms : Nat} (h1 : cells = mc) (h2 : slots = ms) (hdg : decode cc pc = .ok (.return_, 1)) : W p l e R s m args below meth c H locs cells slots (MQ below (QN G base P L') args s mc ms (BA base)) (F0 m pc ls []) := by
  subst hL
  subst h1
  subst h2
  exact W.vret X.hx X.hb X.hr (fun t ht _ => ⟨⟨rfl, by rw [ht]; exact hP⟩, hS.F ht⟩) hS.2.2 hdg X.hlk
theorem im_of {y : MethodName} {rm : Room} {e0 : va_E} {seg : Nat → List va_E} {mc ms : Nat} (hy : plainName y.cls = true) (hn : y.name = "<init>")
    (body : ∀ (base a : Nat) (P : List va_E) (p : Program) (e : Env) (s : State) (m : MethodId) (below : List Frame) (meth : Method) (c : Code), a = base + P.length → CxN G p s m ([.ref a] : List Value).toArray meth c cc y.cls nL none "<init>" → SW G base P [e0] s.heap → base + (P.length + 1) = s.heap.size →
      W p l e rm s m ([.ref a] : List Value).toArray below meth c s.heap [] 0 0 (MQ below (QN G base P (seg a)) ([.ref a] : List Value).toArray s mc ms (BA base)) (entryFrame m ([.ref a] : List Value).toArray nL)) : IM l G y cc nL e0 seg rm mc ms := by
  intro base P
  refine Met.ofW (cc := cc) (maxL := nL) (ret := none) hy rfl ?_
  intro p e s m args below meth c s₁ B hml hv
  obtain ⟨rfl, hT, hK, hao, hP⟩ := hv
  have hin : meth.name = "<init>" := (name_of_methodNamed B.named B.method).1.trans hn
  exact body base _ P p e s m below meth c rfl ⟨B.exec, B.bytes, hml, findClass_of_methodNamed B.named, B.returns, B.notSynchronized, hT, hK, hin, hao⟩ hP (by rw [hP.2]; rfl)
end RN

