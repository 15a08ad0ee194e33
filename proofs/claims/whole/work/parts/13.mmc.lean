def F_X10_sumOf_8 (k0z : Nat) (rec1 : Int32 → Int32 → Mem → Option (Int32 × Mem)) : Int32 → Int32 → Mem → Option (Int32 × Mem) := fun v1 v2 σ =>
  if (gI σ k0z 42) ≤ v2 then
    bd1 (some (pI σ k0z 13 (0 : Int32))) fun σ4 =>
    some (v1, σ4)
  else
    bd1 (ixo (k0z + 21) v2) fun j6 =>
    bd2 (f_X10_burnsOut k0z (gI σ (k0z + 21) j6) σ) fun r10 σ8 =>
    bd2 (f_X10_its k0z (4 : Int32) σ8) fun r13 σ11 =>
    if (0 : Int32) ≤ r13 then
      bd2 (f_X10_its k0z (3 : Int32) σ11) fun r17 σ15 =>
      bd1 (f_X10_pays k0z σ15) fun σ18 =>
      rec1 (v1 + r17) (v2 + (1 : Int32)) σ18
    else
      bd1 (f_X10_pays k0z σ11) fun σ20 =>
      rec1 (v1 + (0 : Int32)) (v2 + (1 : Int32)) σ20
def f_X10_sumOf (k0 : Nat) (σ : Mem) : Option (Int32 × Mem) :=
  bd1 (f_X10_lends k0 σ) fun σ1 =>
  iterF (F_X10_sumOf_8 k0) (fun _ _ _ => none) FU (0 : Int32) (0 : Int32) σ1
abbrev RM_X10_sumOf : Room := { frames := 6, cells := 0, slots := 0, locals := 130 }
set_option maxHeartbeats 4000000 in
set_option maxRecDepth 100000 in
theorem w_X10_sumOf_8 {l : Launch} {G : Gh} {p : Program} {e : Env} {s : State} {m : MethodId} {args : Array Value} {below : List Frame} {meth : Method} {c : Code} (X : Cx G p s m args meth c prog_12_method_70_code RX10 4 (some .int)) {k0z : Nat} (hz0 : kd k0z = 10) {rr : Int32} {σr : Mem} : ∀ (n : Nat) (v1 : Int32) (v2 : Int32) (σ : Mem) (H : Heap) (locs : List Loc) (ls : Array Slot), PW G σ H → va_S (AA G) s.heap H locs → lv_has ls 4 [(0, .ref (ga G k0z)), (1, .int v1), (2, .int v2)] → iterF (F_X10_sumOf_8 k0z) (fun _ _ _ => none) n v1 v2 σ = some (rr, σr) → W p l e RM_X10_sumOf s m args below meth c H locs 0 0 (MQ below (QG G (some (.int rr)) σr) args s 0 0 (AA G)) (F0 m 8 ls []) := by
  have hx := X.hx
  have hb := X.hb
  intro n
  induction n with
  | zero => intro v1 v2 σ H locs ls hP hS hl h; exact nnone (α := (Int32 × Mem)) h
  | succ n ih1 =>
    intro v1 v2 σ H locs ls hP hS hl h
    have h : F_X10_sumOf_8 k0z (iterF (F_X10_sumOf_8 k0z) (fun _ _ _ => none) n) v1 v2 σ = some _ := h
    unfold F_X10_sumOf_8 at h
    refine lv_iload_n (pc := 8) hx hb dX10_sumOf_8 rfl (lv_at hl 2 rfl) ?_
    refine lv_aload_n (pc := 9) hx hb dX10_sumOf_9 rfl (lv_at hl 0 rfl) ?_
    refine gt_X10_341 X hP hz0 dX10_sumOf_10 ?_
    refine lv_icmp_ge (pc := 13) (tgt := 57) hx hb dX10_sumOf_13 (by decide) (fun c3 => ?_) (fun c3 => ?_)
    · have h := ipos c3 h
      refine lv_aload_n (pc := 57) hx hb dX10_sumOf_57 rfl (lv_at hl 0 rfl) ?_
      refine lv_iconst (pc := 58) (v := 0) hx hb dX10_sumOf_58 (by decide) ?_
      obtain ⟨σ4, e5, h⟩ := bnd1 h
      refine pt_X10_131 X hP hS hz0 dX10_sumOf_59 (fun H locs hP hS => ?_)
      rw [Option.some.inj e5] at hP
      refine lv_iload_n (pc := 62) hx hb dX10_sumOf_62 rfl (lv_at hl 1 rfl) ?_
      obtain ⟨rfl, rfl⟩ := inj2 h
      exact r_iret X hP hS dX10_sumOf_63
    · have h := ineg c3 h
      refine lv_aload_n (pc := 16) hx hb dX10_sumOf_16 rfl (lv_at hl 0 rfl) ?_
      refine lv_aload_n (pc := 17) hx hb dX10_sumOf_17 rfl (lv_at hl 0 rfl) ?_
      refine gt_X10_80 X hP hz0 dX10_sumOf_18 ?_
      refine lv_iload_n (pc := 21) hx hb dX10_sumOf_21 rfl (lv_at hl 2 rfl) ?_
      obtain ⟨j6, hj7, h⟩ := bnd1 h
      refine r_iald (pc := 22) X hP (kf_10_order hz0).1 hj7 dX10_sumOf_22 ?_
      obtain ⟨r10, σ8, e9, h⟩ := bnd2 h
      refine cl_X10_323 X hP hS hz0 (As := [.int (gI σ (k0z + 21) j6)]) (rest := []) (c_X10_burnsOut l G hz0 e9) ⟨rfl, rfl, Nat.le_of_ble_eq_true rfl, Nat.le_of_ble_eq_true rfl⟩ rfl hl.1 rfl (Nat.le_of_ble_eq_true rfl) ⟨Nat.zero_le _, Nat.zero_le _⟩ (pc := 23) dX10_sumOf_23 (fun H locs hP hS => ?_)
      change W p l e _ s m _ below meth c H locs _ _ _ (F0 m (23 + 3) ls (.int r10 :: []))
      refine lv_istore_n (pc := 26) (lv' := [(3, .int r10), (0, .ref (ga G k0z)), (1, .int v1), (2, .int v2)]) hx hb dX10_sumOf_26 rfl hl (by decide) rfl (fun ls hl => ?_)
      refine lv_iload_n (pc := 27) hx hb dX10_sumOf_27 rfl (lv_at hl 2 rfl) ?_
      refine lv_aload_n (pc := 28) hx hb dX10_sumOf_28 rfl (lv_at hl 1 rfl) ?_
      refine lv_iconst (pc := 29) (v := 4) hx hb dX10_sumOf_29 (by decide) ?_
      obtain ⟨r13, σ11, e12, h⟩ := bnd2 h
      refine cl_X10_277 X hP hS hz0 (As := [.int (4 : Int32)]) (rest := [.int v1]) (c_X10_its l G hz0 e12) ⟨rfl, rfl, Nat.le_of_ble_eq_true rfl, Nat.le_of_ble_eq_true rfl⟩ rfl hl.1 rfl (Nat.le_of_ble_eq_true rfl) ⟨Nat.zero_le _, Nat.zero_le _⟩ (pc := 30) dX10_sumOf_30 (fun H locs hP hS => ?_)
      change W p l e _ s m _ below meth c H locs _ _ _ (F0 m (30 + 3) ls (.int r13 :: [.int v1]))
      refine lv_if_ge (pc := 33) (tgt := 40) hx hb dX10_sumOf_33 (by decide) (fun c14 => ?_) (fun c14 => ?_)
      · have h := ipos c14 h
        refine lv_aload_n (pc := 40) hx hb dX10_sumOf_40 rfl (lv_at hl 1 rfl) ?_
        refine lv_iconst (pc := 41) (v := 3) hx hb dX10_sumOf_41 (by decide) ?_
        obtain ⟨r17, σ15, e16, h⟩ := bnd2 h
        refine cl_X10_277 X hP hS hz0 (As := [.int (3 : Int32)]) (rest := [.int v1]) (c_X10_its l G hz0 e16) ⟨rfl, rfl, Nat.le_of_ble_eq_true rfl, Nat.le_of_ble_eq_true rfl⟩ rfl hl.1 rfl (Nat.le_of_ble_eq_true rfl) ⟨Nat.zero_le _, Nat.zero_le _⟩ (pc := 42) dX10_sumOf_42 (fun H locs hP hS => ?_)
        change W p l e _ s m _ below meth c H locs _ _ _ (F0 m (42 + 3) ls (.int r17 :: [.int v1]))
        refine lv_iadd (pc := 45) hx hb dX10_sumOf_45 ?_
        refine lv_istore_n (pc := 46) (lv' := [(1, .int (v1 + r17)), (3, .int r10), (0, .ref (ga G k0z)), (2, .int v2)]) hx hb dX10_sumOf_46 rfl hl (by decide) rfl (fun ls hl => ?_)
        refine lv_aload_n (pc := 47) hx hb dX10_sumOf_47 rfl (lv_at hl 2 rfl) ?_
        obtain ⟨σ18, e19, h⟩ := bnd1 h
        refine cl_X10_310 X hP hS hz0 (As := []) (rest := []) (c_X10_pays l G hz0 e19) ⟨rfl, rfl, Nat.le_of_ble_eq_true rfl, Nat.le_of_ble_eq_true rfl⟩ rfl hl.1 rfl (Nat.le_of_ble_eq_true rfl) ⟨Nat.zero_le _, Nat.zero_le _⟩ (pc := 48) dX10_sumOf_48 (fun H locs hP hS => ?_)
        change W p l e _ s m _ below meth c H locs _ _ _ (F0 m (48 + 3) ls [])
        refine lv_iinc (pc := 51) (v := (v2 + (1 : Int32))) (lv' := [(2, .int (v2 + (1 : Int32))), (1, .int (v1 + r17)), (3, .int r10), (0, .ref (ga G k0z))]) hx hb dX10_sumOf_51 hl (k := 3) rfl (congrArg (fun z => v2 + z) (by decide)) (by decide) rfl (fun ls hl => ?_)
        refine lv_goto (pc := 54) (tgt := 8) hx hb dX10_sumOf_54 (by decide) ?_
        exact ih1 _ _ _ _ _ _ hP hS (lv_sub hl [3, 1, 0] rfl) h
      · have h := ineg c14 h
        refine lv_iconst (pc := 36) (v := 0) hx hb dX10_sumOf_36 (by decide) ?_
        refine lv_goto (pc := 37) (tgt := 45) hx hb dX10_sumOf_37 (by decide) ?_
        refine lv_iadd (pc := 45) hx hb dX10_sumOf_45 ?_
        refine lv_istore_n (pc := 46) (lv' := [(1, .int (v1 + (0 : Int32))), (3, .int r10), (0, .ref (ga G k0z)), (2, .int v2)]) hx hb dX10_sumOf_46 rfl hl (by decide) rfl (fun ls hl => ?_)
        refine lv_aload_n (pc := 47) hx hb dX10_sumOf_47 rfl (lv_at hl 2 rfl) ?_
        obtain ⟨σ20, e21, h⟩ := bnd1 h
        refine cl_X10_310 X hP hS hz0 (As := []) (rest := []) (c_X10_pays l G hz0 e21) ⟨rfl, rfl, Nat.le_of_ble_eq_true rfl, Nat.le_of_ble_eq_true rfl⟩ rfl hl.1 rfl (Nat.le_of_ble_eq_true rfl) ⟨Nat.zero_le _, Nat.zero_le _⟩ (pc := 48) dX10_sumOf_48 (fun H locs hP hS => ?_)
        change W p l e _ s m _ below meth c H locs _ _ _ (F0 m (48 + 3) ls [])
        refine lv_iinc (pc := 51) (v := (v2 + (1 : Int32))) (lv' := [(2, .int (v2 + (1 : Int32))), (1, .int (v1 + (0 : Int32))), (3, .int r10), (0, .ref (ga G k0z))]) hx hb dX10_sumOf_51 hl (k := 3) rfl (congrArg (fun z => v2 + z) (by decide)) (by decide) rfl (fun ls hl => ?_)
        refine lv_goto (pc := 54) (tgt := 8) hx hb dX10_sumOf_54 (by decide) ?_
        exact ih1 _ _ _ _ _ _ hP hS (lv_sub hl [3, 1, 0] rfl) h
set_option maxHeartbeats 4000000 in
set_option maxRecDepth 100000 in
theorem c_X10_sumOf (l : Launch) (G : Gh) {k0 : Nat} {σ : Mem} {rr : Int32} {σr : Mem} (hk0 : kd k0 = 10) (h : f_X10_sumOf k0 σ = some (rr, σr)) : Met l yX10_sumOf [Cond.code yX10_sumOf prog_12_method_70_code 4 (some .int)] RM_X10_sumOf (va_Pc [.ref (ga G k0)] (Pre G σ)) (QG G (some (.int rr)) σr) 0 0 (AA G) := by
  refine ct_of (by decide) (fun p e s m below meth c X hP => ?_)
  have hx := X.hx
  have hb := X.hb
  have hS : va_S (AA G) s.heap s.heap [] := va_S.rf
  have hl := lv_entry ([.ref (ga G k0)]) (n := 4) (Nat.le_of_ble_eq_true rfl)
  rw [lg_entry_eq]
  generalize (lg_sl ([.ref (ga G k0)]) ++ List.replicate (4 - (lg_sl ([.ref (ga G k0)])).length) Slot.unset).toArray = ls at hl ⊢
  have hl : lv_has ls 4 [(0, .ref (ga G k0))] := hl
  unfold f_X10_sumOf at h
  refine lv_aload_n (pc := 0) hx hb dX10_sumOf_0 rfl (lv_at hl 0 rfl) ?_
  obtain ⟨σ1, e2, h⟩ := bnd1 h
  refine cl_X10_320 X hP hS hk0 (As := []) (rest := []) (c_X10_lends l G hk0 e2) ⟨rfl, rfl, Nat.le_of_ble_eq_true rfl, Nat.le_of_ble_eq_true rfl⟩ rfl hl.1 rfl (Nat.le_of_ble_eq_true rfl) ⟨Nat.zero_le _, Nat.zero_le _⟩ (pc := 1) dX10_sumOf_1 (fun H locs hP hS => ?_)
  change W p l e _ s m _ below meth c H locs _ _ _ (F0 m (1 + 3) ls [])
  refine lv_iconst (pc := 4) (v := 0) hx hb dX10_sumOf_4 (by decide) ?_
  refine lv_istore_n (pc := 5) (lv' := [(1, .int (0 : Int32)), (0, .ref (ga G k0))]) hx hb dX10_sumOf_5 rfl hl (by decide) rfl (fun ls hl => ?_)
  refine lv_iconst (pc := 6) (v := 0) hx hb dX10_sumOf_6 (by decide) ?_
  refine lv_istore_n (pc := 7) (lv' := [(2, .int (0 : Int32)), (1, .int (0 : Int32)), (0, .ref (ga G k0))]) hx hb dX10_sumOf_7 rfl hl (by decide) rfl (fun ls hl => ?_)
  exact w_X10_sumOf_8 X  hk0  FU _ _ _ _ _ _ hP hS (lv_sub hl [2, 1, 0] rfl) h
def F_X10_findBest_110 (k0z : Nat) (p1 : Int32) (p2 : Int32) (rec1 : Int32 → Mem → Option Mem) (rec2 : Int32 → Mem → Option Mem) : Int32 → Mem → Option Mem := fun v4 σ =>
  if (gI σ k0z 42) ≤ v4 then
    rec1 (p2 + (1 : Int32)) σ
  else
    bd1 (ixo (k0z + 21) v4) fun j17 =>
    bd1 (ixo (k0z + 22) v4) fun j19 =>
    bd1 (some (pI σ (k0z + 22) j19 (gI σ (k0z + 21) j17))) fun σ21 =>
    rec2 (v4 + (1 : Int32)) σ21
def F_X10_findBest_79 (k0z : Nat) (p1 : Int32) (rec1 : Int32 → Mem → Option Mem) : Int32 → Mem → Option Mem := fun v2 σ =>
  if p1 ≤ v2 then
    some σ
  else
    bd1 (f_X10_findOrder k0z v2 σ) fun σ8 =>
    bd2 (f_X10_sumOf k0z σ8) fun r12 σ10 =>
    if r12 ≤ (gI σ10 k0z 43) then
      rec1 (v2 + (1 : Int32)) σ10
    else
      bd1 (some (pI σ10 k0z 43 r12)) fun σ14 =>
      iterF (F_X10_findBest_110 k0z p1 v2 rec1) (fun _ _ => none) FU (0 : Int32) σ14
def F_X10_findBest_54 (k0z : Nat) (rec1 : Int32 → Int32 → Mem → Option Mem) : Int32 → Int32 → Mem → Option Mem := fun v1 v2 σ =>
  if (gI σ k0z 42) < v2 then
    bd1 (some (pI σ k0z 43 (-1 : Int32))) fun σ5 =>
    iterF (F_X10_findBest_79 k0z v1) (fun _ _ => none) FU (0 : Int32) σ5
  else
    rec1 (v1 * v2) (v2 + (1 : Int32)) σ
def F_X10_findBest_7 (k0z : Nat) (rec1 : Int32 → Mem → Option Mem) : Int32 → Mem → Option Mem := fun v1 σ =>
  if (gI σ k0z 0) ≤ v1 then
    iterF (F_X10_findBest_54 k0z) (fun _ _ _ => none) FU (1 : Int32) (2 : Int32) σ
  else
    bd1 (ixo (k0z + 3) v1) fun j23 =>
    if (gI σ (k0z + 3) j23) = (0 : Int32) then
      bd1 (ixo (k0z + 20) (gI σ k0z 42)) fun j26 =>
      bd1 (some (pI σ (k0z + 20) j26 v1)) fun σ28 =>
      bd1 (some (pI σ28 k0z 42 ((gI σ28 k0z 42) + (1 : Int32)))) fun σ30 =>
      rec1 (v1 + (1 : Int32)) σ30
    else
      rec1 (v1 + (1 : Int32)) σ
def f_X10_findBest (k0 : Nat) (σ : Mem) : Option Mem :=
  bd1 (some (pI σ k0 42 (0 : Int32))) fun σ1 =>
  iterF (F_X10_findBest_7 k0) (fun _ _ => none) FU (0 : Int32) σ1
abbrev RM_X10_findBest : Room := { frames := 7, cells := 0, slots := 0, locals := 153 }
set_option maxHeartbeats 4000000 in
set_option maxRecDepth 100000 in
theorem w_X10_findBest_110 {l : Launch} {G : Gh} {p : Program} {e : Env} {s : State} {m : MethodId} {args : Array Value} {below : List Frame} {meth : Method} {c : Code} (X : Cx G p s m args meth c prog_12_method_71_code RX10 5 none) {k0z : Nat} {p1 : Int32} {p2 : Int32} (hz0 : kd k0z = 10) {σr : Mem} {rec1 : Int32 → Mem → Option Mem} (ih1 : ∀ (v2 : Int32) (σ : Mem) (H : Heap) (locs : List Loc) (ls : Array Slot), PW G σ H → va_S (AA G) s.heap H locs → lv_has ls 5 [(0, .ref (ga G k0z)), (1, .int p1), (2, .int v2)] → rec1 v2 σ = some σr → W p l e RM_X10_findBest s m args below meth c H locs 0 0 (MQ below (QG G none σr) args s 0 0 (AA G)) (F0 m 79 ls [])) : ∀ (n : Nat) (v4 : Int32) (σ : Mem) (H : Heap) (locs : List Loc) (ls : Array Slot), PW G σ H → va_S (AA G) s.heap H locs → lv_has ls 5 [(0, .ref (ga G k0z)), (1, .int p1), (2, .int p2), (4, .int v4)] → iterF (F_X10_findBest_110 k0z p1 p2 rec1) (fun _ _ => none) n v4 σ = some σr → W p l e RM_X10_findBest s m args below meth c H locs 0 0 (MQ below (QG G none σr) args s 0 0 (AA G)) (F0 m 110 ls []) := by
  have hx := X.hx
  have hb := X.hb
  intro n
  induction n with
  | zero => intro v4 σ H locs ls hP hS hl h; exact nnone (α := Mem) h
  | succ n ih2 =>
    intro v4 σ H locs ls hP hS hl h
    have h : F_X10_findBest_110 k0z p1 p2 rec1 (iterF (F_X10_findBest_110 k0z p1 p2 rec1) (fun _ _ => none) n) v4 σ = some _ := h
    unfold F_X10_findBest_110 at h
    refine lv_iload (pc := 110) hx hb dX10_findBest_110 (lv_at hl 3 rfl) ?_
    refine lv_aload_n (pc := 112) hx hb dX10_findBest_112 rfl (lv_at hl 0 rfl) ?_
    refine gt_X10_341 X hP hz0 dX10_findBest_113 ?_
    refine lv_icmp_ge (pc := 116) (tgt := 139) hx hb dX10_findBest_116 (by decide) (fun c16 => ?_) (fun c16 => ?_)
    · have h := ipos c16 h
      refine lv_iinc (pc := 139) (v := (p2 + (1 : Int32))) (lv' := [(2, .int (p2 + (1 : Int32))), (0, .ref (ga G k0z)), (1, .int p1), (4, .int v4)]) hx hb dX10_findBest_139 hl (k := 2) rfl (congrArg (fun z => p2 + z) (by decide)) (by decide) rfl (fun ls hl => ?_)
      refine lv_goto (pc := 142) (tgt := 79) hx hb dX10_findBest_142 (by decide) ?_
      exact ih1 _ _ _ _ _ hP hS (lv_sub hl [1, 2, 0] rfl) h
    · have h := ineg c16 h
      refine lv_aload_n (pc := 119) hx hb dX10_findBest_119 rfl (lv_at hl 0 rfl) ?_
      refine gt_X10_83 X hP hz0 dX10_findBest_120 ?_
      refine lv_iload (pc := 123) hx hb dX10_findBest_123 (lv_at hl 3 rfl) ?_
      refine lv_aload_n (pc := 125) hx hb dX10_findBest_125 rfl (lv_at hl 0 rfl) ?_
      refine gt_X10_80 X hP hz0 dX10_findBest_126 ?_
      refine lv_iload (pc := 129) hx hb dX10_findBest_129 (lv_at hl 3 rfl) ?_
      obtain ⟨j17, hj18, h⟩ := bnd1 h
      refine r_iald (pc := 131) X hP (kf_10_order hz0).1 hj18 dX10_findBest_131 ?_
      obtain ⟨j19, hj20, h⟩ := bnd1 h
      obtain ⟨σ21, e22, h⟩ := bnd1 h
      refine r_iast (pc := 132) X hP hS (kf_10_bestOrder hz0).1 hj20 dX10_findBest_132 (fun H locs hP hS => ?_)
      rw [Option.some.inj e22] at hP
      refine lv_iinc (pc := 133) (v := (v4 + (1 : Int32))) (lv' := [(4, .int (v4 + (1 : Int32))), (0, .ref (ga G k0z)), (1, .int p1), (2, .int p2)]) hx hb dX10_findBest_133 hl (k := 3) rfl (congrArg (fun z => v4 + z) (by decide)) (by decide) rfl (fun ls hl => ?_)
      refine lv_goto (pc := 136) (tgt := 110) hx hb dX10_findBest_136 (by decide) ?_
      exact ih2 _ _ _ _ _ hP hS (lv_sub hl [1, 2, 3, 0] rfl) h
set_option maxHeartbeats 4000000 in
set_option maxRecDepth 100000 in
theorem w_X10_findBest_79 {l : Launch} {G : Gh} {p : Program} {e : Env} {s : State} {m : MethodId} {args : Array Value} {below : List Frame} {meth : Method} {c : Code} (X : Cx G p s m args meth c prog_12_method_71_code RX10 5 none) {k0z : Nat} {p1 : Int32} (hz0 : kd k0z = 10) {σr : Mem} : ∀ (n : Nat) (v2 : Int32) (σ : Mem) (H : Heap) (locs : List Loc) (ls : Array Slot), PW G σ H → va_S (AA G) s.heap H locs → lv_has ls 5 [(0, .ref (ga G k0z)), (1, .int p1), (2, .int v2)] → iterF (F_X10_findBest_79 k0z p1) (fun _ _ => none) n v2 σ = some σr → W p l e RM_X10_findBest s m args below meth c H locs 0 0 (MQ below (QG G none σr) args s 0 0 (AA G)) (F0 m 79 ls []) := by
  have hx := X.hx
  have hb := X.hb
  intro n
  induction n with
  | zero => intro v2 σ H locs ls hP hS hl h; exact nnone (α := Mem) h
  | succ n ih1 =>
    intro v2 σ H locs ls hP hS hl h
    have h : F_X10_findBest_79 k0z p1 (iterF (F_X10_findBest_79 k0z p1) (fun _ _ => none) n) v2 σ = some _ := h
    unfold F_X10_findBest_79 at h
    refine lv_iload_n (pc := 79) hx hb dX10_findBest_79 rfl (lv_at hl 2 rfl) ?_
    refine lv_iload_n (pc := 80) hx hb dX10_findBest_80 rfl (lv_at hl 1 rfl) ?_
    refine lv_icmp_ge (pc := 81) (tgt := 145) hx hb dX10_findBest_81 (by decide) (fun c7 => ?_) (fun c7 => ?_)
    · have h := ipos c7 h
      obtain rfl := Option.some.inj h
      exact r_vret X hP hS dX10_findBest_145
    · have h := ineg c7 h
      refine lv_aload_n (pc := 84) hx hb dX10_findBest_84 rfl (lv_at hl 0 rfl) ?_
      refine lv_iload_n (pc := 85) hx hb dX10_findBest_85 rfl (lv_at hl 2 rfl) ?_
      obtain ⟨σ8, e9, h⟩ := bnd1 h
      refine cl_X10_347 X hP hS hz0 (As := [.int v2]) (rest := []) (c_X10_findOrder l G hz0 e9) ⟨rfl, rfl, Nat.le_of_ble_eq_true rfl, Nat.le_of_ble_eq_true rfl⟩ rfl hl.1 rfl (Nat.le_of_ble_eq_true rfl) ⟨Nat.zero_le _, Nat.zero_le _⟩ (pc := 86) dX10_findBest_86 (fun H locs hP hS => ?_)
      change W p l e _ s m _ below meth c H locs _ _ _ (F0 m (86 + 3) ls [])
      refine lv_aload_n (pc := 89) hx hb dX10_findBest_89 rfl (lv_at hl 0 rfl) ?_
      obtain ⟨r12, σ10, e11, h⟩ := bnd2 h
      refine cl_X10_350 X hP hS hz0 (As := []) (rest := []) (c_X10_sumOf l G hz0 e11) ⟨rfl, rfl, Nat.le_of_ble_eq_true rfl, Nat.le_of_ble_eq_true rfl⟩ rfl hl.1 rfl (Nat.le_of_ble_eq_true rfl) ⟨Nat.zero_le _, Nat.zero_le _⟩ (pc := 90) dX10_findBest_90 (fun H locs hP hS => ?_)
      change W p l e _ s m _ below meth c H locs _ _ _ (F0 m (90 + 3) ls (.int r12 :: []))
      refine lv_istore_n (pc := 93) (lv' := [(3, .int r12), (0, .ref (ga G k0z)), (1, .int p1), (2, .int v2)]) hx hb dX10_findBest_93 rfl hl (by decide) rfl (fun ls hl => ?_)
      refine lv_iload_n (pc := 94) hx hb dX10_findBest_94 rfl (lv_at hl 0 rfl) ?_
      refine lv_aload_n (pc := 95) hx hb dX10_findBest_95 rfl (lv_at hl 1 rfl) ?_
      refine gt_X10_344 X hP hz0 dX10_findBest_96 ?_
      refine lv_icmp_le (pc := 99) (tgt := 139) hx hb dX10_findBest_99 (by decide) (fun c13 => ?_) (fun c13 => ?_)
      · have h := ipos c13 h
        refine lv_iinc (pc := 139) (v := (v2 + (1 : Int32))) (lv' := [(2, .int (v2 + (1 : Int32))), (3, .int r12), (0, .ref (ga G k0z)), (1, .int p1)]) hx hb dX10_findBest_139 hl (k := 3) rfl (congrArg (fun z => v2 + z) (by decide)) (by decide) rfl (fun ls hl => ?_)
        refine lv_goto (pc := 142) (tgt := 79) hx hb dX10_findBest_142 (by decide) ?_
        exact ih1 _ _ _ _ _ hP hS (lv_sub hl [2, 3, 0] rfl) h
      · have h := ineg c13 h
        refine lv_aload_n (pc := 102) hx hb dX10_findBest_102 rfl (lv_at hl 1 rfl) ?_
        refine lv_iload_n (pc := 103) hx hb dX10_findBest_103 rfl (lv_at hl 0 rfl) ?_
        obtain ⟨σ14, e15, h⟩ := bnd1 h
        refine pt_X10_344 X hP hS hz0 dX10_findBest_104 (fun H locs hP hS => ?_)
        rw [Option.some.inj e15] at hP
        refine lv_iconst (pc := 107) (v := 0) hx hb dX10_findBest_107 (by decide) ?_
        refine lv_istore (pc := 108) (lv' := [(4, .int (0 : Int32)), (3, .int r12), (0, .ref (ga G k0z)), (1, .int p1), (2, .int v2)]) hx hb dX10_findBest_108 hl (by decide) rfl (fun ls hl => ?_)
        exact w_X10_findBest_110 X  hz0 ih1 FU _ _ _ _ _ hP hS (lv_sub hl [2, 3, 4, 0] rfl) h
set_option maxHeartbeats 4000000 in
set_option maxRecDepth 100000 in
theorem w_X10_findBest_54 {l : Launch} {G : Gh} {p : Program} {e : Env} {s : State} {m : MethodId} {args : Array Value} {below : List Frame} {meth : Method} {c : Code} (X : Cx G p s m args meth c prog_12_method_71_code RX10 5 none) {k0z : Nat} (hz0 : kd k0z = 10) {σr : Mem} : ∀ (n : Nat) (v1 : Int32) (v2 : Int32) (σ : Mem) (H : Heap) (locs : List Loc) (ls : Array Slot), PW G σ H → va_S (AA G) s.heap H locs → lv_has ls 5 [(0, .ref (ga G k0z)), (1, .int v1), (2, .int v2)] → iterF (F_X10_findBest_54 k0z) (fun _ _ _ => none) n v1 v2 σ = some σr → W p l e RM_X10_findBest s m args below meth c H locs 0 0 (MQ below (QG G none σr) args s 0 0 (AA G)) (F0 m 54 ls []) := by
  have hx := X.hx
  have hb := X.hb
  intro n
  induction n with
  | zero => intro v1 v2 σ H locs ls hP hS hl h; exact nnone (α := Mem) h
  | succ n ih1 =>
    intro v1 v2 σ H locs ls hP hS hl h
    have h : F_X10_findBest_54 k0z (iterF (F_X10_findBest_54 k0z) (fun _ _ _ => none) n) v1 v2 σ = some _ := h
    unfold F_X10_findBest_54 at h
    refine lv_iload_n (pc := 54) hx hb dX10_findBest_54 rfl (lv_at hl 2 rfl) ?_
    refine lv_aload_n (pc := 55) hx hb dX10_findBest_55 rfl (lv_at hl 0 rfl) ?_
    refine gt_X10_341 X hP hz0 dX10_findBest_56 ?_
    refine lv_icmp_gt (pc := 59) (tgt := 72) hx hb dX10_findBest_59 (by decide) (fun c4 => ?_) (fun c4 => ?_)
    · have h := ipos c4 h
      refine lv_aload_n (pc := 72) hx hb dX10_findBest_72 rfl (lv_at hl 0 rfl) ?_
      refine lv_iconst (pc := 73) (v := (-1)) hx hb dX10_findBest_73 (by decide) ?_
      obtain ⟨σ5, e6, h⟩ := bnd1 h
      refine pt_X10_344 X hP hS hz0 dX10_findBest_74 (fun H locs hP hS => ?_)
      rw [Option.some.inj e6] at hP
      refine lv_iconst (pc := 77) (v := 0) hx hb dX10_findBest_77 (by decide) ?_
      refine lv_istore_n (pc := 78) (lv' := [(2, .int (0 : Int32)), (0, .ref (ga G k0z)), (1, .int v1)]) hx hb dX10_findBest_78 rfl hl (by decide) rfl (fun ls hl => ?_)
      exact w_X10_findBest_79 X  hz0  FU _ _ _ _ _ hP hS (lv_sub hl [1, 2, 0] rfl) h
    · have h := ineg c4 h
      refine lv_iload_n (pc := 62) hx hb dX10_findBest_62 rfl (lv_at hl 1 rfl) ?_
      refine lv_iload_n (pc := 63) hx hb dX10_findBest_63 rfl (lv_at hl 2 rfl) ?_
      refine lv_imul (pc := 64) hx hb dX10_findBest_64 ?_
      refine lv_istore_n (pc := 65) (lv' := [(1, .int (v1 * v2)), (0, .ref (ga G k0z)), (2, .int v2)]) hx hb dX10_findBest_65 rfl hl (by decide) rfl (fun ls hl => ?_)
      refine lv_iinc (pc := 66) (v := (v2 + (1 : Int32))) (lv' := [(2, .int (v2 + (1 : Int32))), (1, .int (v1 * v2)), (0, .ref (ga G k0z))]) hx hb dX10_findBest_66 hl (k := 2) rfl (congrArg (fun z => v2 + z) (by decide)) (by decide) rfl (fun ls hl => ?_)
      refine lv_goto (pc := 69) (tgt := 54) hx hb dX10_findBest_69 (by decide) ?_
      exact ih1 _ _ _ _ _ _ hP hS (lv_sub hl [2, 1, 0] rfl) h
set_option maxHeartbeats 4000000 in
set_option maxRecDepth 100000 in
theorem w_X10_findBest_7 {l : Launch} {G : Gh} {p : Program} {e : Env} {s : State} {m : MethodId} {args : Array Value} {below : List Frame} {meth : Method} {c : Code} (X : Cx G p s m args meth c prog_12_method_71_code RX10 5 none) {k0z : Nat} (hz0 : kd k0z = 10) {σr : Mem} : ∀ (n : Nat) (v1 : Int32) (σ : Mem) (H : Heap) (locs : List Loc) (ls : Array Slot), PW G σ H → va_S (AA G) s.heap H locs → lv_has ls 5 [(0, .ref (ga G k0z)), (1, .int v1)] → iterF (F_X10_findBest_7 k0z) (fun _ _ => none) n v1 σ = some σr → W p l e RM_X10_findBest s m args below meth c H locs 0 0 (MQ below (QG G none σr) args s 0 0 (AA G)) (F0 m 7 ls []) := by
  have hx := X.hx
  have hb := X.hb
  intro n
  induction n with
  | zero => intro v1 σ H locs ls hP hS hl h; exact nnone (α := Mem) h
  | succ n ih1 =>
    intro v1 σ H locs ls hP hS hl h
    have h : F_X10_findBest_7 k0z (iterF (F_X10_findBest_7 k0z) (fun _ _ => none) n) v1 σ = some _ := h
    unfold F_X10_findBest_7 at h
    refine lv_iload_n (pc := 7) hx hb dX10_findBest_7 rfl (lv_at hl 1 rfl) ?_
    refine lv_aload_n (pc := 8) hx hb dX10_findBest_8 rfl (lv_at hl 0 rfl) ?_
    refine gt_X10_117 X hP hz0 dX10_findBest_9 ?_
    refine lv_icmp_ge (pc := 12) (tgt := 50) hx hb dX10_findBest_12 (by decide) (fun c3 => ?_) (fun c3 => ?_)
    · have h := ipos c3 h
      refine lv_iconst (pc := 50) (v := 1) hx hb dX10_findBest_50 (by decide) ?_
      refine lv_istore_n (pc := 51) (lv' := [(1, .int (1 : Int32)), (0, .ref (ga G k0z))]) hx hb dX10_findBest_51 rfl hl (by decide) rfl (fun ls hl => ?_)
      refine lv_iconst (pc := 52) (v := 2) hx hb dX10_findBest_52 (by decide) ?_
      refine lv_istore_n (pc := 53) (lv' := [(2, .int (2 : Int32)), (1, .int (1 : Int32)), (0, .ref (ga G k0z))]) hx hb dX10_findBest_53 rfl hl (by decide) rfl (fun ls hl => ?_)
      exact w_X10_findBest_54 X  hz0  FU _ _ _ _ _ _ hP hS (lv_sub hl [2, 1, 0] rfl) h
    · have h := ineg c3 h
      refine lv_aload_n (pc := 15) hx hb dX10_findBest_15 rfl (lv_at hl 0 rfl) ?_
      refine gt_X10_16 X hP hz0 dX10_findBest_16 ?_
      refine lv_iload_n (pc := 19) hx hb dX10_findBest_19 rfl (lv_at hl 1 rfl) ?_
      obtain ⟨j23, hj24, h⟩ := bnd1 h
      refine r_iald (pc := 20) X hP (kf_10_sold hz0).1 hj24 dX10_findBest_20 ?_
      refine lv_if_ne (pc := 21) (tgt := 44) hx hb dX10_findBest_21 (by decide) (fun c25 => ?_) (fun c25 => ?_)
      · have h := ineg c25 h
        refine lv_iinc (pc := 44) (v := (v1 + (1 : Int32))) (lv' := [(1, .int (v1 + (1 : Int32))), (0, .ref (ga G k0z))]) hx hb dX10_findBest_44 hl (k := 1) rfl (congrArg (fun z => v1 + z) (by decide)) (by decide) rfl (fun ls hl => ?_)
        refine lv_goto (pc := 47) (tgt := 7) hx hb dX10_findBest_47 (by decide) ?_
        exact ih1 _ _ _ _ _ hP hS (lv_sub hl [1, 0] rfl) h
      · have h := ipos c25 h
        refine lv_aload_n (pc := 24) hx hb dX10_findBest_24 rfl (lv_at hl 0 rfl) ?_
        refine gt_X10_77 X hP hz0 dX10_findBest_25 ?_
        refine lv_aload_n (pc := 28) hx hb dX10_findBest_28 rfl (lv_at hl 0 rfl) ?_
        refine gt_X10_341 X hP hz0 dX10_findBest_29 ?_
        refine lv_iload_n (pc := 32) hx hb dX10_findBest_32 rfl (lv_at hl 1 rfl) ?_
        obtain ⟨j26, hj27, h⟩ := bnd1 h
        obtain ⟨σ28, e29, h⟩ := bnd1 h
        refine r_iast (pc := 33) X hP hS (kf_10_free hz0).1 hj27 dX10_findBest_33 (fun H locs hP hS => ?_)
        rw [Option.some.inj e29] at hP
        refine lv_aload_n (pc := 34) hx hb dX10_findBest_34 rfl (lv_at hl 0 rfl) ?_
        refine lv_dup (pc := 35) hx hb dX10_findBest_35 rfl ?_
        refine gt_X10_341 X hP hz0 dX10_findBest_36 ?_
        refine lv_iconst (pc := 39) (v := 1) hx hb dX10_findBest_39 (by decide) ?_
        refine lv_iadd (pc := 40) hx hb dX10_findBest_40 ?_
        obtain ⟨σ30, e31, h⟩ := bnd1 h
        refine pt_X10_341 X hP hS hz0 dX10_findBest_41 (fun H locs hP hS => ?_)
        rw [Option.some.inj e31] at hP
        refine lv_iinc (pc := 44) (v := (v1 + (1 : Int32))) (lv' := [(1, .int (v1 + (1 : Int32))), (0, .ref (ga G k0z))]) hx hb dX10_findBest_44 hl (k := 1) rfl (congrArg (fun z => v1 + z) (by decide)) (by decide) rfl (fun ls hl => ?_)
        refine lv_goto (pc := 47) (tgt := 7) hx hb dX10_findBest_47 (by decide) ?_
        exact ih1 _ _ _ _ _ hP hS (lv_sub hl [1, 0] rfl) h
set_option maxHeartbeats 4000000 in
set_option maxRecDepth 100000 in
theorem c_X10_findBest (l : Launch) (G : Gh) {k0 : Nat} {σ : Mem} {σr : Mem} (hk0 : kd k0 = 10) (h : f_X10_findBest k0 σ = some σr) : Met l yX10_findBest [Cond.code yX10_findBest prog_12_method_71_code 5 none] RM_X10_findBest (va_Pc [.ref (ga G k0)] (Pre G σ)) (QG G none σr) 0 0 (AA G) := by
  refine ct_of (by decide) (fun p e s m below meth c X hP => ?_)
  have hx := X.hx
  have hb := X.hb
  have hS : va_S (AA G) s.heap s.heap [] := va_S.rf
  have hl := lv_entry ([.ref (ga G k0)]) (n := 5) (Nat.le_of_ble_eq_true rfl)
  rw [lg_entry_eq]
  generalize (lg_sl ([.ref (ga G k0)]) ++ List.replicate (5 - (lg_sl ([.ref (ga G k0)])).length) Slot.unset).toArray = ls at hl ⊢
  have hl : lv_has ls 5 [(0, .ref (ga G k0))] := hl
  unfold f_X10_findBest at h
  refine lv_aload_n (pc := 0) hx hb dX10_findBest_0 rfl (lv_at hl 0 rfl) ?_
  refine lv_iconst (pc := 1) (v := 0) hx hb dX10_findBest_1 (by decide) ?_
  obtain ⟨σ1, e2, h⟩ := bnd1 h
  refine pt_X10_341 X hP hS hk0 dX10_findBest_2 (fun H locs hP hS => ?_)
  rw [Option.some.inj e2] at hP
  refine lv_iconst (pc := 5) (v := 0) hx hb dX10_findBest_5 (by decide) ?_
  refine lv_istore_n (pc := 6) (lv' := [(1, .int (0 : Int32)), (0, .ref (ga G k0))]) hx hb dX10_findBest_6 rfl hl (by decide) rfl (fun ls hl => ?_)
  exact w_X10_findBest_7 X  hk0  FU _ _ _ _ _ hP hS (lv_sub hl [1, 0] rfl) h
def F_X10_order_17 (k0z : Nat) (v1 : Int32) (σ : Mem) : Option (Int32 × Mem) :=
  bd1 (f_X10_findBest k0z σ) fun σ2 =>
  if (gI σ2 k0z 42) = (0 : Int32) then
    some ((-3 : Int32), σ2)
  else
    if v1 = (0 : Int32) then
      some ((gI σ2 k0z 43), σ2)
    else
      if (gI σ2 k0z 42) ≤ (v1 - (10 : Int32)) then
        some ((-3 : Int32), σ2)
      else
        bd1 (ixo (k0z + 22) (v1 - (10 : Int32))) fun j7 =>
        some ((gI σ2 (k0z + 22) j7), σ2)
def f_X10_order (k0 : Nat) (a1 : Int32) (σ : Mem) : Option (Int32 × Mem) :=
  if a1 = (0 : Int32) then
    F_X10_order_17 k0 a1 σ
  else
    bd2 (f_X10_in a1 (10 : Int32) (14 : Int32) σ) fun r11 σ9 =>
    if r11 = (0 : Int32) then
      some ((-1 : Int32), σ9)
    else
      F_X10_order_17 k0 a1 σ9
abbrev RM_X10_order : Room := { frames := 8, cells := 0, slots := 0, locals := 177 }
set_option maxHeartbeats 4000000 in
set_option maxRecDepth 100000 in
theorem w_X10_order_17 {l : Launch} {G : Gh} {p : Program} {e : Env} {s : State} {m : MethodId} {args : Array Value} {below : List Frame} {meth : Method} {c : Code} (X : Cx G p s m args meth c prog_12_method_72_code RX10 2 (some .int)) {k0z : Nat} (hz0 : kd k0z = 10) {rr : Int32} {σr : Mem} : ∀ (v1 : Int32) (σ : Mem) (H : Heap) (locs : List Loc) (ls : Array Slot), PW G σ H → va_S (AA G) s.heap H locs → lv_has ls 2 [(0, .ref (ga G k0z)), (1, .int v1)] → F_X10_order_17 k0z v1 σ = some (rr, σr) → W p l e RM_X10_order s m args below meth c H locs 0 0 (MQ below (QG G (some (.int rr)) σr) args s 0 0 (AA G)) (F0 m 17 ls []) := by
  have hx := X.hx
  have hb := X.hb
  intro v1 σ H locs ls hP hS hl h
  unfold F_X10_order_17 at h
  refine lv_aload_n (pc := 17) hx hb dX10_order_17 rfl (lv_at hl 0 rfl) ?_
  obtain ⟨σ2, e3, h⟩ := bnd1 h
  refine cl_X10_353 X hP hS hz0 (As := []) (rest := []) (c_X10_findBest l G hz0 e3) ⟨rfl, rfl, Nat.le_of_ble_eq_true rfl, Nat.le_of_ble_eq_true rfl⟩ rfl hl.1 rfl (Nat.le_of_ble_eq_true rfl) ⟨Nat.zero_le _, Nat.zero_le _⟩ (pc := 18) dX10_order_18 (fun H locs hP hS => ?_)
  change W p l e _ s m _ below meth c H locs _ _ _ (F0 m (18 + 3) ls [])
  refine lv_aload_n (pc := 21) hx hb dX10_order_21 rfl (lv_at hl 0 rfl) ?_
  refine gt_X10_341 X hP hz0 dX10_order_22 ?_
  refine lv_if_ne (pc := 25) (tgt := 31) hx hb dX10_order_25 (by decide) (fun c4 => ?_) (fun c4 => ?_)
  · have h := ineg c4 h
    refine lv_iload_n (pc := 31) hx hb dX10_order_31 rfl (lv_at hl 1 rfl) ?_
    refine lv_if_ne (pc := 32) (tgt := 42) hx hb dX10_order_32 (by decide) (fun c5 => ?_) (fun c5 => ?_)
    · have h := ineg c5 h
      refine lv_iload_n (pc := 42) hx hb dX10_order_42 rfl (lv_at hl 1 rfl) ?_
      refine lv_bipush (pc := 43) (v := (10)) hx hb dX10_order_43 (by decide) ?_
      refine lv_isub (pc := 45) hx hb dX10_order_45 ?_
      refine lv_aload_n (pc := 46) hx hb dX10_order_46 rfl (lv_at hl 0 rfl) ?_
      refine gt_X10_341 X hP hz0 dX10_order_47 ?_
      refine lv_icmp_ge (pc := 50) (tgt := 65) hx hb dX10_order_50 (by decide) (fun c6 => ?_) (fun c6 => ?_)
      · have h := ipos c6 h
        refine lv_bipush (pc := 65) (v := (-3)) hx hb dX10_order_65 (by decide) ?_
        obtain ⟨rfl, rfl⟩ := inj2 h
        exact r_iret X hP hS dX10_order_67
      · have h := ineg c6 h
        refine lv_aload_n (pc := 53) hx hb dX10_order_53 rfl (lv_at hl 0 rfl) ?_
        refine gt_X10_83 X hP hz0 dX10_order_54 ?_
        refine lv_iload_n (pc := 57) hx hb dX10_order_57 rfl (lv_at hl 1 rfl) ?_
        refine lv_bipush (pc := 58) (v := (10)) hx hb dX10_order_58 (by decide) ?_
        refine lv_isub (pc := 60) hx hb dX10_order_60 ?_
        obtain ⟨j7, hj8, h⟩ := bnd1 h
        refine r_iald (pc := 61) X hP (kf_10_bestOrder hz0).1 hj8 dX10_order_61 ?_
        refine lv_goto (pc := 62) (tgt := 67) hx hb dX10_order_62 (by decide) ?_
        obtain ⟨rfl, rfl⟩ := inj2 h
        exact r_iret X hP hS dX10_order_67
    · have h := ipos c5 h
      refine lv_aload_n (pc := 35) hx hb dX10_order_35 rfl (lv_at hl 0 rfl) ?_
      refine gt_X10_344 X hP hz0 dX10_order_36 ?_
      refine lv_goto (pc := 39) (tgt := 67) hx hb dX10_order_39 (by decide) ?_
      obtain ⟨rfl, rfl⟩ := inj2 h
      exact r_iret X hP hS dX10_order_67
  · have h := ipos c4 h
    refine lv_bipush (pc := 28) (v := (-3)) hx hb dX10_order_28 (by decide) ?_
    obtain ⟨rfl, rfl⟩ := inj2 h
    exact r_iret X hP hS dX10_order_30
set_option maxHeartbeats 4000000 in
set_option maxRecDepth 100000 in
theorem c_X10_order (l : Launch) (G : Gh) {k0 : Nat} {a1 : Int32} {σ : Mem} {rr : Int32} {σr : Mem} (hk0 : kd k0 = 10) (h : f_X10_order k0 a1 σ = some (rr, σr)) : Met l yX10_order [Cond.code yX10_order prog_12_method_72_code 2 (some .int)] RM_X10_order (va_Pc [.ref (ga G k0), .int a1] (Pre G σ)) (QG G (some (.int rr)) σr) 0 0 (AA G) := by
  refine ct_of (by decide) (fun p e s m below meth c X hP => ?_)
  have hx := X.hx
  have hb := X.hb
  have hS : va_S (AA G) s.heap s.heap [] := va_S.rf
  have hl := lv_entry ([.ref (ga G k0), .int a1]) (n := 2) (Nat.le_of_ble_eq_true rfl)
  rw [lg_entry_eq]
  generalize (lg_sl ([.ref (ga G k0), .int a1]) ++ List.replicate (2 - (lg_sl ([.ref (ga G k0), .int a1])).length) Slot.unset).toArray = ls at hl ⊢
  have hl : lv_has ls 2 [(0, .ref (ga G k0)), (1, .int a1)] := hl
  unfold f_X10_order at h
  refine lv_iload_n (pc := 0) hx hb dX10_order_0 rfl (lv_at hl 1 rfl) ?_
  refine lv_if_eq (pc := 1) (tgt := 17) hx hb dX10_order_1 (by decide) (fun c1 => ?_) (fun c1 => ?_)
  · have h := ipos c1 h
    exact w_X10_order_17 X  hk0  _ _ _ _ _ hP hS (lv_sub hl [0, 1] rfl) h
  · have h := ineg c1 h
    refine lv_iload_n (pc := 4) hx hb dX10_order_4 rfl (lv_at hl 1 rfl) ?_
    refine lv_bipush (pc := 5) (v := (10)) hx hb dX10_order_5 (by decide) ?_
    refine lv_bipush (pc := 7) (v := (14)) hx hb dX10_order_7 (by decide) ?_
    obtain ⟨r11, σ9, e10, h⟩ := bnd2 h
    refine cl_X10_120 X hP hS (As := [.int a1, .int (10 : Int32), .int (14 : Int32)]) (rest := []) (c_X10_in l G  e10) ⟨rfl, rfl, Nat.le_of_ble_eq_true rfl, Nat.le_of_ble_eq_true rfl⟩ rfl hl.1 rfl (Nat.le_of_ble_eq_true rfl) ⟨Nat.zero_le _, Nat.zero_le _⟩ (pc := 9) dX10_order_9 (fun H locs hP hS => ?_)
    change W p l e _ s m _ below meth c H locs _ _ _ (F0 m (9 + 3) ls (.int r11 :: []))
    refine lv_if_ne (pc := 12) (tgt := 17) hx hb dX10_order_12 (by decide) (fun c12 => ?_) (fun c12 => ?_)
    · have h := ineg c12 h
      exact w_X10_order_17 X  hk0  _ _ _ _ _ hP hS (lv_sub hl [0, 1] rfl) h
    · have h := ipos c12 h
      refine lv_iconst (pc := 15) (v := (-1)) hx hb dX10_order_15 (by decide) ?_
      obtain ⟨rfl, rfl⟩ := inj2 h
      exact r_iret X hP hS dX10_order_16
def F_X10_most_15 (k0z : Nat) (p1 : Int32) (rec1 : Int32 → Int32 → Mem → Option (Int32 × Mem)) : Int32 → Int32 → Mem → Option (Int32 × Mem) := fun v2 v3 σ =>
  if (gI σ k0z 8) ≤ v3 then
    some (v2, σ)
  else
    if v2 < (0 : Int32) then
      rec1 v3 (v3 + (1 : Int32)) σ
    else
      bd2 (f_X10_limitOf k0z v3 p1 σ) fun r9 σ7 =>
      bd2 (f_X10_limitOf k0z v2 p1 σ7) fun r12 σ10 =>
      if r9 ≤ r12 then
        rec1 v2 (v3 + (1 : Int32)) σ10
      else
        rec1 v3 (v3 + (1 : Int32)) σ10
def f_X10_most (k0 : Nat) (a1 : Int32) (σ : Mem) : Option (Int32 × Mem) :=
  bd2 (f_X10_isLot k0 a1 σ) fun r3 σ1 =>
  if r3 = (0 : Int32) then
    some ((-1 : Int32), σ1)
  else
    iterF (F_X10_most_15 k0 a1) (fun _ _ _ => none) FU (-3 : Int32) (0 : Int32) σ1
abbrev RM_X10_most : Room := { frames := 2, cells := 0, slots := 0, locals := 45 }
set_option maxHeartbeats 4000000 in
set_option maxRecDepth 100000 in
theorem w_X10_most_15 {l : Launch} {G : Gh} {p : Program} {e : Env} {s : State} {m : MethodId} {args : Array Value} {below : List Frame} {meth : Method} {c : Code} (X : Cx G p s m args meth c prog_12_method_73_code RX10 4 (some .int)) {k0z : Nat} {p1 : Int32} (hz0 : kd k0z = 10) {rr : Int32} {σr : Mem} : ∀ (n : Nat) (v2 : Int32) (v3 : Int32) (σ : Mem) (H : Heap) (locs : List Loc) (ls : Array Slot), PW G σ H → va_S (AA G) s.heap H locs → lv_has ls 4 [(0, .ref (ga G k0z)), (1, .int p1), (2, .int v2), (3, .int v3)] → iterF (F_X10_most_15 k0z p1) (fun _ _ _ => none) n v2 v3 σ = some (rr, σr) → W p l e RM_X10_most s m args below meth c H locs 0 0 (MQ below (QG G (some (.int rr)) σr) args s 0 0 (AA G)) (F0 m 15 ls []) := by
  have hx := X.hx
  have hb := X.hb
  intro n
  induction n with
  | zero => intro v2 v3 σ H locs ls hP hS hl h; exact nnone (α := (Int32 × Mem)) h
  | succ n ih1 =>
    intro v2 v3 σ H locs ls hP hS hl h
    have h : F_X10_most_15 k0z p1 (iterF (F_X10_most_15 k0z p1) (fun _ _ _ => none) n) v2 v3 σ = some _ := h
    unfold F_X10_most_15 at h
    refine lv_iload_n (pc := 15) hx hb dX10_most_15 rfl (lv_at hl 3 rfl) ?_
    refine lv_aload_n (pc := 16) hx hb dX10_most_16 rfl (lv_at hl 0 rfl) ?_
    refine gt_X10_128 X hP hz0 dX10_most_17 ?_
    refine lv_icmp_ge (pc := 20) (tgt := 54) hx hb dX10_most_20 (by decide) (fun c5 => ?_) (fun c5 => ?_)
    · have h := ipos c5 h
      refine lv_iload_n (pc := 54) hx hb dX10_most_54 rfl (lv_at hl 2 rfl) ?_
      obtain ⟨rfl, rfl⟩ := inj2 h
      exact r_iret X hP hS dX10_most_55
    · have h := ineg c5 h
      refine lv_iload_n (pc := 23) hx hb dX10_most_23 rfl (lv_at hl 2 rfl) ?_
      refine lv_if_lt (pc := 24) (tgt := 42) hx hb dX10_most_24 (by decide) (fun c6 => ?_) (fun c6 => ?_)
      · have h := ipos c6 h
        refine lv_iload_n (pc := 42) hx hb dX10_most_42 rfl (lv_at hl 3 rfl) ?_
        refine lv_goto (pc := 43) (tgt := 47) hx hb dX10_most_43 (by decide) ?_
        refine lv_istore_n (pc := 47) (lv' := [(2, .int v3), (0, .ref (ga G k0z)), (1, .int p1), (3, .int v3)]) hx hb dX10_most_47 rfl hl (by decide) rfl (fun ls hl => ?_)
        refine lv_iinc (pc := 48) (v := (v3 + (1 : Int32))) (lv' := [(3, .int (v3 + (1 : Int32))), (2, .int v3), (0, .ref (ga G k0z)), (1, .int p1)]) hx hb dX10_most_48 hl (k := 3) rfl (congrArg (fun z => v3 + z) (by decide)) (by decide) rfl (fun ls hl => ?_)
        refine lv_goto (pc := 51) (tgt := 15) hx hb dX10_most_51 (by decide) ?_
        exact ih1 _ _ _ _ _ _ hP hS (lv_sub hl [2, 3, 1, 0] rfl) h
      · have h := ineg c6 h
        refine lv_aload_n (pc := 27) hx hb dX10_most_27 rfl (lv_at hl 0 rfl) ?_
        refine lv_iload_n (pc := 28) hx hb dX10_most_28 rfl (lv_at hl 3 rfl) ?_
        refine lv_iload_n (pc := 29) hx hb dX10_most_29 rfl (lv_at hl 1 rfl) ?_
        obtain ⟨r9, σ7, e8, h⟩ := bnd2 h
        refine cl_X10_280 X hP hS hz0 (As := [.int v3, .int p1]) (rest := []) (c_X10_limitOf l G hz0 e8) ⟨rfl, rfl, Nat.le_of_ble_eq_true rfl, Nat.le_of_ble_eq_true rfl⟩ rfl hl.1 rfl (Nat.le_of_ble_eq_true rfl) ⟨Nat.zero_le _, Nat.zero_le _⟩ (pc := 30) dX10_most_30 (fun H locs hP hS => ?_)
        change W p l e _ s m _ below meth c H locs _ _ _ (F0 m (30 + 3) ls (.int r9 :: []))
        refine lv_aload_n (pc := 33) hx hb dX10_most_33 rfl (lv_at hl 0 rfl) ?_
        refine lv_iload_n (pc := 34) hx hb dX10_most_34 rfl (lv_at hl 2 rfl) ?_
        refine lv_iload_n (pc := 35) hx hb dX10_most_35 rfl (lv_at hl 1 rfl) ?_
        obtain ⟨r12, σ10, e11, h⟩ := bnd2 h
        refine cl_X10_280 X hP hS hz0 (As := [.int v2, .int p1]) (rest := [.int r9]) (c_X10_limitOf l G hz0 e11) ⟨rfl, rfl, Nat.le_of_ble_eq_true rfl, Nat.le_of_ble_eq_true rfl⟩ rfl hl.1 rfl (Nat.le_of_ble_eq_true rfl) ⟨Nat.zero_le _, Nat.zero_le _⟩ (pc := 36) dX10_most_36 (fun H locs hP hS => ?_)
        change W p l e _ s m _ below meth c H locs _ _ _ (F0 m (36 + 3) ls (.int r12 :: [.int r9]))
        refine lv_icmp_le (pc := 39) (tgt := 46) hx hb dX10_most_39 (by decide) (fun c13 => ?_) (fun c13 => ?_)
        · have h := ipos c13 h
          refine lv_iload_n (pc := 46) hx hb dX10_most_46 rfl (lv_at hl 2 rfl) ?_
          refine lv_istore_n (pc := 47) (lv' := [(2, .int v2), (0, .ref (ga G k0z)), (1, .int p1), (3, .int v3)]) hx hb dX10_most_47 rfl hl (by decide) rfl (fun ls hl => ?_)
          refine lv_iinc (pc := 48) (v := (v3 + (1 : Int32))) (lv' := [(3, .int (v3 + (1 : Int32))), (2, .int v2), (0, .ref (ga G k0z)), (1, .int p1)]) hx hb dX10_most_48 hl (k := 3) rfl (congrArg (fun z => v3 + z) (by decide)) (by decide) rfl (fun ls hl => ?_)
          refine lv_goto (pc := 51) (tgt := 15) hx hb dX10_most_51 (by decide) ?_
          exact ih1 _ _ _ _ _ _ hP hS (lv_sub hl [2, 3, 1, 0] rfl) h
        · have h := ineg c13 h
          refine lv_iload_n (pc := 42) hx hb dX10_most_42 rfl (lv_at hl 3 rfl) ?_
          refine lv_goto (pc := 43) (tgt := 47) hx hb dX10_most_43 (by decide) ?_
          refine lv_istore_n (pc := 47) (lv' := [(2, .int v3), (0, .ref (ga G k0z)), (1, .int p1), (3, .int v3)]) hx hb dX10_most_47 rfl hl (by decide) rfl (fun ls hl => ?_)
          refine lv_iinc (pc := 48) (v := (v3 + (1 : Int32))) (lv' := [(3, .int (v3 + (1 : Int32))), (2, .int v3), (0, .ref (ga G k0z)), (1, .int p1)]) hx hb dX10_most_48 hl (k := 3) rfl (congrArg (fun z => v3 + z) (by decide)) (by decide) rfl (fun ls hl => ?_)
          refine lv_goto (pc := 51) (tgt := 15) hx hb dX10_most_51 (by decide) ?_
          exact ih1 _ _ _ _ _ _ hP hS (lv_sub hl [2, 3, 1, 0] rfl) h
set_option maxHeartbeats 4000000 in
set_option maxRecDepth 100000 in
theorem c_X10_most (l : Launch) (G : Gh) {k0 : Nat} {a1 : Int32} {σ : Mem} {rr : Int32} {σr : Mem} (hk0 : kd k0 = 10) (h : f_X10_most k0 a1 σ = some (rr, σr)) : Met l yX10_most [Cond.code yX10_most prog_12_method_73_code 4 (some .int)] RM_X10_most (va_Pc [.ref (ga G k0), .int a1] (Pre G σ)) (QG G (some (.int rr)) σr) 0 0 (AA G) := by
  refine ct_of (by decide) (fun p e s m below meth c X hP => ?_)
  have hx := X.hx
  have hb := X.hb
  have hS : va_S (AA G) s.heap s.heap [] := va_S.rf
  have hl := lv_entry ([.ref (ga G k0), .int a1]) (n := 4) (Nat.le_of_ble_eq_true rfl)
  rw [lg_entry_eq]
  generalize (lg_sl ([.ref (ga G k0), .int a1]) ++ List.replicate (4 - (lg_sl ([.ref (ga G k0), .int a1])).length) Slot.unset).toArray = ls at hl ⊢
  have hl : lv_has ls 4 [(0, .ref (ga G k0)), (1, .int a1)] := hl
  unfold f_X10_most at h
  refine lv_aload_n (pc := 0) hx hb dX10_most_0 rfl (lv_at hl 0 rfl) ?_
  refine lv_iload_n (pc := 1) hx hb dX10_most_1 rfl (lv_at hl 1 rfl) ?_
  obtain ⟨r3, σ1, e2, h⟩ := bnd2 h
  refine cl_X10_124 X hP hS hk0 (As := [.int a1]) (rest := []) (c_X10_isLot l G hk0 e2) ⟨rfl, rfl, Nat.le_of_ble_eq_true rfl, Nat.le_of_ble_eq_true rfl⟩ rfl hl.1 rfl (Nat.le_of_ble_eq_true rfl) ⟨Nat.zero_le _, Nat.zero_le _⟩ (pc := 2) dX10_most_2 (fun H locs hP hS => ?_)
  change W p l e _ s m _ below meth c H locs _ _ _ (F0 m (2 + 3) ls (.int r3 :: []))
  refine lv_if_ne (pc := 5) (tgt := 10) hx hb dX10_most_5 (by decide) (fun c4 => ?_) (fun c4 => ?_)
  · have h := ineg c4 h
    refine lv_bipush (pc := 10) (v := (-3)) hx hb dX10_most_10 (by decide) ?_
    refine lv_istore_n (pc := 12) (lv' := [(2, .int (-3 : Int32)), (0, .ref (ga G k0)), (1, .int a1)]) hx hb dX10_most_12 rfl hl (by decide) rfl (fun ls hl => ?_)
    refine lv_iconst (pc := 13) (v := 0) hx hb dX10_most_13 (by decide) ?_
    refine lv_istore_n (pc := 14) (lv' := [(3, .int (0 : Int32)), (2, .int (-3 : Int32)), (0, .ref (ga G k0)), (1, .int a1)]) hx hb dX10_most_14 rfl hl (by decide) rfl (fun ls hl => ?_)
    exact w_X10_most_15 X  hk0  FU _ _ _ _ _ _ hP hS (lv_sub hl [2, 3, 1, 0] rfl) h
  · have h := ipos c4 h
    refine lv_iconst (pc := 8) (v := (-1)) hx hb dX10_most_8 (by decide) ?_
    obtain ⟨rfl, rfl⟩ := inj2 h
    exact r_iret X hP hS dX10_most_9
def F_X10_owed_30 (k0z : Nat) (rec1 : Int32 → Int32 → Mem → Option (Int32 × Mem)) : Int32 → Int32 → Mem → Option (Int32 × Mem) := fun v2 v3 σ =>
  if (gI σ k0z 0) ≤ v3 then
    some (v2, σ)
  else
    bd1 (ixo (k0z + 3) v3) fun j3 =>
    if (gI σ (k0z + 3) j3) = (1 : Int32) then
      bd1 (ixo (k0z + 4) v3) fun j6 =>
      rec1 (v2 + (gI σ (k0z + 4) j6)) (v3 + (1 : Int32)) σ
    else
      rec1 (v2 + (0 : Int32)) (v3 + (1 : Int32)) σ
def F_X10_owed_71 (k0z : Nat) (rec1 : Int32 → Int32 → Mem → Option (Int32 × Mem)) : Int32 → Int32 → Mem → Option (Int32 × Mem) := fun v2 v3 σ =>
  if (gI σ k0z 8) ≤ v3 then
    some (v2, σ)
  else
    bd1 (ixo (k0z + 10) ((5 : Int32) + v3)) fun j10 =>
    rec1 (v2 + (gI σ (k0z + 10) j10)) (v3 + (1 : Int32)) σ
def F_X10_owed_100 (k0z : Nat) (rec1 : Int32 → Int32 → Mem → Option (Int32 × Mem)) : Int32 → Int32 → Mem → Option (Int32 × Mem) := fun v2 v3 σ =>
  if (gI σ k0z 0) ≤ v3 then
    some (v2, σ)
  else
    bd1 (ixo (k0z + 3) v3) fun j14 =>
    if (gI σ (k0z + 3) j14) = (1 : Int32) then
      bd1 (ixo (k0z + 5) v3) fun j17 =>
      if (0 : Int32) ≤ (gI σ (k0z + 5) j17) then
        rec1 (v2 + (0 : Int32)) (v3 + (1 : Int32)) σ
      else
        rec1 (v2 + (1 : Int32)) (v3 + (1 : Int32)) σ
    else
      rec1 (v2 + (0 : Int32)) (v3 + (1 : Int32)) σ
def f_X10_owed (k0 : Nat) (a1 : Int32) (σ : Mem) : Option (Int32 × Mem) :=
  if a1 = (0 : Int32) then
    iterF (F_X10_owed_30 k0) (fun _ _ _ => none) FU (0 : Int32) (0 : Int32) σ
  else
  if a1 = (1 : Int32) then
    iterF (F_X10_owed_71 k0) (fun _ _ _ => none) FU (0 : Int32) (0 : Int32) σ
  else
  if a1 = (2 : Int32) then
    iterF (F_X10_owed_100 k0) (fun _ _ _ => none) FU (0 : Int32) (0 : Int32) σ
  else
  some ((-1 : Int32), σ)
abbrev RM_X10_owed : Room := { frames := 0, cells := 0, slots := 0, locals := 0 }
set_option maxHeartbeats 4000000 in
set_option maxRecDepth 100000 in
theorem w_X10_owed_30 {l : Launch} {G : Gh} {p : Program} {e : Env} {s : State} {m : MethodId} {args : Array Value} {below : List Frame} {meth : Method} {c : Code} (X : Cx G p s m args meth c prog_12_method_74_code RX10 4 (some .int)) {k0z : Nat} (hz0 : kd k0z = 10) {rr : Int32} {σr : Mem} : ∀ (n : Nat) (v2 : Int32) (v3 : Int32) (σ : Mem) (H : Heap) (locs : List Loc) (ls : Array Slot), PW G σ H → va_S (AA G) s.heap H locs → lv_has ls 4 [(0, .ref (ga G k0z)), (2, .int v2), (3, .int v3)] → iterF (F_X10_owed_30 k0z) (fun _ _ _ => none) n v2 v3 σ = some (rr, σr) → W p l e RM_X10_owed s m args below meth c H locs 0 0 (MQ below (QG G (some (.int rr)) σr) args s 0 0 (AA G)) (F0 m 30 ls []) := by
  have hx := X.hx
  have hb := X.hb
  intro n
  induction n with
  | zero => intro v2 v3 σ H locs ls hP hS hl h; exact nnone (α := (Int32 × Mem)) h
  | succ n ih1 =>
    intro v2 v3 σ H locs ls hP hS hl h
    have h : F_X10_owed_30 k0z (iterF (F_X10_owed_30 k0z) (fun _ _ _ => none) n) v2 v3 σ = some _ := h
    unfold F_X10_owed_30 at h
    refine lv_iload_n (pc := 30) hx hb dX10_owed_30 rfl (lv_at hl 2 rfl) ?_
    refine lv_aload_n (pc := 31) hx hb dX10_owed_31 rfl (lv_at hl 0 rfl) ?_
    refine gt_X10_117 X hP hz0 dX10_owed_32 ?_
    refine lv_icmp_ge (pc := 35) (tgt := 67) hx hb dX10_owed_35 (by decide) (fun c2 => ?_) (fun c2 => ?_)
    · have h := ipos c2 h
      refine lv_iload_n (pc := 67) hx hb dX10_owed_67 rfl (lv_at hl 1 rfl) ?_
      obtain ⟨rfl, rfl⟩ := inj2 h
      exact r_iret X hP hS dX10_owed_68
    · have h := ineg c2 h
      refine lv_iload_n (pc := 38) hx hb dX10_owed_38 rfl (lv_at hl 1 rfl) ?_
      refine lv_aload_n (pc := 39) hx hb dX10_owed_39 rfl (lv_at hl 0 rfl) ?_
      refine gt_X10_16 X hP hz0 dX10_owed_40 ?_
      refine lv_iload_n (pc := 43) hx hb dX10_owed_43 rfl (lv_at hl 2 rfl) ?_
      obtain ⟨j3, hj4, h⟩ := bnd1 h
      refine r_iald (pc := 44) X hP (kf_10_sold hz0).1 hj4 dX10_owed_44 ?_
      refine lv_iconst (pc := 45) (v := 1) hx hb dX10_owed_45 (by decide) ?_
      refine lv_icmp_ne (pc := 46) (tgt := 58) hx hb dX10_owed_46 (by decide) (fun c5 => ?_) (fun c5 => ?_)
      · have h := ineg c5 h
        refine lv_iconst (pc := 58) (v := 0) hx hb dX10_owed_58 (by decide) ?_
        refine lv_iadd (pc := 59) hx hb dX10_owed_59 ?_
        refine lv_istore_n (pc := 60) (lv' := [(2, .int (v2 + (0 : Int32))), (0, .ref (ga G k0z)), (3, .int v3)]) hx hb dX10_owed_60 rfl hl (by decide) rfl (fun ls hl => ?_)
        refine lv_iinc (pc := 61) (v := (v3 + (1 : Int32))) (lv' := [(3, .int (v3 + (1 : Int32))), (2, .int (v2 + (0 : Int32))), (0, .ref (ga G k0z))]) hx hb dX10_owed_61 hl (k := 2) rfl (congrArg (fun z => v3 + z) (by decide)) (by decide) rfl (fun ls hl => ?_)
        refine lv_goto (pc := 64) (tgt := 30) hx hb dX10_owed_64 (by decide) ?_
        exact ih1 _ _ _ _ _ _ hP hS (lv_sub hl [2, 1, 0] rfl) h
      · have h := ipos c5 h
        refine lv_aload_n (pc := 49) hx hb dX10_owed_49 rfl (lv_at hl 0 rfl) ?_
        refine gt_X10_19 X hP hz0 dX10_owed_50 ?_
        refine lv_iload_n (pc := 53) hx hb dX10_owed_53 rfl (lv_at hl 2 rfl) ?_
        obtain ⟨j6, hj7, h⟩ := bnd1 h
        refine r_iald (pc := 54) X hP (kf_10_prices hz0).1 hj7 dX10_owed_54 ?_
        refine lv_goto (pc := 55) (tgt := 59) hx hb dX10_owed_55 (by decide) ?_
        refine lv_iadd (pc := 59) hx hb dX10_owed_59 ?_
        refine lv_istore_n (pc := 60) (lv' := [(2, .int (v2 + (gI σ (k0z + 4) j6))), (0, .ref (ga G k0z)), (3, .int v3)]) hx hb dX10_owed_60 rfl hl (by decide) rfl (fun ls hl => ?_)
        refine lv_iinc (pc := 61) (v := (v3 + (1 : Int32))) (lv' := [(3, .int (v3 + (1 : Int32))), (2, .int (v2 + (gI σ (k0z + 4) j6))), (0, .ref (ga G k0z))]) hx hb dX10_owed_61 hl (k := 2) rfl (congrArg (fun z => v3 + z) (by decide)) (by decide) rfl (fun ls hl => ?_)
        refine lv_goto (pc := 64) (tgt := 30) hx hb dX10_owed_64 (by decide) ?_
        exact ih1 _ _ _ _ _ _ hP hS (lv_sub hl [2, 1, 0] rfl) h
set_option maxHeartbeats 4000000 in
set_option maxRecDepth 100000 in
theorem w_X10_owed_71 {l : Launch} {G : Gh} {p : Program} {e : Env} {s : State} {m : MethodId} {args : Array Value} {below : List Frame} {meth : Method} {c : Code} (X : Cx G p s m args meth c prog_12_method_74_code RX10 4 (some .int)) {k0z : Nat} (hz0 : kd k0z = 10) {rr : Int32} {σr : Mem} : ∀ (n : Nat) (v2 : Int32) (v3 : Int32) (σ : Mem) (H : Heap) (locs : List Loc) (ls : Array Slot), PW G σ H → va_S (AA G) s.heap H locs → lv_has ls 4 [(0, .ref (ga G k0z)), (2, .int v2), (3, .int v3)] → iterF (F_X10_owed_71 k0z) (fun _ _ _ => none) n v2 v3 σ = some (rr, σr) → W p l e RM_X10_owed s m args below meth c H locs 0 0 (MQ below (QG G (some (.int rr)) σr) args s 0 0 (AA G)) (F0 m 71 ls []) := by
  have hx := X.hx
  have hb := X.hb
  intro n
  induction n with
  | zero => intro v2 v3 σ H locs ls hP hS hl h; exact nnone (α := (Int32 × Mem)) h
  | succ n ih1 =>
    intro v2 v3 σ H locs ls hP hS hl h
    have h : F_X10_owed_71 k0z (iterF (F_X10_owed_71 k0z) (fun _ _ _ => none) n) v2 v3 σ = some _ := h
    unfold F_X10_owed_71 at h
    refine lv_iload_n (pc := 71) hx hb dX10_owed_71 rfl (lv_at hl 2 rfl) ?_
    refine lv_aload_n (pc := 72) hx hb dX10_owed_72 rfl (lv_at hl 0 rfl) ?_
    refine gt_X10_128 X hP hz0 dX10_owed_73 ?_
    refine lv_icmp_ge (pc := 76) (tgt := 96) hx hb dX10_owed_76 (by decide) (fun c9 => ?_) (fun c9 => ?_)
    · have h := ipos c9 h
      refine lv_iload_n (pc := 96) hx hb dX10_owed_96 rfl (lv_at hl 1 rfl) ?_
      obtain ⟨rfl, rfl⟩ := inj2 h
      exact r_iret X hP hS dX10_owed_97
    · have h := ineg c9 h
      refine lv_iload_n (pc := 79) hx hb dX10_owed_79 rfl (lv_at hl 1 rfl) ?_
      refine lv_aload_n (pc := 80) hx hb dX10_owed_80 rfl (lv_at hl 0 rfl) ?_
      refine gt_X10_41 X hP hz0 dX10_owed_81 ?_
      refine lv_iconst (pc := 84) (v := 5) hx hb dX10_owed_84 (by decide) ?_
      refine lv_iload_n (pc := 85) hx hb dX10_owed_85 rfl (lv_at hl 2 rfl) ?_
      refine lv_iadd (pc := 86) hx hb dX10_owed_86 ?_
      obtain ⟨j10, hj11, h⟩ := bnd1 h
      refine r_iald (pc := 87) X hP (kf_10_row hz0).1 hj11 dX10_owed_87 ?_
      refine lv_iadd (pc := 88) hx hb dX10_owed_88 ?_
      refine lv_istore_n (pc := 89) (lv' := [(2, .int (v2 + (gI σ (k0z + 10) j10))), (0, .ref (ga G k0z)), (3, .int v3)]) hx hb dX10_owed_89 rfl hl (by decide) rfl (fun ls hl => ?_)
      refine lv_iinc (pc := 90) (v := (v3 + (1 : Int32))) (lv' := [(3, .int (v3 + (1 : Int32))), (2, .int (v2 + (gI σ (k0z + 10) j10))), (0, .ref (ga G k0z))]) hx hb dX10_owed_90 hl (k := 2) rfl (congrArg (fun z => v3 + z) (by decide)) (by decide) rfl (fun ls hl => ?_)
      refine lv_goto (pc := 93) (tgt := 71) hx hb dX10_owed_93 (by decide) ?_
      exact ih1 _ _ _ _ _ _ hP hS (lv_sub hl [2, 1, 0] rfl) h
set_option maxHeartbeats 4000000 in
set_option maxRecDepth 100000 in
theorem w_X10_owed_100 {l : Launch} {G : Gh} {p : Program} {e : Env} {s : State} {m : MethodId} {args : Array Value} {below : List Frame} {meth : Method} {c : Code} (X : Cx G p s m args meth c prog_12_method_74_code RX10 4 (some .int)) {k0z : Nat} (hz0 : kd k0z = 10) {rr : Int32} {σr : Mem} : ∀ (n : Nat) (v2 : Int32) (v3 : Int32) (σ : Mem) (H : Heap) (locs : List Loc) (ls : Array Slot), PW G σ H → va_S (AA G) s.heap H locs → lv_has ls 4 [(0, .ref (ga G k0z)), (2, .int v2), (3, .int v3)] → iterF (F_X10_owed_100 k0z) (fun _ _ _ => none) n v2 v3 σ = some (rr, σr) → W p l e RM_X10_owed s m args below meth c H locs 0 0 (MQ below (QG G (some (.int rr)) σr) args s 0 0 (AA G)) (F0 m 100 ls []) := by
  have hx := X.hx
  have hb := X.hb
  intro n
  induction n with
  | zero => intro v2 v3 σ H locs ls hP hS hl h; exact nnone (α := (Int32 × Mem)) h
  | succ n ih1 =>
    intro v2 v3 σ H locs ls hP hS hl h
    have h : F_X10_owed_100 k0z (iterF (F_X10_owed_100 k0z) (fun _ _ _ => none) n) v2 v3 σ = some _ := h
    unfold F_X10_owed_100 at h
    refine lv_iload_n (pc := 100) hx hb dX10_owed_100 rfl (lv_at hl 2 rfl) ?_
    refine lv_aload_n (pc := 101) hx hb dX10_owed_101 rfl (lv_at hl 0 rfl) ?_
    refine gt_X10_117 X hP hz0 dX10_owed_102 ?_
    refine lv_icmp_ge (pc := 105) (tgt := 141) hx hb dX10_owed_105 (by decide) (fun c13 => ?_) (fun c13 => ?_)
    · have h := ipos c13 h
      refine lv_iload_n (pc := 141) hx hb dX10_owed_141 rfl (lv_at hl 1 rfl) ?_
      obtain ⟨rfl, rfl⟩ := inj2 h
      exact r_iret X hP hS dX10_owed_142
    · have h := ineg c13 h
      refine lv_iload_n (pc := 108) hx hb dX10_owed_108 rfl (lv_at hl 1 rfl) ?_
      refine lv_aload_n (pc := 109) hx hb dX10_owed_109 rfl (lv_at hl 0 rfl) ?_
      refine gt_X10_16 X hP hz0 dX10_owed_110 ?_
      refine lv_iload_n (pc := 113) hx hb dX10_owed_113 rfl (lv_at hl 2 rfl) ?_
      obtain ⟨j14, hj15, h⟩ := bnd1 h
      refine r_iald (pc := 114) X hP (kf_10_sold hz0).1 hj15 dX10_owed_114 ?_
      refine lv_iconst (pc := 115) (v := 1) hx hb dX10_owed_115 (by decide) ?_
      refine lv_icmp_ne (pc := 116) (tgt := 132) hx hb dX10_owed_116 (by decide) (fun c16 => ?_) (fun c16 => ?_)
      · have h := ineg c16 h
        refine lv_iconst (pc := 132) (v := 0) hx hb dX10_owed_132 (by decide) ?_
        refine lv_iadd (pc := 133) hx hb dX10_owed_133 ?_
        refine lv_istore_n (pc := 134) (lv' := [(2, .int (v2 + (0 : Int32))), (0, .ref (ga G k0z)), (3, .int v3)]) hx hb dX10_owed_134 rfl hl (by decide) rfl (fun ls hl => ?_)
        refine lv_iinc (pc := 135) (v := (v3 + (1 : Int32))) (lv' := [(3, .int (v3 + (1 : Int32))), (2, .int (v2 + (0 : Int32))), (0, .ref (ga G k0z))]) hx hb dX10_owed_135 hl (k := 2) rfl (congrArg (fun z => v3 + z) (by decide)) (by decide) rfl (fun ls hl => ?_)
        refine lv_goto (pc := 138) (tgt := 100) hx hb dX10_owed_138 (by decide) ?_
        exact ih1 _ _ _ _ _ _ hP hS (lv_sub hl [2, 1, 0] rfl) h
      · have h := ipos c16 h
        refine lv_aload_n (pc := 119) hx hb dX10_owed_119 rfl (lv_at hl 0 rfl) ?_
        refine gt_X10_22 X hP hz0 dX10_owed_120 ?_
        refine lv_iload_n (pc := 123) hx hb dX10_owed_123 rfl (lv_at hl 2 rfl) ?_
        obtain ⟨j17, hj18, h⟩ := bnd1 h
        refine r_iald (pc := 124) X hP (kf_10_owners hz0).1 hj18 dX10_owed_124 ?_
        refine lv_if_ge (pc := 125) (tgt := 132) hx hb dX10_owed_125 (by decide) (fun c19 => ?_) (fun c19 => ?_)
        · have h := ipos c19 h
          refine lv_iconst (pc := 132) (v := 0) hx hb dX10_owed_132 (by decide) ?_
          refine lv_iadd (pc := 133) hx hb dX10_owed_133 ?_
          refine lv_istore_n (pc := 134) (lv' := [(2, .int (v2 + (0 : Int32))), (0, .ref (ga G k0z)), (3, .int v3)]) hx hb dX10_owed_134 rfl hl (by decide) rfl (fun ls hl => ?_)
          refine lv_iinc (pc := 135) (v := (v3 + (1 : Int32))) (lv' := [(3, .int (v3 + (1 : Int32))), (2, .int (v2 + (0 : Int32))), (0, .ref (ga G k0z))]) hx hb dX10_owed_135 hl (k := 2) rfl (congrArg (fun z => v3 + z) (by decide)) (by decide) rfl (fun ls hl => ?_)
          refine lv_goto (pc := 138) (tgt := 100) hx hb dX10_owed_138 (by decide) ?_
          exact ih1 _ _ _ _ _ _ hP hS (lv_sub hl [2, 1, 0] rfl) h
        · have h := ineg c19 h
          refine lv_iconst (pc := 128) (v := 1) hx hb dX10_owed_128 (by decide) ?_
          refine lv_goto (pc := 129) (tgt := 133) hx hb dX10_owed_129 (by decide) ?_
          refine lv_iadd (pc := 133) hx hb dX10_owed_133 ?_
          refine lv_istore_n (pc := 134) (lv' := [(2, .int (v2 + (1 : Int32))), (0, .ref (ga G k0z)), (3, .int v3)]) hx hb dX10_owed_134 rfl hl (by decide) rfl (fun ls hl => ?_)
          refine lv_iinc (pc := 135) (v := (v3 + (1 : Int32))) (lv' := [(3, .int (v3 + (1 : Int32))), (2, .int (v2 + (1 : Int32))), (0, .ref (ga G k0z))]) hx hb dX10_owed_135 hl (k := 2) rfl (congrArg (fun z => v3 + z) (by decide)) (by decide) rfl (fun ls hl => ?_)
          refine lv_goto (pc := 138) (tgt := 100) hx hb dX10_owed_138 (by decide) ?_
          exact ih1 _ _ _ _ _ _ hP hS (lv_sub hl [2, 1, 0] rfl) h
set_option maxHeartbeats 4000000 in
set_option maxRecDepth 100000 in
theorem c_X10_owed (l : Launch) (G : Gh) {k0 : Nat} {a1 : Int32} {σ : Mem} {rr : Int32} {σr : Mem} (hk0 : kd k0 = 10) (h : f_X10_owed k0 a1 σ = some (rr, σr)) : Met l yX10_owed [Cond.code yX10_owed prog_12_method_74_code 4 (some .int)] RM_X10_owed (va_Pc [.ref (ga G k0), .int a1] (Pre G σ)) (QG G (some (.int rr)) σr) 0 0 (AA G) := by
  refine ct_of (by decide) (fun p e s m below meth c X hP => ?_)
  have hx := X.hx
  have hb := X.hb
  have hS : va_S (AA G) s.heap s.heap [] := va_S.rf
  have hl := lv_entry ([.ref (ga G k0), .int a1]) (n := 4) (Nat.le_of_ble_eq_true rfl)
  rw [lg_entry_eq]
  generalize (lg_sl ([.ref (ga G k0), .int a1]) ++ List.replicate (4 - (lg_sl ([.ref (ga G k0), .int a1])).length) Slot.unset).toArray = ls at hl ⊢
  have hl : lv_has ls 4 [(0, .ref (ga G k0)), (1, .int a1)] := hl
  unfold f_X10_owed at h
  refine lv_iconst (pc := 0) (v := 0) hx hb dX10_owed_0 (by decide) ?_
  refine lv_istore_n (pc := 1) (lv' := [(2, .int (0 : Int32)), (0, .ref (ga G k0)), (1, .int a1)]) hx hb dX10_owed_1 rfl hl (by decide) rfl (fun ls hl => ?_)
  refine lv_iload_n (pc := 2) hx hb dX10_owed_2 rfl (lv_at hl 2 rfl) ?_
  by_cases c1 : a1 = (0 : Int32)
  · have h := ipos c1 h
    refine r_tabIn X (pc := 3) (tgt := 28) c1 dX10_owed_3 (by decide) (by decide) rfl (by decide) ?_
    refine lv_iconst (pc := 28) (v := 0) hx hb dX10_owed_28 (by decide) ?_
    refine lv_istore_n (pc := 29) (lv' := [(3, .int (0 : Int32)), (2, .int (0 : Int32)), (0, .ref (ga G k0)), (1, .int a1)]) hx hb dX10_owed_29 rfl hl (by decide) rfl (fun ls hl => ?_)
    exact w_X10_owed_30 X  hk0  FU _ _ _ _ _ _ hP hS (lv_sub hl [2, 1, 0] rfl) h
  have h := ineg c1 h
  by_cases c8 : a1 = (1 : Int32)
  · have h := ipos c8 h
    refine r_tabIn X (pc := 3) (tgt := 69) c8 dX10_owed_3 (by decide) (by decide) rfl (by decide) ?_
    refine lv_iconst (pc := 69) (v := 0) hx hb dX10_owed_69 (by decide) ?_
    refine lv_istore_n (pc := 70) (lv' := [(3, .int (0 : Int32)), (2, .int (0 : Int32)), (0, .ref (ga G k0)), (1, .int a1)]) hx hb dX10_owed_70 rfl hl (by decide) rfl (fun ls hl => ?_)
    exact w_X10_owed_71 X  hk0  FU _ _ _ _ _ _ hP hS (lv_sub hl [2, 1, 0] rfl) h
  have h := ineg c8 h
  by_cases c12 : a1 = (2 : Int32)
  · have h := ipos c12 h
    refine r_tabIn X (pc := 3) (tgt := 98) c12 dX10_owed_3 (by decide) (by decide) rfl (by decide) ?_
    refine lv_iconst (pc := 98) (v := 0) hx hb dX10_owed_98 (by decide) ?_
    refine lv_istore_n (pc := 99) (lv' := [(3, .int (0 : Int32)), (2, .int (0 : Int32)), (0, .ref (ga G k0)), (1, .int a1)]) hx hb dX10_owed_99 rfl hl (by decide) rfl (fun ls hl => ?_)
    exact w_X10_owed_100 X  hk0  FU _ _ _ _ _ _ hP hS (lv_sub hl [2, 1, 0] rfl) h
  have h := ineg c12 h
  refine lv_tableOut (pc := 3) (tgt := 143) hx hb dX10_owed_3 (by have := lv_neT c1 (a := 0) (by decide); have := lv_neT c8 (a := 1) (by decide); have := lv_neT c12 (a := 2) (by decide); omega) (by decide) ?_
  refine lv_iconst (pc := 143) (v := (-1)) hx hb dX10_owed_143 (by decide) ?_
  obtain ⟨rfl, rfl⟩ := inj2 h
  exact r_iret X hP hS dX10_owed_144
def f_X10_seed (k0 : Nat) (a1 : Int32) (σ : Mem) : Option (Int32 × Mem) :=
  bd1 (some (pI σ k0 14 a1)) fun σ1 =>
  some ((gI σ k0 14), σ1)
abbrev RM_X10_seed : Room := { frames := 0, cells := 0, slots := 0, locals := 0 }
set_option maxHeartbeats 4000000 in
set_option maxRecDepth 100000 in
theorem c_X10_seed (l : Launch) (G : Gh) {k0 : Nat} {a1 : Int32} {σ : Mem} {rr : Int32} {σr : Mem} (hk0 : kd k0 = 10) (h : f_X10_seed k0 a1 σ = some (rr, σr)) : Met l yX10_seed [Cond.code yX10_seed prog_12_method_75_code 3 (some .int)] RM_X10_seed (va_Pc [.ref (ga G k0), .int a1] (Pre G σ)) (QG G (some (.int rr)) σr) 0 0 (AA G) := by
  refine ct_of (by decide) (fun p e s m below meth c X hP => ?_)
  have hx := X.hx
  have hb := X.hb
  have hS : va_S (AA G) s.heap s.heap [] := va_S.rf
  have hl := lv_entry ([.ref (ga G k0), .int a1]) (n := 3) (Nat.le_of_ble_eq_true rfl)
  rw [lg_entry_eq]
  generalize (lg_sl ([.ref (ga G k0), .int a1]) ++ List.replicate (3 - (lg_sl ([.ref (ga G k0), .int a1])).length) Slot.unset).toArray = ls at hl ⊢
  have hl : lv_has ls 3 [(0, .ref (ga G k0)), (1, .int a1)] := hl
  unfold f_X10_seed at h
  refine lv_aload_n (pc := 0) hx hb dX10_seed_0 rfl (lv_at hl 0 rfl) ?_
  refine gt_X10_44 X hP hk0 dX10_seed_1 ?_
  refine lv_istore_n (pc := 4) (lv' := [(2, .int (gI σ k0 14)), (0, .ref (ga G k0)), (1, .int a1)]) hx hb dX10_seed_4 rfl hl (by decide) rfl (fun ls hl => ?_)
  refine lv_aload_n (pc := 5) hx hb dX10_seed_5 rfl (lv_at hl 1 rfl) ?_
  refine lv_iload_n (pc := 6) hx hb dX10_seed_6 rfl (lv_at hl 2 rfl) ?_
  obtain ⟨σ1, e2, h⟩ := bnd1 h
  refine pt_X10_44 X hP hS hk0 dX10_seed_7 (fun H locs hP hS => ?_)
  rw [Option.some.inj e2] at hP
  refine lv_iload_n (pc := 10) hx hb dX10_seed_10 rfl (lv_at hl 0 rfl) ?_
  obtain ⟨rfl, rfl⟩ := inj2 h
  exact r_iret X hP hS dX10_seed_11
def f_X10_draw (k0 : Nat) (a1 : Int32) (σ : Mem) : Option (Int32 × Mem) :=
  bd2 (f_X10_isPlace a1 σ) fun r3 σ1 =>
  if r3 = (0 : Int32) then
    some ((-1 : Int32), σ1)
  else
    bd1 (some (pI σ1 k0 14 (((gI σ1 k0 14) * (1103515245 : Int32)) + (12345 : Int32)))) fun σ5 =>
    bd1 (ixo (k0 + 6) a1) fun j7 =>
    bd1 (some (pI σ5 (k0 + 6) j7 (((gI σ5 k0 14).toUInt32 >>> ((16 : Int32).toUInt32 &&& Int32.toUInt32 31)).toInt32 - ((gI σ5 k0 14).toUInt32 >>> ((16 : Int32).toUInt32 &&& Int32.toUInt32 31)).toInt32 / (4 : Int32) * (4 : Int32)))) fun σ9 =>
    bd1 (ixo (k0 + 6) a1) fun j11 =>
    some ((gI σ9 (k0 + 6) j11), σ9)
abbrev RM_X10_draw : Room := { frames := 2, cells := 0, slots := 0, locals := 42 }
set_option maxHeartbeats 4000000 in
set_option maxRecDepth 100000 in
theorem c_X10_draw (l : Launch) (G : Gh) {k0 : Nat} {a1 : Int32} {σ : Mem} {rr : Int32} {σr : Mem} (hk0 : kd k0 = 10) (h : f_X10_draw k0 a1 σ = some (rr, σr)) : Met l yX10_draw [Cond.code yX10_draw prog_12_method_76_code 2 (some .int)] RM_X10_draw (va_Pc [.ref (ga G k0), .int a1] (Pre G σ)) (QG G (some (.int rr)) σr) 0 0 (AA G) := by
  refine ct_of (by decide) (fun p e s m below meth c X hP => ?_)
  have hx := X.hx
  have hb := X.hb
  have hS : va_S (AA G) s.heap s.heap [] := va_S.rf
  have hl := lv_entry ([.ref (ga G k0), .int a1]) (n := 2) (Nat.le_of_ble_eq_true rfl)
  rw [lg_entry_eq]
  generalize (lg_sl ([.ref (ga G k0), .int a1]) ++ List.replicate (2 - (lg_sl ([.ref (ga G k0), .int a1])).length) Slot.unset).toArray = ls at hl ⊢
  have hl : lv_has ls 2 [(0, .ref (ga G k0)), (1, .int a1)] := hl
  unfold f_X10_draw at h
  refine lv_iload_n (pc := 0) hx hb dX10_draw_0 rfl (lv_at hl 1 rfl) ?_
  obtain ⟨r3, σ1, e2, h⟩ := bnd2 h
  refine cl_X10_268 X hP hS (As := [.int a1]) (rest := []) (c_X10_isPlace l G  e2) ⟨rfl, rfl, Nat.le_of_ble_eq_true rfl, Nat.le_of_ble_eq_true rfl⟩ rfl hl.1 rfl (Nat.le_of_ble_eq_true rfl) ⟨Nat.zero_le _, Nat.zero_le _⟩ (pc := 1) dX10_draw_1 (fun H locs hP hS => ?_)
  change W p l e _ s m _ below meth c H locs _ _ _ (F0 m (1 + 3) ls (.int r3 :: []))
  refine lv_if_ne (pc := 4) (tgt := 9) hx hb dX10_draw_4 (by decide) (fun c4 => ?_) (fun c4 => ?_)
  · have h := ineg c4 h
    refine lv_aload_n (pc := 9) hx hb dX10_draw_9 rfl (lv_at hl 0 rfl) ?_
    refine lv_aload_n (pc := 10) hx hb dX10_draw_10 rfl (lv_at hl 0 rfl) ?_
    refine gt_X10_44 X hP hk0 dX10_draw_11 ?_
    refine lv_ldcw (pc := 14) (v := (1103515245)) hx hb X.hown (X.tb tw_1480 rfl) dX10_draw_14 ?_
    refine lv_imul (pc := 17) hx hb dX10_draw_17 ?_
    refine lv_sipush (pc := 18) (v := (12345)) hx hb dX10_draw_18 (by decide) ?_
    refine lv_iadd (pc := 21) hx hb dX10_draw_21 ?_
    obtain ⟨σ5, e6, h⟩ := bnd1 h
    refine pt_X10_44 X hP hS hk0 dX10_draw_22 (fun H locs hP hS => ?_)
    rw [Option.some.inj e6] at hP
    refine lv_aload_n (pc := 25) hx hb dX10_draw_25 rfl (lv_at hl 0 rfl) ?_
    refine gt_X10_25 X hP hk0 dX10_draw_26 ?_
    refine lv_iload_n (pc := 29) hx hb dX10_draw_29 rfl (lv_at hl 1 rfl) ?_
    refine lv_aload_n (pc := 30) hx hb dX10_draw_30 rfl (lv_at hl 0 rfl) ?_
    refine gt_X10_44 X hP hk0 dX10_draw_31 ?_
    refine lv_bipush (pc := 34) (v := (16)) hx hb dX10_draw_34 (by decide) ?_
    refine lv_iushr (pc := 36) (v := ((gI σ5 k0 14).toUInt32 >>> ((16 : Int32).toUInt32 &&& Int32.toUInt32 31)).toInt32) hx hb dX10_draw_36 rfl ?_
    refine lv_iconst (pc := 37) (v := 4) hx hb dX10_draw_37 (by decide) ?_
    refine lv_irem (pc := 38) hx hb dX10_draw_38 (by decide) ?_
    obtain ⟨j7, hj8, h⟩ := bnd1 h
    obtain ⟨σ9, e10, h⟩ := bnd1 h
    refine r_iast (pc := 39) X hP hS (kf_10_draughts hk0).1 hj8 dX10_draw_39 (fun H locs hP hS => ?_)
    rw [Option.some.inj e10] at hP
    refine lv_aload_n (pc := 40) hx hb dX10_draw_40 rfl (lv_at hl 0 rfl) ?_
    refine gt_X10_25 X hP hk0 dX10_draw_41 ?_
    refine lv_iload_n (pc := 44) hx hb dX10_draw_44 rfl (lv_at hl 1 rfl) ?_
    obtain ⟨j11, hj12, h⟩ := bnd1 h
    refine r_iald (pc := 45) X hP (kf_10_draughts hk0).1 hj12 dX10_draw_45 ?_
    obtain ⟨rfl, rfl⟩ := inj2 h
    exact r_iret X hP hS dX10_draw_46
  · have h := ipos c4 h
    refine lv_iconst (pc := 7) (v := (-1)) hx hb dX10_draw_7 (by decide) ?_
    obtain ⟨rfl, rfl⟩ := inj2 h
    exact r_iret X hP hS dX10_draw_8
def F_X10_prove_25 (k0z : Nat) (rec1 : Int32 → Mem → Option (Int32 × Mem)) : Int32 → Mem → Option (Int32 × Mem) := fun v2 σ =>
  if ((3 : Int32) * (gI σ k0z 45)) ≤ v2 then
    some ((gI σ k0z 45), σ)
  else
    bd1 (ixo (k0z + 19) v2) fun j10 =>
    bd1 (ixo (k0z + 23) v2) fun j12 =>
    bd1 (some (pI σ (k0z + 23) j12 (gI σ (k0z + 19) j10))) fun σ14 =>
    rec1 (v2 + (1 : Int32)) σ14
def f_X10_prove (k0 : Nat) (a1 : Int32) (σ : Mem) : Option (Int32 × Mem) :=
  bd2 (f_X10_isFree k0 a1 σ) fun r3 σ1 =>
  if r3 = (0 : Int32) then
    some ((-1 : Int32), σ1)
  else
    bd1 (f_X10_tries k0 a1 σ1) fun σ5 =>
    bd1 (some (pI σ5 k0 45 (gI σ5 k0 35))) fun σ7 =>
    iterF (F_X10_prove_25 k0) (fun _ _ => none) FU (0 : Int32) σ7
abbrev RM_X10_prove : Room := { frames := 7, cells := 0, slots := 0, locals := 151 }
set_option maxHeartbeats 4000000 in
set_option maxRecDepth 100000 in
theorem w_X10_prove_25 {l : Launch} {G : Gh} {p : Program} {e : Env} {s : State} {m : MethodId} {args : Array Value} {below : List Frame} {meth : Method} {c : Code} (X : Cx G p s m args meth c prog_12_method_77_code RX10 3 (some .int)) {k0z : Nat} (hz0 : kd k0z = 10) {rr : Int32} {σr : Mem} : ∀ (n : Nat) (v2 : Int32) (σ : Mem) (H : Heap) (locs : List Loc) (ls : Array Slot), PW G σ H → va_S (AA G) s.heap H locs → lv_has ls 3 [(0, .ref (ga G k0z)), (2, .int v2)] → iterF (F_X10_prove_25 k0z) (fun _ _ => none) n v2 σ = some (rr, σr) → W p l e RM_X10_prove s m args below meth c H locs 0 0 (MQ below (QG G (some (.int rr)) σr) args s 0 0 (AA G)) (F0 m 25 ls []) := by
  have hx := X.hx
  have hb := X.hb
  intro n
  induction n with
  | zero => intro v2 σ H locs ls hP hS hl h; exact nnone (α := (Int32 × Mem)) h
  | succ n ih1 =>
    intro v2 σ H locs ls hP hS hl h
    have h : F_X10_prove_25 k0z (iterF (F_X10_prove_25 k0z) (fun _ _ => none) n) v2 σ = some _ := h
    unfold F_X10_prove_25 at h
    refine lv_iload_n (pc := 25) hx hb dX10_prove_25 rfl (lv_at hl 1 rfl) ?_
    refine lv_iconst (pc := 26) (v := 3) hx hb dX10_prove_26 (by decide) ?_
    refine lv_aload_n (pc := 27) hx hb dX10_prove_27 rfl (lv_at hl 0 rfl) ?_
    refine gt_X10_249 X hP hz0 dX10_prove_28 ?_
    refine lv_imul (pc := 31) hx hb dX10_prove_31 ?_
    refine lv_icmp_ge (pc := 32) (tgt := 53) hx hb dX10_prove_32 (by decide) (fun c9 => ?_) (fun c9 => ?_)
    · have h := ipos c9 h
      refine lv_aload_n (pc := 53) hx hb dX10_prove_53 rfl (lv_at hl 0 rfl) ?_
      refine gt_X10_249 X hP hz0 dX10_prove_54 ?_
      obtain ⟨rfl, rfl⟩ := inj2 h
      exact r_iret X hP hS dX10_prove_57
    · have h := ineg c9 h
      refine lv_aload_n (pc := 35) hx hb dX10_prove_35 rfl (lv_at hl 0 rfl) ?_
      refine gt_X10_86 X hP hz0 dX10_prove_36 ?_
      refine lv_iload_n (pc := 39) hx hb dX10_prove_39 rfl (lv_at hl 1 rfl) ?_
      refine lv_aload_n (pc := 40) hx hb dX10_prove_40 rfl (lv_at hl 0 rfl) ?_
      refine gt_X10_74 X hP hz0 dX10_prove_41 ?_
      refine lv_iload_n (pc := 44) hx hb dX10_prove_44 rfl (lv_at hl 1 rfl) ?_
      obtain ⟨j10, hj11, h⟩ := bnd1 h
      refine r_iald (pc := 45) X hP (kf_10_must hz0).1 hj11 dX10_prove_45 ?_
      obtain ⟨j12, hj13, h⟩ := bnd1 h
      obtain ⟨σ14, e15, h⟩ := bnd1 h
      refine r_iast (pc := 46) X hP hS (kf_10_rows hz0).1 hj13 dX10_prove_46 (fun H locs hP hS => ?_)
      rw [Option.some.inj e15] at hP
      refine lv_iinc (pc := 47) (v := (v2 + (1 : Int32))) (lv' := [(2, .int (v2 + (1 : Int32))), (0, .ref (ga G k0z))]) hx hb dX10_prove_47 hl (k := 1) rfl (congrArg (fun z => v2 + z) (by decide)) (by decide) rfl (fun ls hl => ?_)
      refine lv_goto (pc := 50) (tgt := 25) hx hb dX10_prove_50 (by decide) ?_
      exact ih1 _ _ _ _ _ hP hS (lv_sub hl [1, 0] rfl) h
set_option maxHeartbeats 4000000 in
set_option maxRecDepth 100000 in
theorem c_X10_prove (l : Launch) (G : Gh) {k0 : Nat} {a1 : Int32} {σ : Mem} {rr : Int32} {σr : Mem} (hk0 : kd k0 = 10) (h : f_X10_prove k0 a1 σ = some (rr, σr)) : Met l yX10_prove [Cond.code yX10_prove prog_12_method_77_code 3 (some .int)] RM_X10_prove (va_Pc [.ref (ga G k0), .int a1] (Pre G σ)) (QG G (some (.int rr)) σr) 0 0 (AA G) := by
  refine ct_of (by decide) (fun p e s m below meth c X hP => ?_)
  have hx := X.hx
  have hb := X.hb
  have hS : va_S (AA G) s.heap s.heap [] := va_S.rf
  have hl := lv_entry ([.ref (ga G k0), .int a1]) (n := 3) (Nat.le_of_ble_eq_true rfl)
  rw [lg_entry_eq]
  generalize (lg_sl ([.ref (ga G k0), .int a1]) ++ List.replicate (3 - (lg_sl ([.ref (ga G k0), .int a1])).length) Slot.unset).toArray = ls at hl ⊢
  have hl : lv_has ls 3 [(0, .ref (ga G k0)), (1, .int a1)] := hl
  unfold f_X10_prove at h
  refine lv_aload_n (pc := 0) hx hb dX10_prove_0 rfl (lv_at hl 0 rfl) ?_
  refine lv_iload_n (pc := 1) hx hb dX10_prove_1 rfl (lv_at hl 1 rfl) ?_
  obtain ⟨r3, σ1, e2, h⟩ := bnd2 h
  refine cl_X10_335 X hP hS hk0 (As := [.int a1]) (rest := []) (c_X10_isFree l G hk0 e2) ⟨rfl, rfl, Nat.le_of_ble_eq_true rfl, Nat.le_of_ble_eq_true rfl⟩ rfl hl.1 rfl (Nat.le_of_ble_eq_true rfl) ⟨Nat.zero_le _, Nat.zero_le _⟩ (pc := 2) dX10_prove_2 (fun H locs hP hS => ?_)
  change W p l e _ s m _ below meth c H locs _ _ _ (F0 m (2 + 3) ls (.int r3 :: []))
  refine lv_if_ne (pc := 5) (tgt := 10) hx hb dX10_prove_5 (by decide) (fun c4 => ?_) (fun c4 => ?_)
  · have h := ineg c4 h
    refine lv_aload_n (pc := 10) hx hb dX10_prove_10 rfl (lv_at hl 0 rfl) ?_
    refine lv_iload_n (pc := 11) hx hb dX10_prove_11 rfl (lv_at hl 1 rfl) ?_
    obtain ⟨σ5, e6, h⟩ := bnd1 h
    refine cl_X10_338 X hP hS hk0 (As := [.int a1]) (rest := []) (c_X10_tries l G hk0 e6) ⟨rfl, rfl, Nat.le_of_ble_eq_true rfl, Nat.le_of_ble_eq_true rfl⟩ rfl hl.1 rfl (Nat.le_of_ble_eq_true rfl) ⟨Nat.zero_le _, Nat.zero_le _⟩ (pc := 12) dX10_prove_12 (fun H locs hP hS => ?_)
    change W p l e _ s m _ below meth c H locs _ _ _ (F0 m (12 + 3) ls [])
    refine lv_aload_n (pc := 15) hx hb dX10_prove_15 rfl (lv_at hl 0 rfl) ?_
    refine lv_aload_n (pc := 16) hx hb dX10_prove_16 rfl (lv_at hl 0 rfl) ?_
    refine gt_X10_295 X hP hk0 dX10_prove_17 ?_
    obtain ⟨σ7, e8, h⟩ := bnd1 h
    refine pt_X10_249 X hP hS hk0 dX10_prove_20 (fun H locs hP hS => ?_)
    rw [Option.some.inj e8] at hP
    refine lv_iconst (pc := 23) (v := 0) hx hb dX10_prove_23 (by decide) ?_
    refine lv_istore_n (pc := 24) (lv' := [(2, .int (0 : Int32)), (0, .ref (ga G k0)), (1, .int a1)]) hx hb dX10_prove_24 rfl hl (by decide) rfl (fun ls hl => ?_)
    exact w_X10_prove_25 X  hk0  FU _ _ _ _ _ hP hS (lv_sub hl [1, 0] rfl) h
  · have h := ipos c4 h
    refine lv_iconst (pc := 8) (v := (-1)) hx hb dX10_prove_8 (by decide) ?_
    obtain ⟨rfl, rfl⟩ := inj2 h
    exact r_iret X hP hS dX10_prove_9
def f_X10_isRow (k0 : Nat) (a1 : Int32) (a2 : Int32) (σ : Mem) : Option (Int32 × Mem) :=
  bd2 (f_X10_in a1 (0 : Int32) ((gI σ k0 45) - (1 : Int32)) σ) fun r3 σ1 =>
  if r3 = (0 : Int32) then
    some ((0 : Int32), σ1)
  else
    bd2 (f_X10_in a2 (0 : Int32) (2 : Int32) σ1) fun r7 σ5 =>
    if r7 = (0 : Int32) then
      some ((0 : Int32), σ5)
    else
      some ((1 : Int32), σ5)
abbrev RM_X10_isRow : Room := { frames := 1, cells := 0, slots := 0, locals := 22 }
set_option maxHeartbeats 4000000 in
set_option maxRecDepth 100000 in
theorem c_X10_isRow (l : Launch) (G : Gh) {k0 : Nat} {a1 : Int32} {a2 : Int32} {σ : Mem} {rr : Int32} {σr : Mem} (hk0 : kd k0 = 10) (h : f_X10_isRow k0 a1 a2 σ = some (rr, σr)) : Met l yX10_isRow [Cond.code yX10_isRow prog_12_method_78_code 3 (some .boolean)] RM_X10_isRow (va_Pc [.ref (ga G k0), .int a1, .int a2] (Pre G σ)) (QG G (some (.int rr)) σr) 0 0 (AA G) := by
  refine ct_of (by decide) (fun p e s m below meth c X hP => ?_)
  have hx := X.hx
  have hb := X.hb
  have hS : va_S (AA G) s.heap s.heap [] := va_S.rf
  have hl := lv_entry ([.ref (ga G k0), .int a1, .int a2]) (n := 3) (Nat.le_of_ble_eq_true rfl)
  rw [lg_entry_eq]
  generalize (lg_sl ([.ref (ga G k0), .int a1, .int a2]) ++ List.replicate (3 - (lg_sl ([.ref (ga G k0), .int a1, .int a2])).length) Slot.unset).toArray = ls at hl ⊢
  have hl : lv_has ls 3 [(0, .ref (ga G k0)), (1, .int a1), (2, .int a2)] := hl
  unfold f_X10_isRow at h
  refine lv_iload_n (pc := 0) hx hb dX10_isRow_0 rfl (lv_at hl 1 rfl) ?_
  refine lv_iconst (pc := 1) (v := 0) hx hb dX10_isRow_1 (by decide) ?_
  refine lv_aload_n (pc := 2) hx hb dX10_isRow_2 rfl (lv_at hl 0 rfl) ?_
  refine gt_X10_249 X hP hk0 dX10_isRow_3 ?_
  refine lv_iconst (pc := 6) (v := 1) hx hb dX10_isRow_6 (by decide) ?_
  refine lv_isub (pc := 7) hx hb dX10_isRow_7 ?_
  obtain ⟨r3, σ1, e2, h⟩ := bnd2 h
  refine cl_X10_120 X hP hS (As := [.int a1, .int (0 : Int32), .int ((gI σ k0 45) - (1 : Int32))]) (rest := []) (c_X10_in l G  e2) ⟨rfl, rfl, Nat.le_of_ble_eq_true rfl, Nat.le_of_ble_eq_true rfl⟩ rfl hl.1 rfl (Nat.le_of_ble_eq_true rfl) ⟨Nat.zero_le _, Nat.zero_le _⟩ (pc := 8) dX10_isRow_8 (fun H locs hP hS => ?_)
  change W p l e _ s m _ below meth c H locs _ _ _ (F0 m (8 + 3) ls (.int r3 :: []))
  refine lv_if_eq (pc := 11) (tgt := 27) hx hb dX10_isRow_11 (by decide) (fun c4 => ?_) (fun c4 => ?_)
  · have h := ipos c4 h
    refine lv_iconst (pc := 27) (v := 0) hx hb dX10_isRow_27 (by decide) ?_
    obtain ⟨rfl, rfl⟩ := inj2 h
    exact r_zret X hP hS (by decide) dX10_isRow_28
  · have h := ineg c4 h
    refine lv_iload_n (pc := 14) hx hb dX10_isRow_14 rfl (lv_at hl 2 rfl) ?_
    refine lv_iconst (pc := 15) (v := 0) hx hb dX10_isRow_15 (by decide) ?_
    refine lv_iconst (pc := 16) (v := 2) hx hb dX10_isRow_16 (by decide) ?_
    obtain ⟨r7, σ5, e6, h⟩ := bnd2 h
    refine cl_X10_120 X hP hS (As := [.int a2, .int (0 : Int32), .int (2 : Int32)]) (rest := []) (c_X10_in l G  e6) ⟨rfl, rfl, Nat.le_of_ble_eq_true rfl, Nat.le_of_ble_eq_true rfl⟩ rfl hl.1 rfl (Nat.le_of_ble_eq_true rfl) ⟨Nat.zero_le _, Nat.zero_le _⟩ (pc := 17) dX10_isRow_17 (fun H locs hP hS => ?_)
    change W p l e _ s m _ below meth c H locs _ _ _ (F0 m (17 + 3) ls (.int r7 :: []))
    refine lv_if_eq (pc := 20) (tgt := 27) hx hb dX10_isRow_20 (by decide) (fun c8 => ?_) (fun c8 => ?_)
    · have h := ipos c8 h
      refine lv_iconst (pc := 27) (v := 0) hx hb dX10_isRow_27 (by decide) ?_
      obtain ⟨rfl, rfl⟩ := inj2 h
      exact r_zret X hP hS (by decide) dX10_isRow_28
    · have h := ineg c8 h
      refine lv_iconst (pc := 23) (v := 1) hx hb dX10_isRow_23 (by decide) ?_
      refine lv_goto (pc := 24) (tgt := 28) hx hb dX10_isRow_24 (by decide) ?_
      obtain ⟨rfl, rfl⟩ := inj2 h
      exact r_zret X hP hS (by decide) dX10_isRow_28
def f_X10_row (k0 : Nat) (a1 : Int32) (a2 : Int32) (σ : Mem) : Option (Int32 × Mem) :=
  bd2 (f_X10_isRow k0 a1 a2 σ) fun r3 σ1 =>
  if r3 = (0 : Int32) then
    some ((-9 : Int32), σ1)
  else
    bd1 (ixo (k0 + 23) (((3 : Int32) * a1) + a2)) fun j5 =>
    some ((gI σ1 (k0 + 23) j5), σ1)
abbrev RM_X10_row : Room := { frames := 2, cells := 0, slots := 0, locals := 44 }
set_option maxHeartbeats 4000000 in
set_option maxRecDepth 100000 in
theorem c_X10_row (l : Launch) (G : Gh) {k0 : Nat} {a1 : Int32} {a2 : Int32} {σ : Mem} {rr : Int32} {σr : Mem} (hk0 : kd k0 = 10) (h : f_X10_row k0 a1 a2 σ = some (rr, σr)) : Met l yX10_row [Cond.code yX10_row prog_12_method_79_code 3 (some .int)] RM_X10_row (va_Pc [.ref (ga G k0), .int a1, .int a2] (Pre G σ)) (QG G (some (.int rr)) σr) 0 0 (AA G) := by
  refine ct_of (by decide) (fun p e s m below meth c X hP => ?_)
  have hx := X.hx
  have hb := X.hb
  have hS : va_S (AA G) s.heap s.heap [] := va_S.rf
  have hl := lv_entry ([.ref (ga G k0), .int a1, .int a2]) (n := 3) (Nat.le_of_ble_eq_true rfl)
  rw [lg_entry_eq]
  generalize (lg_sl ([.ref (ga G k0), .int a1, .int a2]) ++ List.replicate (3 - (lg_sl ([.ref (ga G k0), .int a1, .int a2])).length) Slot.unset).toArray = ls at hl ⊢
  have hl : lv_has ls 3 [(0, .ref (ga G k0)), (1, .int a1), (2, .int a2)] := hl
  unfold f_X10_row at h
  refine lv_aload_n (pc := 0) hx hb dX10_row_0 rfl (lv_at hl 0 rfl) ?_
  refine lv_iload_n (pc := 1) hx hb dX10_row_1 rfl (lv_at hl 1 rfl) ?_
  refine lv_iload_n (pc := 2) hx hb dX10_row_2 rfl (lv_at hl 2 rfl) ?_
  obtain ⟨r3, σ1, e2, h⟩ := bnd2 h
  refine cl_X10_357 X hP hS hk0 (As := [.int a1, .int a2]) (rest := []) (c_X10_isRow l G hk0 e2) ⟨rfl, rfl, Nat.le_of_ble_eq_true rfl, Nat.le_of_ble_eq_true rfl⟩ rfl hl.1 rfl (Nat.le_of_ble_eq_true rfl) ⟨Nat.zero_le _, Nat.zero_le _⟩ (pc := 3) dX10_row_3 (fun H locs hP hS => ?_)
  change W p l e _ s m _ below meth c H locs _ _ _ (F0 m (3 + 3) ls (.int r3 :: []))
  refine lv_if_eq (pc := 6) (tgt := 22) hx hb dX10_row_6 (by decide) (fun c4 => ?_) (fun c4 => ?_)
  · have h := ipos c4 h
    refine lv_bipush (pc := 22) (v := (-9)) hx hb dX10_row_22 (by decide) ?_
    obtain ⟨rfl, rfl⟩ := inj2 h
    exact r_iret X hP hS dX10_row_24
  · have h := ineg c4 h
    refine lv_aload_n (pc := 9) hx hb dX10_row_9 rfl (lv_at hl 0 rfl) ?_
    refine gt_X10_86 X hP hk0 dX10_row_10 ?_
    refine lv_iconst (pc := 13) (v := 3) hx hb dX10_row_13 (by decide) ?_
    refine lv_iload_n (pc := 14) hx hb dX10_row_14 rfl (lv_at hl 1 rfl) ?_
    refine lv_imul (pc := 15) hx hb dX10_row_15 ?_
    refine lv_iload_n (pc := 16) hx hb dX10_row_16 rfl (lv_at hl 2 rfl) ?_
    refine lv_iadd (pc := 17) hx hb dX10_row_17 ?_
    obtain ⟨j5, hj6, h⟩ := bnd1 h
    refine r_iald (pc := 18) X hP (kf_10_rows hk0).1 hj6 dX10_row_18 ?_
    refine lv_goto (pc := 19) (tgt := 24) hx hb dX10_row_19 (by decide) ?_
    obtain ⟨rfl, rfl⟩ := inj2 h
    exact r_iret X hP hS dX10_row_24
def f_X10_alterRow (k0 : Nat) (a1 : Int32) (a2 : Int32) (a3 : Int32) (σ : Mem) : Option (Int32 × Mem) :=
  bd2 (f_X10_isRow k0 a1 a2 σ) fun r3 σ1 =>
  if r3 = (0 : Int32) then
    some ((-9 : Int32), σ1)
  else
    bd1 (ixo (k0 + 23) (((3 : Int32) * a1) + a2)) fun j5 =>
    bd1 (ixo (k0 + 23) (((3 : Int32) * a1) + a2)) fun j7 =>
    bd1 (some (pI σ1 (k0 + 23) j7 a3)) fun σ9 =>
    some ((gI σ1 (k0 + 23) j5), σ9)
abbrev RM_X10_alterRow : Room := { frames := 2, cells := 0, slots := 0, locals := 44 }
set_option maxHeartbeats 4000000 in
set_option maxRecDepth 100000 in
theorem c_X10_alterRow (l : Launch) (G : Gh) {k0 : Nat} {a1 : Int32} {a2 : Int32} {a3 : Int32} {σ : Mem} {rr : Int32} {σr : Mem} (hk0 : kd k0 = 10) (h : f_X10_alterRow k0 a1 a2 a3 σ = some (rr, σr)) : Met l yX10_alterRow [Cond.code yX10_alterRow prog_12_method_80_code 5 (some .int)] RM_X10_alterRow (va_Pc [.ref (ga G k0), .int a1, .int a2, .int a3] (Pre G σ)) (QG G (some (.int rr)) σr) 0 0 (AA G) := by
  refine ct_of (by decide) (fun p e s m below meth c X hP => ?_)
  have hx := X.hx
  have hb := X.hb
  have hS : va_S (AA G) s.heap s.heap [] := va_S.rf
  have hl := lv_entry ([.ref (ga G k0), .int a1, .int a2, .int a3]) (n := 5) (Nat.le_of_ble_eq_true rfl)
  rw [lg_entry_eq]
  generalize (lg_sl ([.ref (ga G k0), .int a1, .int a2, .int a3]) ++ List.replicate (5 - (lg_sl ([.ref (ga G k0), .int a1, .int a2, .int a3])).length) Slot.unset).toArray = ls at hl ⊢
  have hl : lv_has ls 5 [(0, .ref (ga G k0)), (1, .int a1), (2, .int a2), (3, .int a3)] := hl
  unfold f_X10_alterRow at h
  refine lv_aload_n (pc := 0) hx hb dX10_alterRow_0 rfl (lv_at hl 0 rfl) ?_
  refine lv_iload_n (pc := 1) hx hb dX10_alterRow_1 rfl (lv_at hl 1 rfl) ?_
  refine lv_iload_n (pc := 2) hx hb dX10_alterRow_2 rfl (lv_at hl 2 rfl) ?_
  obtain ⟨r3, σ1, e2, h⟩ := bnd2 h
  refine cl_X10_357 X hP hS hk0 (As := [.int a1, .int a2]) (rest := []) (c_X10_isRow l G hk0 e2) ⟨rfl, rfl, Nat.le_of_ble_eq_true rfl, Nat.le_of_ble_eq_true rfl⟩ rfl hl.1 rfl (Nat.le_of_ble_eq_true rfl) ⟨Nat.zero_le _, Nat.zero_le _⟩ (pc := 3) dX10_alterRow_3 (fun H locs hP hS => ?_)
  change W p l e _ s m _ below meth c H locs _ _ _ (F0 m (3 + 3) ls (.int r3 :: []))
  refine lv_if_ne (pc := 6) (tgt := 12) hx hb dX10_alterRow_6 (by decide) (fun c4 => ?_) (fun c4 => ?_)
  · have h := ineg c4 h
    refine lv_aload_n (pc := 12) hx hb dX10_alterRow_12 rfl (lv_at hl 0 rfl) ?_
    refine gt_X10_86 X hP hk0 dX10_alterRow_13 ?_
    refine lv_iconst (pc := 16) (v := 3) hx hb dX10_alterRow_16 (by decide) ?_
    refine lv_iload_n (pc := 17) hx hb dX10_alterRow_17 rfl (lv_at hl 1 rfl) ?_
    refine lv_imul (pc := 18) hx hb dX10_alterRow_18 ?_
    refine lv_iload_n (pc := 19) hx hb dX10_alterRow_19 rfl (lv_at hl 2 rfl) ?_
    refine lv_iadd (pc := 20) hx hb dX10_alterRow_20 ?_
    obtain ⟨j5, hj6, h⟩ := bnd1 h
    refine r_iald (pc := 21) X hP (kf_10_rows hk0).1 hj6 dX10_alterRow_21 ?_
    refine lv_istore (pc := 22) (lv' := [(4, .int (gI σ1 (k0 + 23) j5)), (0, .ref (ga G k0)), (1, .int a1), (2, .int a2), (3, .int a3)]) hx hb dX10_alterRow_22 hl (by decide) rfl (fun ls hl => ?_)
    refine lv_aload_n (pc := 24) hx hb dX10_alterRow_24 rfl (lv_at hl 1 rfl) ?_
    refine gt_X10_86 X hP hk0 dX10_alterRow_25 ?_
    refine lv_iconst (pc := 28) (v := 3) hx hb dX10_alterRow_28 (by decide) ?_
    refine lv_iload_n (pc := 29) hx hb dX10_alterRow_29 rfl (lv_at hl 2 rfl) ?_
    refine lv_imul (pc := 30) hx hb dX10_alterRow_30 ?_
    refine lv_iload_n (pc := 31) hx hb dX10_alterRow_31 rfl (lv_at hl 3 rfl) ?_
    refine lv_iadd (pc := 32) hx hb dX10_alterRow_32 ?_
    refine lv_iload_n (pc := 33) hx hb dX10_alterRow_33 rfl (lv_at hl 4 rfl) ?_
    obtain ⟨j7, hj8, h⟩ := bnd1 h
    obtain ⟨σ9, e10, h⟩ := bnd1 h
    refine r_iast (pc := 34) X hP hS (kf_10_rows hk0).1 hj8 dX10_alterRow_34 (fun H locs hP hS => ?_)
    rw [Option.some.inj e10] at hP
    refine lv_iload (pc := 35) hx hb dX10_alterRow_35 (lv_at hl 0 rfl) ?_
    obtain ⟨rfl, rfl⟩ := inj2 h
    exact r_iret X hP hS dX10_alterRow_37
  · have h := ipos c4 h
    refine lv_bipush (pc := 9) (v := (-9)) hx hb dX10_alterRow_9 (by decide) ?_
    obtain ⟨rfl, rfl⟩ := inj2 h
    exact r_iret X hP hS dX10_alterRow_11
def F_X10_judge_42 (k0z : Nat) (p2 : Int32) (rec1 : Int32 → Mem → Option (Int32 × Mem)) (rec2 : Int32 → Int32 → Mem → Option (Int32 × Mem)) : Int32 → Int32 → Mem → Option (Int32 × Mem) := fun v3 v4 σ =>
  if (3 : Int32) ≤ v4 then
    if v3 = (0 : Int32) then
      some ((p2 + (1 : Int32)), σ)
    else
      rec1 (p2 + (1 : Int32)) σ
  else
    if v3 = (0 : Int32) then
      if v3 = (0 : Int32) then
        some ((p2 + (1 : Int32)), σ)
      else
        rec1 (p2 + (1 : Int32)) σ
    else
      bd1 (ixo (k0z + 23) (((3 : Int32) * p2) + v4)) fun j14 =>
      bd1 (ixo (k0z + 19) (((3 : Int32) * p2) + v4)) fun j16 =>
      if (gI σ (k0z + 23) j14) = (gI σ (k0z + 19) j16) then
        rec2 (1 : Int32) (v4 + (1 : Int32)) σ
      else
        rec2 (0 : Int32) (v4 + (1 : Int32)) σ
def F_X10_judge_17 (k0z : Nat) (rec1 : Int32 → Mem → Option (Int32 × Mem)) : Int32 → Mem → Option (Int32 × Mem) := fun v2 σ =>
  if (gI σ k0z 45) ≤ v2 then
    if (gI σ k0z 35) ≤ (gI σ k0z 45) then
      some ((0 : Int32), σ)
    else
      some ((222 : Int32), σ)
  else
    if (gI σ k0z 35) ≤ v2 then
      iterF (F_X10_judge_42 k0z v2 rec1) (fun _ _ _ => none) FU (0 : Int32) (0 : Int32) σ
    else
      iterF (F_X10_judge_42 k0z v2 rec1) (fun _ _ _ => none) FU (1 : Int32) (0 : Int32) σ
def f_X10_judge (k0 : Nat) (a1 : Int32) (σ : Mem) : Option (Int32 × Mem) :=
  bd2 (f_X10_isFree k0 a1 σ) fun r3 σ1 =>
  if r3 = (0 : Int32) then
    some ((-1 : Int32), σ1)
  else
    bd1 (f_X10_tries k0 a1 σ1) fun σ5 =>
    iterF (F_X10_judge_17 k0) (fun _ _ => none) FU (0 : Int32) σ5
abbrev RM_X10_judge : Room := { frames := 7, cells := 0, slots := 0, locals := 151 }
set_option maxHeartbeats 4000000 in
set_option maxRecDepth 100000 in
theorem w_X10_judge_42 {l : Launch} {G : Gh} {p : Program} {e : Env} {s : State} {m : MethodId} {args : Array Value} {below : List Frame} {meth : Method} {c : Code} (X : Cx G p s m args meth c prog_12_method_81_code RX10 5 (some .int)) {k0z : Nat} {p2 : Int32} (hz0 : kd k0z = 10) {rr : Int32} {σr : Mem} {rec1 : Int32 → Mem → Option (Int32 × Mem)} (ih1 : ∀ (v2 : Int32) (σ : Mem) (H : Heap) (locs : List Loc) (ls : Array Slot), PW G σ H → va_S (AA G) s.heap H locs → lv_has ls 5 [(0, .ref (ga G k0z)), (2, .int v2)] → rec1 v2 σ = some (rr, σr) → W p l e RM_X10_judge s m args below meth c H locs 0 0 (MQ below (QG G (some (.int rr)) σr) args s 0 0 (AA G)) (F0 m 17 ls [])) : ∀ (n : Nat) (v3 : Int32) (v4 : Int32) (σ : Mem) (H : Heap) (locs : List Loc) (ls : Array Slot), PW G σ H → va_S (AA G) s.heap H locs → lv_has ls 5 [(0, .ref (ga G k0z)), (2, .int p2), (3, .int v3), (4, .int v4)] → iterF (F_X10_judge_42 k0z p2 rec1) (fun _ _ _ => none) n v3 v4 σ = some (rr, σr) → W p l e RM_X10_judge s m args below meth c H locs 0 0 (MQ below (QG G (some (.int rr)) σr) args s 0 0 (AA G)) (F0 m 42 ls []) := by
  have hx := X.hx
  have hb := X.hb
  intro n
  induction n with
  | zero => intro v3 v4 σ H locs ls hP hS hl h; exact nnone (α := (Int32 × Mem)) h
  | succ n ih2 =>
    intro v3 v4 σ H locs ls hP hS hl h
    have h : F_X10_judge_42 k0z p2 rec1 (iterF (F_X10_judge_42 k0z p2 rec1) (fun _ _ _ => none) n) v3 v4 σ = some _ := h
    unfold F_X10_judge_42 at h
    refine lv_iload (pc := 42) hx hb dX10_judge_42 (lv_at hl 3 rfl) ?_
    refine lv_iconst (pc := 44) (v := 3) hx hb dX10_judge_44 (by decide) ?_
    refine lv_icmp_ge (pc := 45) (tgt := 89) hx hb dX10_judge_45 (by decide) (fun c10 => ?_) (fun c10 => ?_)
    · have h := ipos c10 h
      refine lv_iload_n (pc := 89) hx hb dX10_judge_89 rfl (lv_at hl 2 rfl) ?_
      refine lv_if_ne (pc := 90) (tgt := 97) hx hb dX10_judge_90 (by decide) (fun c11 => ?_) (fun c11 => ?_)
      · have h := ineg c11 h
        refine lv_iinc (pc := 97) (v := (p2 + (1 : Int32))) (lv' := [(2, .int (p2 + (1 : Int32))), (0, .ref (ga G k0z)), (3, .int v3), (4, .int v4)]) hx hb dX10_judge_97 hl (k := 1) rfl (congrArg (fun z => p2 + z) (by decide)) (by decide) rfl (fun ls hl => ?_)
        refine lv_goto (pc := 100) (tgt := 17) hx hb dX10_judge_100 (by decide) ?_
        exact ih1 _ _ _ _ _ hP hS (lv_sub hl [1, 0] rfl) h
      · have h := ipos c11 h
        refine lv_iload_n (pc := 93) hx hb dX10_judge_93 rfl (lv_at hl 1 rfl) ?_
        refine lv_iconst (pc := 94) (v := 1) hx hb dX10_judge_94 (by decide) ?_
        refine lv_iadd (pc := 95) hx hb dX10_judge_95 ?_
        obtain ⟨rfl, rfl⟩ := inj2 h
        exact r_iret X hP hS dX10_judge_96
    · have h := ineg c10 h
      refine lv_iload_n (pc := 48) hx hb dX10_judge_48 rfl (lv_at hl 2 rfl) ?_
      refine lv_if_eq (pc := 49) (tgt := 89) hx hb dX10_judge_49 (by decide) (fun c12 => ?_) (fun c12 => ?_)
      · have h := ipos c12 h
        refine lv_iload_n (pc := 89) hx hb dX10_judge_89 rfl (lv_at hl 2 rfl) ?_
        refine lv_if_ne (pc := 90) (tgt := 97) hx hb dX10_judge_90 (by decide) (fun c13 => ?_) (fun c13 => ?_)
        · have h := ineg c13 h
          refine lv_iinc (pc := 97) (v := (p2 + (1 : Int32))) (lv' := [(2, .int (p2 + (1 : Int32))), (0, .ref (ga G k0z)), (3, .int v3), (4, .int v4)]) hx hb dX10_judge_97 hl (k := 1) rfl (congrArg (fun z => p2 + z) (by decide)) (by decide) rfl (fun ls hl => ?_)
          refine lv_goto (pc := 100) (tgt := 17) hx hb dX10_judge_100 (by decide) ?_
          exact ih1 _ _ _ _ _ hP hS (lv_sub hl [1, 0] rfl) h
        · have h := ipos c13 h
          refine lv_iload_n (pc := 93) hx hb dX10_judge_93 rfl (lv_at hl 1 rfl) ?_
          refine lv_iconst (pc := 94) (v := 1) hx hb dX10_judge_94 (by decide) ?_
          refine lv_iadd (pc := 95) hx hb dX10_judge_95 ?_
          obtain ⟨rfl, rfl⟩ := inj2 h
          exact r_iret X hP hS dX10_judge_96
      · have h := ineg c12 h
        refine lv_aload_n (pc := 52) hx hb dX10_judge_52 rfl (lv_at hl 0 rfl) ?_
        refine gt_X10_86 X hP hz0 dX10_judge_53 ?_
        refine lv_iconst (pc := 56) (v := 3) hx hb dX10_judge_56 (by decide) ?_
        refine lv_iload_n (pc := 57) hx hb dX10_judge_57 rfl (lv_at hl 1 rfl) ?_
        refine lv_imul (pc := 58) hx hb dX10_judge_58 ?_
        refine lv_iload (pc := 59) hx hb dX10_judge_59 (lv_at hl 3 rfl) ?_
        refine lv_iadd (pc := 61) hx hb dX10_judge_61 ?_
        obtain ⟨j14, hj15, h⟩ := bnd1 h
        refine r_iald (pc := 62) X hP (kf_10_rows hz0).1 hj15 dX10_judge_62 ?_
        refine lv_aload_n (pc := 63) hx hb dX10_judge_63 rfl (lv_at hl 0 rfl) ?_
        refine gt_X10_74 X hP hz0 dX10_judge_64 ?_
        refine lv_iconst (pc := 67) (v := 3) hx hb dX10_judge_67 (by decide) ?_
        refine lv_iload_n (pc := 68) hx hb dX10_judge_68 rfl (lv_at hl 1 rfl) ?_
        refine lv_imul (pc := 69) hx hb dX10_judge_69 ?_
        refine lv_iload (pc := 70) hx hb dX10_judge_70 (lv_at hl 3 rfl) ?_
        refine lv_iadd (pc := 72) hx hb dX10_judge_72 ?_
        obtain ⟨j16, hj17, h⟩ := bnd1 h
        refine r_iald (pc := 73) X hP (kf_10_must hz0).1 hj17 dX10_judge_73 ?_
        refine lv_icmp_ne (pc := 74) (tgt := 81) hx hb dX10_judge_74 (by decide) (fun c18 => ?_) (fun c18 => ?_)
        · have h := ineg c18 h
          refine lv_iconst (pc := 81) (v := 0) hx hb dX10_judge_81 (by decide) ?_
          refine lv_istore_n (pc := 82) (lv' := [(3, .int (0 : Int32)), (0, .ref (ga G k0z)), (2, .int p2), (4, .int v4)]) hx hb dX10_judge_82 rfl hl (by decide) rfl (fun ls hl => ?_)
          refine lv_iinc (pc := 83) (v := (v4 + (1 : Int32))) (lv' := [(4, .int (v4 + (1 : Int32))), (3, .int (0 : Int32)), (0, .ref (ga G k0z)), (2, .int p2)]) hx hb dX10_judge_83 hl (k := 3) rfl (congrArg (fun z => v4 + z) (by decide)) (by decide) rfl (fun ls hl => ?_)
          refine lv_goto (pc := 86) (tgt := 42) hx hb dX10_judge_86 (by decide) ?_
          exact ih2 _ _ _ _ _ _ hP hS (lv_sub hl [2, 3, 1, 0] rfl) h
        · have h := ipos c18 h
          refine lv_iconst (pc := 77) (v := 1) hx hb dX10_judge_77 (by decide) ?_
          refine lv_goto (pc := 78) (tgt := 82) hx hb dX10_judge_78 (by decide) ?_
          refine lv_istore_n (pc := 82) (lv' := [(3, .int (1 : Int32)), (0, .ref (ga G k0z)), (2, .int p2), (4, .int v4)]) hx hb dX10_judge_82 rfl hl (by decide) rfl (fun ls hl => ?_)
          refine lv_iinc (pc := 83) (v := (v4 + (1 : Int32))) (lv' := [(4, .int (v4 + (1 : Int32))), (3, .int (1 : Int32)), (0, .ref (ga G k0z)), (2, .int p2)]) hx hb dX10_judge_83 hl (k := 3) rfl (congrArg (fun z => v4 + z) (by decide)) (by decide) rfl (fun ls hl => ?_)
          refine lv_goto (pc := 86) (tgt := 42) hx hb dX10_judge_86 (by decide) ?_
          exact ih2 _ _ _ _ _ _ hP hS (lv_sub hl [2, 3, 1, 0] rfl) h
set_option maxHeartbeats 4000000 in
set_option maxRecDepth 100000 in
theorem w_X10_judge_17 {l : Launch} {G : Gh} {p : Program} {e : Env} {s : State} {m : MethodId} {args : Array Value} {below : List Frame} {meth : Method} {c : Code} (X : Cx G p s m args meth c prog_12_method_81_code RX10 5 (some .int)) {k0z : Nat} (hz0 : kd k0z = 10) {rr : Int32} {σr : Mem} : ∀ (n : Nat) (v2 : Int32) (σ : Mem) (H : Heap) (locs : List Loc) (ls : Array Slot), PW G σ H → va_S (AA G) s.heap H locs → lv_has ls 5 [(0, .ref (ga G k0z)), (2, .int v2)] → iterF (F_X10_judge_17 k0z) (fun _ _ => none) n v2 σ = some (rr, σr) → W p l e RM_X10_judge s m args below meth c H locs 0 0 (MQ below (QG G (some (.int rr)) σr) args s 0 0 (AA G)) (F0 m 17 ls []) := by
  have hx := X.hx
  have hb := X.hb
  intro n
  induction n with
  | zero => intro v2 σ H locs ls hP hS hl h; exact nnone (α := (Int32 × Mem)) h
  | succ n ih1 =>
    intro v2 σ H locs ls hP hS hl h
    have h : F_X10_judge_17 k0z (iterF (F_X10_judge_17 k0z) (fun _ _ => none) n) v2 σ = some _ := h
    unfold F_X10_judge_17 at h
    refine lv_iload_n (pc := 17) hx hb dX10_judge_17 rfl (lv_at hl 1 rfl) ?_
    refine lv_aload_n (pc := 18) hx hb dX10_judge_18 rfl (lv_at hl 0 rfl) ?_
    refine gt_X10_249 X hP hz0 dX10_judge_19 ?_
    refine lv_icmp_ge (pc := 22) (tgt := 103) hx hb dX10_judge_22 (by decide) (fun c7 => ?_) (fun c7 => ?_)
    · have h := ipos c7 h
      refine lv_aload_n (pc := 103) hx hb dX10_judge_103 rfl (lv_at hl 0 rfl) ?_
      refine gt_X10_249 X hP hz0 dX10_judge_104 ?_
      refine lv_aload_n (pc := 107) hx hb dX10_judge_107 rfl (lv_at hl 0 rfl) ?_
      refine gt_X10_295 X hP hz0 dX10_judge_108 ?_
      refine lv_icmp_ge (pc := 111) (tgt := 120) hx hb dX10_judge_111 (by decide) (fun c8 => ?_) (fun c8 => ?_)
      · have h := ipos c8 h
        refine lv_iconst (pc := 120) (v := 0) hx hb dX10_judge_120 (by decide) ?_
        obtain ⟨rfl, rfl⟩ := inj2 h
        exact r_iret X hP hS dX10_judge_121
      · have h := ineg c8 h
        refine lv_sipush (pc := 114) (v := (222)) hx hb dX10_judge_114 (by decide) ?_
        refine lv_goto (pc := 117) (tgt := 121) hx hb dX10_judge_117 (by decide) ?_
        obtain ⟨rfl, rfl⟩ := inj2 h
        exact r_iret X hP hS dX10_judge_121
    · have h := ineg c7 h
      refine lv_iload_n (pc := 25) hx hb dX10_judge_25 rfl (lv_at hl 1 rfl) ?_
      refine lv_aload_n (pc := 26) hx hb dX10_judge_26 rfl (lv_at hl 0 rfl) ?_
      refine gt_X10_295 X hP hz0 dX10_judge_27 ?_
      refine lv_icmp_ge (pc := 30) (tgt := 37) hx hb dX10_judge_30 (by decide) (fun c9 => ?_) (fun c9 => ?_)
      · have h := ipos c9 h
        refine lv_iconst (pc := 37) (v := 0) hx hb dX10_judge_37 (by decide) ?_
        refine lv_istore_n (pc := 38) (lv' := [(3, .int (0 : Int32)), (0, .ref (ga G k0z)), (2, .int v2)]) hx hb dX10_judge_38 rfl hl (by decide) rfl (fun ls hl => ?_)
        refine lv_iconst (pc := 39) (v := 0) hx hb dX10_judge_39 (by decide) ?_
        refine lv_istore (pc := 40) (lv' := [(4, .int (0 : Int32)), (3, .int (0 : Int32)), (0, .ref (ga G k0z)), (2, .int v2)]) hx hb dX10_judge_40 hl (by decide) rfl (fun ls hl => ?_)
        exact w_X10_judge_42 X  hz0 ih1 FU _ _ _ _ _ _ hP hS (lv_sub hl [2, 3, 1, 0] rfl) h
      · have h := ineg c9 h
        refine lv_iconst (pc := 33) (v := 1) hx hb dX10_judge_33 (by decide) ?_
        refine lv_goto (pc := 34) (tgt := 38) hx hb dX10_judge_34 (by decide) ?_
        refine lv_istore_n (pc := 38) (lv' := [(3, .int (1 : Int32)), (0, .ref (ga G k0z)), (2, .int v2)]) hx hb dX10_judge_38 rfl hl (by decide) rfl (fun ls hl => ?_)
        refine lv_iconst (pc := 39) (v := 0) hx hb dX10_judge_39 (by decide) ?_
        refine lv_istore (pc := 40) (lv' := [(4, .int (0 : Int32)), (3, .int (1 : Int32)), (0, .ref (ga G k0z)), (2, .int v2)]) hx hb dX10_judge_40 hl (by decide) rfl (fun ls hl => ?_)
        exact w_X10_judge_42 X  hz0 ih1 FU _ _ _ _ _ _ hP hS (lv_sub hl [2, 3, 1, 0] rfl) h
set_option maxHeartbeats 4000000 in
set_option maxRecDepth 100000 in
theorem c_X10_judge (l : Launch) (G : Gh) {k0 : Nat} {a1 : Int32} {σ : Mem} {rr : Int32} {σr : Mem} (hk0 : kd k0 = 10) (h : f_X10_judge k0 a1 σ = some (rr, σr)) : Met l yX10_judge [Cond.code yX10_judge prog_12_method_81_code 5 (some .int)] RM_X10_judge (va_Pc [.ref (ga G k0), .int a1] (Pre G σ)) (QG G (some (.int rr)) σr) 0 0 (AA G) := by
  refine ct_of (by decide) (fun p e s m below meth c X hP => ?_)
  have hx := X.hx
  have hb := X.hb
  have hS : va_S (AA G) s.heap s.heap [] := va_S.rf
  have hl := lv_entry ([.ref (ga G k0), .int a1]) (n := 5) (Nat.le_of_ble_eq_true rfl)
  rw [lg_entry_eq]
  generalize (lg_sl ([.ref (ga G k0), .int a1]) ++ List.replicate (5 - (lg_sl ([.ref (ga G k0), .int a1])).length) Slot.unset).toArray = ls at hl ⊢
  have hl : lv_has ls 5 [(0, .ref (ga G k0)), (1, .int a1)] := hl
  unfold f_X10_judge at h
  refine lv_aload_n (pc := 0) hx hb dX10_judge_0 rfl (lv_at hl 0 rfl) ?_
  refine lv_iload_n (pc := 1) hx hb dX10_judge_1 rfl (lv_at hl 1 rfl) ?_
  obtain ⟨r3, σ1, e2, h⟩ := bnd2 h
  refine cl_X10_335 X hP hS hk0 (As := [.int a1]) (rest := []) (c_X10_isFree l G hk0 e2) ⟨rfl, rfl, Nat.le_of_ble_eq_true rfl, Nat.le_of_ble_eq_true rfl⟩ rfl hl.1 rfl (Nat.le_of_ble_eq_true rfl) ⟨Nat.zero_le _, Nat.zero_le _⟩ (pc := 2) dX10_judge_2 (fun H locs hP hS => ?_)
  change W p l e _ s m _ below meth c H locs _ _ _ (F0 m (2 + 3) ls (.int r3 :: []))
  refine lv_if_ne (pc := 5) (tgt := 10) hx hb dX10_judge_5 (by decide) (fun c4 => ?_) (fun c4 => ?_)
  · have h := ineg c4 h
    refine lv_aload_n (pc := 10) hx hb dX10_judge_10 rfl (lv_at hl 0 rfl) ?_
    refine lv_iload_n (pc := 11) hx hb dX10_judge_11 rfl (lv_at hl 1 rfl) ?_
    obtain ⟨σ5, e6, h⟩ := bnd1 h
    refine cl_X10_338 X hP hS hk0 (As := [.int a1]) (rest := []) (c_X10_tries l G hk0 e6) ⟨rfl, rfl, Nat.le_of_ble_eq_true rfl, Nat.le_of_ble_eq_true rfl⟩ rfl hl.1 rfl (Nat.le_of_ble_eq_true rfl) ⟨Nat.zero_le _, Nat.zero_le _⟩ (pc := 12) dX10_judge_12 (fun H locs hP hS => ?_)
    change W p l e _ s m _ below meth c H locs _ _ _ (F0 m (12 + 3) ls [])
    refine lv_iconst (pc := 15) (v := 0) hx hb dX10_judge_15 (by decide) ?_
    refine lv_istore_n (pc := 16) (lv' := [(2, .int (0 : Int32)), (0, .ref (ga G k0)), (1, .int a1)]) hx hb dX10_judge_16 rfl hl (by decide) rfl (fun ls hl => ?_)
    exact w_X10_judge_17 X  hk0  FU _ _ _ _ _ hP hS (lv_sub hl [1, 0] rfl) h
  · have h := ipos c4 h
    refine lv_iconst (pc := 8) (v := (-1)) hx hb dX10_judge_8 (by decide) ?_
    obtain ⟨rfl, rfl⟩ := inj2 h
    exact r_iret X hP hS dX10_judge_9
def f_X10_isShelf (a0 : Int32) (σ : Mem) : Option (Int32 × Mem) :=
  bd2 (f_X10_in a0 (0 : Int32) (3 : Int32) σ) fun r3 σ1 =>
  grd (r3 = 0 ∨ r3 = 1) <|
  some (r3, σ1)
abbrev RM_X10_isShelf : Room := { frames := 1, cells := 0, slots := 0, locals := 22 }
set_option maxHeartbeats 4000000 in
set_option maxRecDepth 100000 in
theorem c_X10_isShelf (l : Launch) (G : Gh) {a0 : Int32} {σ : Mem} {rr : Int32} {σr : Mem} (h : f_X10_isShelf a0 σ = some (rr, σr)) : Met l yX10_isShelf [Cond.code yX10_isShelf prog_12_method_83_code 1 (some .boolean)] RM_X10_isShelf (va_Pc [.int a0] (Pre G σ)) (QG G (some (.int rr)) σr) 0 0 (AA G) := by
  refine ct_of (by decide) (fun p e s m below meth c X hP => ?_)
  have hx := X.hx
  have hb := X.hb
  have hS : va_S (AA G) s.heap s.heap [] := va_S.rf
  have hl := lv_entry ([.int a0]) (n := 1) (Nat.le_of_ble_eq_true rfl)
  rw [lg_entry_eq]
  generalize (lg_sl ([.int a0]) ++ List.replicate (1 - (lg_sl ([.int a0])).length) Slot.unset).toArray = ls at hl ⊢
  have hl : lv_has ls 1 [(0, .int a0)] := hl
  unfold f_X10_isShelf at h
  refine lv_iload_n (pc := 0) hx hb dX10_isShelf_0 rfl (lv_at hl 0 rfl) ?_
  refine lv_iconst (pc := 1) (v := 0) hx hb dX10_isShelf_1 (by decide) ?_
  refine lv_iconst (pc := 2) (v := 3) hx hb dX10_isShelf_2 (by decide) ?_
  obtain ⟨r3, σ1, e2, h⟩ := bnd2 h
  refine cl_X10_120 X hP hS (As := [.int a0, .int (0 : Int32), .int (3 : Int32)]) (rest := []) (c_X10_in l G  e2) ⟨rfl, rfl, Nat.le_of_ble_eq_true rfl, Nat.le_of_ble_eq_true rfl⟩ rfl hl.1 rfl (Nat.le_of_ble_eq_true rfl) ⟨Nat.zero_le _, Nat.zero_le _⟩ (pc := 3) dX10_isShelf_3 (fun H locs hP hS => ?_)
  change W p l e _ s m _ below meth c H locs _ _ _ (F0 m (3 + 3) ls (.int r3 :: []))
  obtain ⟨g4, h⟩ := grd_inv h
  obtain ⟨rfl, rfl⟩ := inj2 h
  exact r_zret X hP hS g4 dX10_isShelf_6
def f_X10_lacksSort (k0 : Nat) (a1 : Int32) (a2 : Int32) (σ : Mem) : Option (Int32 × Mem) :=
  bd1 (ixo (k0 + 24) a1) fun j1 =>
  if (0 : Int32) ≤ (gI σ (k0 + 24) j1) then
    bd1 (ixo (k0 + 24) a1) fun j4 =>
    if (gI σ (k0 + 24) j4) = a2 then
      some ((0 : Int32), σ)
    else
      some ((-13 : Int32), σ)
  else
    some ((-11 : Int32), σ)
abbrev RM_X10_lacksSort : Room := { frames := 0, cells := 0, slots := 0, locals := 0 }
set_option maxHeartbeats 4000000 in
set_option maxRecDepth 100000 in
theorem c_X10_lacksSort (l : Launch) (G : Gh) {k0 : Nat} {a1 : Int32} {a2 : Int32} {σ : Mem} {rr : Int32} {σr : Mem} (hk0 : kd k0 = 10) (h : f_X10_lacksSort k0 a1 a2 σ = some (rr, σr)) : Met l yX10_lacksSort [Cond.code yX10_lacksSort prog_12_method_86_code 3 (some .int)] RM_X10_lacksSort (va_Pc [.ref (ga G k0), .int a1, .int a2] (Pre G σ)) (QG G (some (.int rr)) σr) 0 0 (AA G) := by
  refine ct_of (by decide) (fun p e s m below meth c X hP => ?_)
  have hx := X.hx
  have hb := X.hb
  have hS : va_S (AA G) s.heap s.heap [] := va_S.rf
  have hl := lv_entry ([.ref (ga G k0), .int a1, .int a2]) (n := 3) (Nat.le_of_ble_eq_true rfl)
  rw [lg_entry_eq]
  generalize (lg_sl ([.ref (ga G k0), .int a1, .int a2]) ++ List.replicate (3 - (lg_sl ([.ref (ga G k0), .int a1, .int a2])).length) Slot.unset).toArray = ls at hl ⊢
  have hl : lv_has ls 3 [(0, .ref (ga G k0)), (1, .int a1), (2, .int a2)] := hl
  unfold f_X10_lacksSort at h
  refine lv_aload_n (pc := 0) hx hb dX10_lacksSort_0 rfl (lv_at hl 0 rfl) ?_
  refine gt_X10_89 X hP hk0 dX10_lacksSort_1 ?_
  refine lv_iload_n (pc := 4) hx hb dX10_lacksSort_4 rfl (lv_at hl 1 rfl) ?_
  obtain ⟨j1, hj2, h⟩ := bnd1 h
  refine r_iald (pc := 5) X hP (kf_10_sorts hk0).1 hj2 dX10_lacksSort_5 ?_
  refine lv_if_ge (pc := 6) (tgt := 14) hx hb dX10_lacksSort_6 (by decide) (fun c3 => ?_) (fun c3 => ?_)
  · have h := ipos c3 h
    refine lv_aload_n (pc := 14) hx hb dX10_lacksSort_14 rfl (lv_at hl 0 rfl) ?_
    refine gt_X10_89 X hP hk0 dX10_lacksSort_15 ?_
    refine lv_iload_n (pc := 18) hx hb dX10_lacksSort_18 rfl (lv_at hl 1 rfl) ?_
    obtain ⟨j4, hj5, h⟩ := bnd1 h
    refine r_iald (pc := 19) X hP (kf_10_sorts hk0).1 hj5 dX10_lacksSort_19 ?_
    refine lv_iload_n (pc := 20) hx hb dX10_lacksSort_20 rfl (lv_at hl 2 rfl) ?_
    refine lv_icmp_eq (pc := 21) (tgt := 29) hx hb dX10_lacksSort_21 (by decide) (fun c6 => ?_) (fun c6 => ?_)
    · have h := ipos c6 h
      refine lv_iconst (pc := 29) (v := 0) hx hb dX10_lacksSort_29 (by decide) ?_
      obtain ⟨rfl, rfl⟩ := inj2 h
      exact r_iret X hP hS dX10_lacksSort_30
    · have h := ineg c6 h
      refine lv_bipush (pc := 24) (v := (-13)) hx hb dX10_lacksSort_24 (by decide) ?_
      refine lv_goto (pc := 26) (tgt := 30) hx hb dX10_lacksSort_26 (by decide) ?_
      obtain ⟨rfl, rfl⟩ := inj2 h
      exact r_iret X hP hS dX10_lacksSort_30
  · have h := ineg c3 h
    refine lv_bipush (pc := 9) (v := (-11)) hx hb dX10_lacksSort_9 (by decide) ?_
    refine lv_goto (pc := 11) (tgt := 30) hx hb dX10_lacksSort_11 (by decide) ?_
    obtain ⟨rfl, rfl⟩ := inj2 h
    exact r_iret X hP hS dX10_lacksSort_30
def F_X10_draughts_75 (k0z : Nat) (p1 : Int32) (p2 : Int32) (p3 : Int32) (p4 : Int32) (rec1 : Int32 → Mem → Option (Int32 × Mem)) : Int32 → Mem → Option (Int32 × Mem) := fun v6 σ =>
  if p4 ≤ v6 then
    some (p4, σ)
  else
    bd1 (ixo (k0z + 26) ((((40 : Int32) * p1) + p2) + v6)) fun j23 =>
    if (0 : Int32) ≤ (lg_cmp (gL σ (k0z + 26) j23) (0 : Int64)) then
      if (lg_cmp (gL σ (k0z + 26) j23) (3 : Int64)) ≤ (0 : Int32) then
        bd1 (ixo (k0z + 6) (p3 + v6)) fun j27 =>
        bd1 (some (pI σ (k0z + 6) j27 (gL σ (k0z + 26) j23).toInt32)) fun σ29 =>
        rec1 (v6 + (1 : Int32)) σ29
      else
        bd1 (ixo (k0z + 6) (p3 + v6)) fun j31 =>
        bd1 (some (pI σ (k0z + 6) j31 (3 : Int32))) fun σ33 =>
        rec1 (v6 + (1 : Int32)) σ33
    else
      bd1 (ixo (k0z + 6) (p3 + v6)) fun j35 =>
      bd1 (some (pI σ (k0z + 6) j35 (0 : Int32))) fun σ37 =>
      rec1 (v6 + (1 : Int32)) σ37
def f_X10_draughts (k0 : Nat) (a1 : Int32) (a2 : Int32) (a3 : Int32) (a4 : Int32) (σ : Mem) : Option (Int32 × Mem) :=
  bd2 (f_X10_isShelf a1 σ) fun r3 σ1 =>
  if r3 = (0 : Int32) then
    some ((-1 : Int32), σ1)
  else
    bd2 (f_X10_isPlace a3 σ1) fun r7 σ5 =>
    if r7 = (0 : Int32) then
      some ((-1 : Int32), σ5)
    else
      bd2 (f_X10_in a4 (0 : Int32) (12 : Int32) σ5) fun r11 σ9 =>
      if r11 = (0 : Int32) then
        some ((-1 : Int32), σ9)
      else
        if (a3 + a4) ≤ (12 : Int32) then
          bd2 (f_X10_lacksSort k0 a1 (0 : Int32) σ9) fun r16 σ14 =>
          if r16 = (0 : Int32) then
            if a2 < (0 : Int32) then
              some ((-12 : Int32), σ14)
            else
              bd1 (ixo (k0 + 25) a1) fun j19 =>
              if a2 ≤ ((gI σ14 (k0 + 25) j19) - a4) then
                iterF (F_X10_draughts_75 k0 a1 a2 a3 a4) (fun _ _ => none) FU (0 : Int32) σ14
              else
                some ((-12 : Int32), σ14)
          else
            some (r16, σ14)
        else
          some ((-1 : Int32), σ9)
abbrev RM_X10_draughts : Room := { frames := 2, cells := 0, slots := 0, locals := 42 }
set_option maxHeartbeats 4000000 in
set_option maxRecDepth 100000 in
theorem w_X10_draughts_75 {l : Launch} {G : Gh} {p : Program} {e : Env} {s : State} {m : MethodId} {args : Array Value} {below : List Frame} {meth : Method} {c : Code} (X : Cx G p s m args meth c prog_12_method_82_code RX10 9 (some .int)) {k0z : Nat} {p1 : Int32} {p2 : Int32} {p3 : Int32} {p4 : Int32} (hz0 : kd k0z = 10) {rr : Int32} {σr : Mem} : ∀ (n : Nat) (v6 : Int32) (σ : Mem) (H : Heap) (locs : List Loc) (ls : Array Slot), PW G σ H → va_S (AA G) s.heap H locs → lv_has ls 9 [(0, .ref (ga G k0z)), (1, .int p1), (2, .int p2), (3, .int p3), (4, .int p4), (6, .int v6)] → iterF (F_X10_draughts_75 k0z p1 p2 p3 p4) (fun _ _ => none) n v6 σ = some (rr, σr) → W p l e RM_X10_draughts s m args below meth c H locs 0 0 (MQ below (QG G (some (.int rr)) σr) args s 0 0 (AA G)) (F0 m 75 ls []) := by
  have hx := X.hx
  have hb := X.hb
  intro n
  induction n with
  | zero => intro v6 σ H locs ls hP hS hl h; exact nnone (α := (Int32 × Mem)) h
  | succ n ih1 =>
    intro v6 σ H locs ls hP hS hl h
    have h : F_X10_draughts_75 k0z p1 p2 p3 p4 (iterF (F_X10_draughts_75 k0z p1 p2 p3 p4) (fun _ _ => none) n) v6 σ = some _ := h
    unfold F_X10_draughts_75 at h
    refine lv_iload (pc := 75) hx hb dX10_draughts_75 (lv_at hl 5 rfl) ?_
    refine lv_iload (pc := 77) hx hb dX10_draughts_77 (lv_at hl 4 rfl) ?_
    refine lv_icmp_ge (pc := 79) (tgt := 140) hx hb dX10_draughts_79 (by decide) (fun c22 => ?_) (fun c22 => ?_)
    · have h := ipos c22 h
      refine lv_iload (pc := 140) hx hb dX10_draughts_140 (lv_at hl 4 rfl) ?_
      obtain ⟨rfl, rfl⟩ := inj2 h
      exact r_iret X hP hS dX10_draughts_142
    · have h := ineg c22 h
      refine lv_aload_n (pc := 82) hx hb dX10_draughts_82 rfl (lv_at hl 0 rfl) ?_
      refine gt_X10_95 X hP hz0 dX10_draughts_83 ?_
      refine lv_bipush (pc := 86) (v := (40)) hx hb dX10_draughts_86 (by decide) ?_
      refine lv_iload_n (pc := 88) hx hb dX10_draughts_88 rfl (lv_at hl 1 rfl) ?_
      refine lv_imul (pc := 89) hx hb dX10_draughts_89 ?_
      refine lv_iload_n (pc := 90) hx hb dX10_draughts_90 rfl (lv_at hl 2 rfl) ?_
      refine lv_iadd (pc := 91) hx hb dX10_draughts_91 ?_
      refine lv_iload (pc := 92) hx hb dX10_draughts_92 (lv_at hl 5 rfl) ?_
      refine lv_iadd (pc := 94) hx hb dX10_draughts_94 ?_
      obtain ⟨j23, hj24, h⟩ := bnd1 h
      refine r_lald (pc := 95) X hP (kf_10_sheets hz0).1 hj24 dX10_draughts_95 ?_
      refine lv_lstore (pc := 96) (lv' := [(7, .long (gL σ (k0z + 26) j23)), (0, .ref (ga G k0z)), (1, .int p1), (2, .int p2), (3, .int p3), (4, .int p4), (6, .int v6)]) hx hb dX10_draughts_96 hl (by decide) rfl (fun ls hl => ?_)
      refine lv_aload_n (pc := 98) hx hb dX10_draughts_98 rfl (lv_at hl 1 rfl) ?_
      refine gt_X10_25 X hP hz0 dX10_draughts_99 ?_
      refine lv_iload_n (pc := 102) hx hb dX10_draughts_102 rfl (lv_at hl 4 rfl) ?_
      refine lv_iload (pc := 103) hx hb dX10_draughts_103 (lv_at hl 6 rfl) ?_
      refine lv_iadd (pc := 105) hx hb dX10_draughts_105 ?_
      refine lv_lload (pc := 106) hx hb dX10_draughts_106 (lv_at hl 0 rfl) ?_
      refine lv_lconst (pc := 108) (v := 0) hx hb dX10_draughts_108 (by decide) ?_
      refine W.lcmp (pc := 109) hx hb dX10_draughts_109 ?_
      refine lv_if_ge (pc := 110) (tgt := 117) hx hb dX10_draughts_110 (by decide) (fun c25 => ?_) (fun c25 => ?_)
      · have h := ipos c25 h
        refine lv_lload (pc := 117) hx hb dX10_draughts_117 (lv_at hl 0 rfl) ?_
        refine lv_ldc2 (pc := 119) (v := (3)) hx hb X.hown (X.tb tw_1512 rfl) dX10_draughts_119 ?_
        refine W.lcmp (pc := 122) hx hb dX10_draughts_122 ?_
        refine lv_if_le (pc := 123) (tgt := 130) hx hb dX10_draughts_123 (by decide) (fun c26 => ?_) (fun c26 => ?_)
        · have h := ipos c26 h
          refine lv_lload (pc := 130) hx hb dX10_draughts_130 (lv_at hl 0 rfl) ?_
          refine lv_l2i (pc := 132) (v := (gL σ (k0z + 26) j23).toInt32) hx hb dX10_draughts_132 rfl ?_
          obtain ⟨j27, hj28, h⟩ := bnd1 h
          obtain ⟨σ29, e30, h⟩ := bnd1 h
          refine r_iast (pc := 133) X hP hS (kf_10_draughts hz0).1 hj28 dX10_draughts_133 (fun H locs hP hS => ?_)
          rw [Option.some.inj e30] at hP
          refine lv_iinc (pc := 134) (v := (v6 + (1 : Int32))) (lv' := [(6, .int (v6 + (1 : Int32))), (7, .long (gL σ (k0z + 26) j23)), (0, .ref (ga G k0z)), (1, .int p1), (2, .int p2), (3, .int p3), (4, .int p4)]) hx hb dX10_draughts_134 hl (k := 6) rfl (congrArg (fun z => v6 + z) (by decide)) (by decide) rfl (fun ls hl => ?_)
          refine lv_goto (pc := 137) (tgt := 75) hx hb dX10_draughts_137 (by decide) ?_
          exact ih1 _ _ _ _ _ hP hS (lv_sub hl [2, 3, 4, 5, 6, 0] rfl) h
        · have h := ineg c26 h
          refine lv_iconst (pc := 126) (v := 3) hx hb dX10_draughts_126 (by decide) ?_
          refine lv_goto (pc := 127) (tgt := 133) hx hb dX10_draughts_127 (by decide) ?_
          obtain ⟨j31, hj32, h⟩ := bnd1 h
          obtain ⟨σ33, e34, h⟩ := bnd1 h
          refine r_iast (pc := 133) X hP hS (kf_10_draughts hz0).1 hj32 dX10_draughts_133 (fun H locs hP hS => ?_)
          rw [Option.some.inj e34] at hP
          refine lv_iinc (pc := 134) (v := (v6 + (1 : Int32))) (lv' := [(6, .int (v6 + (1 : Int32))), (7, .long (gL σ (k0z + 26) j23)), (0, .ref (ga G k0z)), (1, .int p1), (2, .int p2), (3, .int p3), (4, .int p4)]) hx hb dX10_draughts_134 hl (k := 6) rfl (congrArg (fun z => v6 + z) (by decide)) (by decide) rfl (fun ls hl => ?_)
          refine lv_goto (pc := 137) (tgt := 75) hx hb dX10_draughts_137 (by decide) ?_
          exact ih1 _ _ _ _ _ hP hS (lv_sub hl [2, 3, 4, 5, 6, 0] rfl) h
      · have h := ineg c25 h
        refine lv_iconst (pc := 113) (v := 0) hx hb dX10_draughts_113 (by decide) ?_
        refine lv_goto (pc := 114) (tgt := 133) hx hb dX10_draughts_114 (by decide) ?_
        obtain ⟨j35, hj36, h⟩ := bnd1 h
        obtain ⟨σ37, e38, h⟩ := bnd1 h
        refine r_iast (pc := 133) X hP hS (kf_10_draughts hz0).1 hj36 dX10_draughts_133 (fun H locs hP hS => ?_)
        rw [Option.some.inj e38] at hP
        refine lv_iinc (pc := 134) (v := (v6 + (1 : Int32))) (lv' := [(6, .int (v6 + (1 : Int32))), (7, .long (gL σ (k0z + 26) j23)), (0, .ref (ga G k0z)), (1, .int p1), (2, .int p2), (3, .int p3), (4, .int p4)]) hx hb dX10_draughts_134 hl (k := 6) rfl (congrArg (fun z => v6 + z) (by decide)) (by decide) rfl (fun ls hl => ?_)
        refine lv_goto (pc := 137) (tgt := 75) hx hb dX10_draughts_137 (by decide) ?_
        exact ih1 _ _ _ _ _ hP hS (lv_sub hl [2, 3, 4, 5, 6, 0] rfl) h
set_option maxHeartbeats 4000000 in
set_option maxRecDepth 100000 in
theorem c_X10_draughts (l : Launch) (G : Gh) {k0 : Nat} {a1 : Int32} {a2 : Int32} {a3 : Int32} {a4 : Int32} {σ : Mem} {rr : Int32} {σr : Mem} (hk0 : kd k0 = 10) (h : f_X10_draughts k0 a1 a2 a3 a4 σ = some (rr, σr)) : Met l yX10_draughts [Cond.code yX10_draughts prog_12_method_82_code 9 (some .int)] RM_X10_draughts (va_Pc [.ref (ga G k0), .int a1, .int a2, .int a3, .int a4] (Pre G σ)) (QG G (some (.int rr)) σr) 0 0 (AA G) := by
  refine ct_of (by decide) (fun p e s m below meth c X hP => ?_)
  have hx := X.hx
  have hb := X.hb
  have hS : va_S (AA G) s.heap s.heap [] := va_S.rf
  have hl := lv_entry ([.ref (ga G k0), .int a1, .int a2, .int a3, .int a4]) (n := 9) (Nat.le_of_ble_eq_true rfl)
  rw [lg_entry_eq]
  generalize (lg_sl ([.ref (ga G k0), .int a1, .int a2, .int a3, .int a4]) ++ List.replicate (9 - (lg_sl ([.ref (ga G k0), .int a1, .int a2, .int a3, .int a4])).length) Slot.unset).toArray = ls at hl ⊢
  have hl : lv_has ls 9 [(0, .ref (ga G k0)), (1, .int a1), (2, .int a2), (3, .int a3), (4, .int a4)] := hl
  unfold f_X10_draughts at h
  refine lv_iload_n (pc := 0) hx hb dX10_draughts_0 rfl (lv_at hl 1 rfl) ?_
  obtain ⟨r3, σ1, e2, h⟩ := bnd2 h
  refine cl_X10_361 X hP hS (As := [.int a1]) (rest := []) (c_X10_isShelf l G  e2) ⟨rfl, rfl, Nat.le_of_ble_eq_true rfl, Nat.le_of_ble_eq_true rfl⟩ rfl hl.1 rfl (Nat.le_of_ble_eq_true rfl) ⟨Nat.zero_le _, Nat.zero_le _⟩ (pc := 1) dX10_draughts_1 (fun H locs hP hS => ?_)
  change W p l e _ s m _ below meth c H locs _ _ _ (F0 m (1 + 3) ls (.int r3 :: []))
  refine lv_if_eq (pc := 4) (tgt := 34) hx hb dX10_draughts_4 (by decide) (fun c4 => ?_) (fun c4 => ?_)
  · have h := ipos c4 h
    refine lv_iconst (pc := 34) (v := (-1)) hx hb dX10_draughts_34 (by decide) ?_
    obtain ⟨rfl, rfl⟩ := inj2 h
    exact r_iret X hP hS dX10_draughts_35
  · have h := ineg c4 h
    refine lv_iload_n (pc := 7) hx hb dX10_draughts_7 rfl (lv_at hl 3 rfl) ?_
    obtain ⟨r7, σ5, e6, h⟩ := bnd2 h
    refine cl_X10_268 X hP hS (As := [.int a3]) (rest := []) (c_X10_isPlace l G  e6) ⟨rfl, rfl, Nat.le_of_ble_eq_true rfl, Nat.le_of_ble_eq_true rfl⟩ rfl hl.1 rfl (Nat.le_of_ble_eq_true rfl) ⟨Nat.zero_le _, Nat.zero_le _⟩ (pc := 8) dX10_draughts_8 (fun H locs hP hS => ?_)
    change W p l e _ s m _ below meth c H locs _ _ _ (F0 m (8 + 3) ls (.int r7 :: []))
    refine lv_if_eq (pc := 11) (tgt := 34) hx hb dX10_draughts_11 (by decide) (fun c8 => ?_) (fun c8 => ?_)
    · have h := ipos c8 h
      refine lv_iconst (pc := 34) (v := (-1)) hx hb dX10_draughts_34 (by decide) ?_
      obtain ⟨rfl, rfl⟩ := inj2 h
      exact r_iret X hP hS dX10_draughts_35
    · have h := ineg c8 h
      refine lv_iload (pc := 14) hx hb dX10_draughts_14 (lv_at hl 4 rfl) ?_
      refine lv_iconst (pc := 16) (v := 0) hx hb dX10_draughts_16 (by decide) ?_
      refine lv_bipush (pc := 17) (v := (12)) hx hb dX10_draughts_17 (by decide) ?_
      obtain ⟨r11, σ9, e10, h⟩ := bnd2 h
      refine cl_X10_120 X hP hS (As := [.int a4, .int (0 : Int32), .int (12 : Int32)]) (rest := []) (c_X10_in l G  e10) ⟨rfl, rfl, Nat.le_of_ble_eq_true rfl, Nat.le_of_ble_eq_true rfl⟩ rfl hl.1 rfl (Nat.le_of_ble_eq_true rfl) ⟨Nat.zero_le _, Nat.zero_le _⟩ (pc := 19) dX10_draughts_19 (fun H locs hP hS => ?_)
      change W p l e _ s m _ below meth c H locs _ _ _ (F0 m (19 + 3) ls (.int r11 :: []))
      refine lv_if_eq (pc := 22) (tgt := 34) hx hb dX10_draughts_22 (by decide) (fun c12 => ?_) (fun c12 => ?_)
      · have h := ipos c12 h
        refine lv_iconst (pc := 34) (v := (-1)) hx hb dX10_draughts_34 (by decide) ?_
        obtain ⟨rfl, rfl⟩ := inj2 h
        exact r_iret X hP hS dX10_draughts_35
      · have h := ineg c12 h
        refine lv_iload_n (pc := 25) hx hb dX10_draughts_25 rfl (lv_at hl 3 rfl) ?_
        refine lv_iload (pc := 26) hx hb dX10_draughts_26 (lv_at hl 4 rfl) ?_
        refine lv_iadd (pc := 28) hx hb dX10_draughts_28 ?_
        refine lv_bipush (pc := 29) (v := (12)) hx hb dX10_draughts_29 (by decide) ?_
        refine lv_icmp_le (pc := 31) (tgt := 36) hx hb dX10_draughts_31 (by decide) (fun c13 => ?_) (fun c13 => ?_)
        · have h := ipos c13 h
          refine lv_aload_n (pc := 36) hx hb dX10_draughts_36 rfl (lv_at hl 0 rfl) ?_
          refine lv_iload_n (pc := 37) hx hb dX10_draughts_37 rfl (lv_at hl 1 rfl) ?_
          refine lv_iconst (pc := 38) (v := 0) hx hb dX10_draughts_38 (by decide) ?_
          obtain ⟨r16, σ14, e15, h⟩ := bnd2 h
          refine cl_X10_364 X hP hS hk0 (As := [.int a1, .int (0 : Int32)]) (rest := []) (c_X10_lacksSort l G hk0 e15) ⟨rfl, rfl, Nat.le_of_ble_eq_true rfl, Nat.le_of_ble_eq_true rfl⟩ rfl hl.1 rfl (Nat.le_of_ble_eq_true rfl) ⟨Nat.zero_le _, Nat.zero_le _⟩ (pc := 39) dX10_draughts_39 (fun H locs hP hS => ?_)
          change W p l e _ s m _ below meth c H locs _ _ _ (F0 m (39 + 3) ls (.int r16 :: []))
          refine lv_istore (pc := 42) (lv' := [(5, .int r16), (0, .ref (ga G k0)), (1, .int a1), (2, .int a2), (3, .int a3), (4, .int a4)]) hx hb dX10_draughts_42 hl (by decide) rfl (fun ls hl => ?_)
          refine lv_iload (pc := 44) hx hb dX10_draughts_44 (lv_at hl 0 rfl) ?_
          refine lv_if_eq (pc := 46) (tgt := 52) hx hb dX10_draughts_46 (by decide) (fun c17 => ?_) (fun c17 => ?_)
          · have h := ipos c17 h
            refine lv_iload_n (pc := 52) hx hb dX10_draughts_52 rfl (lv_at hl 3 rfl) ?_
            refine lv_if_lt (pc := 53) (tgt := 69) hx hb dX10_draughts_53 (by decide) (fun c18 => ?_) (fun c18 => ?_)
            · have h := ipos c18 h
              refine lv_bipush (pc := 69) (v := (-12)) hx hb dX10_draughts_69 (by decide) ?_
              obtain ⟨rfl, rfl⟩ := inj2 h
              exact r_iret X hP hS dX10_draughts_71
            · have h := ineg c18 h
              refine lv_iload_n (pc := 56) hx hb dX10_draughts_56 rfl (lv_at hl 3 rfl) ?_
              refine lv_aload_n (pc := 57) hx hb dX10_draughts_57 rfl (lv_at hl 1 rfl) ?_
              refine gt_X10_92 X hP hk0 dX10_draughts_58 ?_
              refine lv_iload_n (pc := 61) hx hb dX10_draughts_61 rfl (lv_at hl 2 rfl) ?_
              obtain ⟨j19, hj20, h⟩ := bnd1 h
              refine r_iald (pc := 62) X hP (kf_10_sizes hk0).1 hj20 dX10_draughts_62 ?_
              refine lv_iload (pc := 63) hx hb dX10_draughts_63 (lv_at hl 5 rfl) ?_
              refine lv_isub (pc := 65) hx hb dX10_draughts_65 ?_
              refine lv_icmp_le (pc := 66) (tgt := 72) hx hb dX10_draughts_66 (by decide) (fun c21 => ?_) (fun c21 => ?_)
              · have h := ipos c21 h
                refine lv_iconst (pc := 72) (v := 0) hx hb dX10_draughts_72 (by decide) ?_
                refine lv_istore (pc := 73) (lv' := [(6, .int (0 : Int32)), (5, .int r16), (0, .ref (ga G k0)), (1, .int a1), (2, .int a2), (3, .int a3), (4, .int a4)]) hx hb dX10_draughts_73 hl (by decide) rfl (fun ls hl => ?_)
                exact w_X10_draughts_75 X  hk0  FU _ _ _ _ _ hP hS (lv_sub hl [2, 3, 4, 5, 6, 0] rfl) h
              · have h := ineg c21 h
                refine lv_bipush (pc := 69) (v := (-12)) hx hb dX10_draughts_69 (by decide) ?_
                obtain ⟨rfl, rfl⟩ := inj2 h
                exact r_iret X hP hS dX10_draughts_71
          · have h := ineg c17 h
            refine lv_iload (pc := 49) hx hb dX10_draughts_49 (lv_at hl 0 rfl) ?_
            obtain ⟨rfl, rfl⟩ := inj2 h
            exact r_iret X hP hS dX10_draughts_51
        · have h := ineg c13 h
          refine lv_iconst (pc := 34) (v := (-1)) hx hb dX10_draughts_34 (by decide) ?_
          obtain ⟨rfl, rfl⟩ := inj2 h
          exact r_iret X hP hS dX10_draughts_35
def F_X10_sheet_64 (k0z : Nat) (p1 : Int32) (rec1 : Int32 → Mem → Option (Int32 × Mem)) : Int32 → Mem → Option (Int32 × Mem) := fun v4 σ =>
  if (40 : Int32) ≤ v4 then
    some ((1 : Int32), σ)
  else
    bd1 (ixo (k0z + 26) (((40 : Int32) * p1) + v4)) fun j21 =>
    bd1 (some (pL σ (k0z + 26) j21 (0 : Int64))) fun σ23 =>
    rec1 (v4 + (1 : Int32)) σ23
def F_X10_sheet_39 (k0z : Nat) (v1 : Int32) (v2 : Int32) (v3 : Int32) (σ : Mem) : Option (Int32 × Mem) :=
  bd1 (ixo (k0z + 24) v1) fun j11 =>
  bd1 (some (pI σ (k0z + 24) j11 v2)) fun σ13 =>
  if (0 : Int32) ≤ v2 then
    bd1 (ixo (k0z + 25) v1) fun j16 =>
    bd1 (some (pI σ13 (k0z + 25) j16 v3)) fun σ18 =>
    iterF (F_X10_sheet_64 k0z v1) (fun _ _ => none) FU (0 : Int32) σ18
  else
    bd1 (ixo (k0z + 25) v1) fun j25 =>
    bd1 (some (pI σ13 (k0z + 25) j25 (0 : Int32))) fun σ27 =>
    iterF (F_X10_sheet_64 k0z v1) (fun _ _ => none) FU (0 : Int32) σ27
def f_X10_sheet (k0 : Nat) (a1 : Int32) (a2 : Int32) (a3 : Int32) (σ : Mem) : Option (Int32 × Mem) :=
  bd2 (f_X10_isShelf a1 σ) fun r3 σ1 =>
  if r3 = (0 : Int32) then
    some ((-1 : Int32), σ1)
  else
    bd2 (f_X10_in a2 (-1 : Int32) (3 : Int32) σ1) fun r7 σ5 =>
    if r7 = (0 : Int32) then
      some ((-1 : Int32), σ5)
    else
      if a2 < (0 : Int32) then
        if a2 < (0 : Int32) then
          F_X10_sheet_39 k0 a1 a2 a3 σ5
        else
          if (0 : Int32) ≤ a3 then
            F_X10_sheet_39 k0 a1 a2 a3 σ5
          else
            some ((-14 : Int32), σ5)
      else
        if a3 ≤ (40 : Int32) then
          if a2 < (0 : Int32) then
            F_X10_sheet_39 k0 a1 a2 a3 σ5
          else
            if (0 : Int32) ≤ a3 then
              F_X10_sheet_39 k0 a1 a2 a3 σ5
            else
              some ((-14 : Int32), σ5)
        else
          some ((-1 : Int32), σ5)
abbrev RM_X10_sheet : Room := { frames := 2, cells := 0, slots := 0, locals := 42 }
set_option maxHeartbeats 4000000 in
set_option maxRecDepth 100000 in
theorem w_X10_sheet_64 {l : Launch} {G : Gh} {p : Program} {e : Env} {s : State} {m : MethodId} {args : Array Value} {below : List Frame} {meth : Method} {c : Code} (X : Cx G p s m args meth c prog_12_method_84_code RX10 5 (some .int)) {k0z : Nat} {p1 : Int32} (hz0 : kd k0z = 10) {rr : Int32} {σr : Mem} : ∀ (n : Nat) (v4 : Int32) (σ : Mem) (H : Heap) (locs : List Loc) (ls : Array Slot), PW G σ H → va_S (AA G) s.heap H locs → lv_has ls 5 [(0, .ref (ga G k0z)), (1, .int p1), (4, .int v4)] → iterF (F_X10_sheet_64 k0z p1) (fun _ _ => none) n v4 σ = some (rr, σr) → W p l e RM_X10_sheet s m args below meth c H locs 0 0 (MQ below (QG G (some (.int rr)) σr) args s 0 0 (AA G)) (F0 m 64 ls []) := by
  have hx := X.hx
  have hb := X.hb
  intro n
  induction n with
  | zero => intro v4 σ H locs ls hP hS hl h; exact nnone (α := (Int32 × Mem)) h
  | succ n ih1 =>
    intro v4 σ H locs ls hP hS hl h
    have h : F_X10_sheet_64 k0z p1 (iterF (F_X10_sheet_64 k0z p1) (fun _ _ => none) n) v4 σ = some _ := h
    unfold F_X10_sheet_64 at h
    refine lv_iload (pc := 64) hx hb dX10_sheet_64 (lv_at hl 2 rfl) ?_
    refine lv_bipush (pc := 66) (v := (40)) hx hb dX10_sheet_66 (by decide) ?_
    refine lv_icmp_ge (pc := 68) (tgt := 90) hx hb dX10_sheet_68 (by decide) (fun c20 => ?_) (fun c20 => ?_)
    · have h := ipos c20 h
      refine lv_iconst (pc := 90) (v := 1) hx hb dX10_sheet_90 (by decide) ?_
      obtain ⟨rfl, rfl⟩ := inj2 h
      exact r_iret X hP hS dX10_sheet_91
    · have h := ineg c20 h
      refine lv_aload_n (pc := 71) hx hb dX10_sheet_71 rfl (lv_at hl 0 rfl) ?_
      refine gt_X10_95 X hP hz0 dX10_sheet_72 ?_
      refine lv_bipush (pc := 75) (v := (40)) hx hb dX10_sheet_75 (by decide) ?_
      refine lv_iload_n (pc := 77) hx hb dX10_sheet_77 rfl (lv_at hl 1 rfl) ?_
      refine lv_imul (pc := 78) hx hb dX10_sheet_78 ?_
      refine lv_iload (pc := 79) hx hb dX10_sheet_79 (lv_at hl 2 rfl) ?_
      refine lv_iadd (pc := 81) hx hb dX10_sheet_81 ?_
      refine lv_lconst (pc := 82) (v := 0) hx hb dX10_sheet_82 (by decide) ?_
      obtain ⟨j21, hj22, h⟩ := bnd1 h
      obtain ⟨σ23, e24, h⟩ := bnd1 h
      refine r_last (pc := 83) X hP hS (kf_10_sheets hz0).1 hj22 dX10_sheet_83 (fun H locs hP hS => ?_)
      rw [Option.some.inj e24] at hP
      refine lv_iinc (pc := 84) (v := (v4 + (1 : Int32))) (lv' := [(4, .int (v4 + (1 : Int32))), (0, .ref (ga G k0z)), (1, .int p1)]) hx hb dX10_sheet_84 hl (k := 2) rfl (congrArg (fun z => v4 + z) (by decide)) (by decide) rfl (fun ls hl => ?_)
      refine lv_goto (pc := 87) (tgt := 64) hx hb dX10_sheet_87 (by decide) ?_
      exact ih1 _ _ _ _ _ hP hS (lv_sub hl [1, 2, 0] rfl) h
set_option maxHeartbeats 4000000 in
set_option maxRecDepth 100000 in
theorem w_X10_sheet_39 {l : Launch} {G : Gh} {p : Program} {e : Env} {s : State} {m : MethodId} {args : Array Value} {below : List Frame} {meth : Method} {c : Code} (X : Cx G p s m args meth c prog_12_method_84_code RX10 5 (some .int)) {k0z : Nat} (hz0 : kd k0z = 10) {rr : Int32} {σr : Mem} : ∀ (v1 : Int32) (v2 : Int32) (v3 : Int32) (σ : Mem) (H : Heap) (locs : List Loc) (ls : Array Slot), PW G σ H → va_S (AA G) s.heap H locs → lv_has ls 5 [(0, .ref (ga G k0z)), (1, .int v1), (2, .int v2), (3, .int v3)] → F_X10_sheet_39 k0z v1 v2 v3 σ = some (rr, σr) → W p l e RM_X10_sheet s m args below meth c H locs 0 0 (MQ below (QG G (some (.int rr)) σr) args s 0 0 (AA G)) (F0 m 39 ls []) := by
  have hx := X.hx
  have hb := X.hb
  intro v1 v2 v3 σ H locs ls hP hS hl h
  unfold F_X10_sheet_39 at h
  refine lv_aload_n (pc := 39) hx hb dX10_sheet_39 rfl (lv_at hl 0 rfl) ?_
  refine gt_X10_89 X hP hz0 dX10_sheet_40 ?_
  refine lv_iload_n (pc := 43) hx hb dX10_sheet_43 rfl (lv_at hl 1 rfl) ?_
  refine lv_iload_n (pc := 44) hx hb dX10_sheet_44 rfl (lv_at hl 2 rfl) ?_
  obtain ⟨j11, hj12, h⟩ := bnd1 h
  obtain ⟨σ13, e14, h⟩ := bnd1 h
  refine r_iast (pc := 45) X hP hS (kf_10_sorts hz0).1 hj12 dX10_sheet_45 (fun H locs hP hS => ?_)
  rw [Option.some.inj e14] at hP
  refine lv_aload_n (pc := 46) hx hb dX10_sheet_46 rfl (lv_at hl 0 rfl) ?_
  refine gt_X10_92 X hP hz0 dX10_sheet_47 ?_
  refine lv_iload_n (pc := 50) hx hb dX10_sheet_50 rfl (lv_at hl 1 rfl) ?_
  refine lv_iload_n (pc := 51) hx hb dX10_sheet_51 rfl (lv_at hl 2 rfl) ?_
  refine lv_if_ge (pc := 52) (tgt := 59) hx hb dX10_sheet_52 (by decide) (fun c15 => ?_) (fun c15 => ?_)
  · have h := ipos c15 h
    refine lv_iload_n (pc := 59) hx hb dX10_sheet_59 rfl (lv_at hl 3 rfl) ?_
    obtain ⟨j16, hj17, h⟩ := bnd1 h
    obtain ⟨σ18, e19, h⟩ := bnd1 h
    refine r_iast (pc := 60) X hP hS (kf_10_sizes hz0).1 hj17 dX10_sheet_60 (fun H locs hP hS => ?_)
    rw [Option.some.inj e19] at hP
    refine lv_iconst (pc := 61) (v := 0) hx hb dX10_sheet_61 (by decide) ?_
    refine lv_istore (pc := 62) (lv' := [(4, .int (0 : Int32)), (0, .ref (ga G k0z)), (1, .int v1), (2, .int v2), (3, .int v3)]) hx hb dX10_sheet_62 hl (by decide) rfl (fun ls hl => ?_)
    exact w_X10_sheet_64 X  hz0  FU _ _ _ _ _ hP hS (lv_sub hl [1, 2, 0] rfl) h
  · have h := ineg c15 h
    refine lv_iconst (pc := 55) (v := 0) hx hb dX10_sheet_55 (by decide) ?_
    refine lv_goto (pc := 56) (tgt := 60) hx hb dX10_sheet_56 (by decide) ?_
    obtain ⟨j25, hj26, h⟩ := bnd1 h
    obtain ⟨σ27, e28, h⟩ := bnd1 h
    refine r_iast (pc := 60) X hP hS (kf_10_sizes hz0).1 hj26 dX10_sheet_60 (fun H locs hP hS => ?_)
    rw [Option.some.inj e28] at hP
    refine lv_iconst (pc := 61) (v := 0) hx hb dX10_sheet_61 (by decide) ?_
    refine lv_istore (pc := 62) (lv' := [(4, .int (0 : Int32)), (0, .ref (ga G k0z)), (1, .int v1), (2, .int v2), (3, .int v3)]) hx hb dX10_sheet_62 hl (by decide) rfl (fun ls hl => ?_)
    exact w_X10_sheet_64 X  hz0  FU _ _ _ _ _ hP hS (lv_sub hl [1, 2, 0] rfl) h
set_option maxHeartbeats 4000000 in
set_option maxRecDepth 100000 in
theorem c_X10_sheet (l : Launch) (G : Gh) {k0 : Nat} {a1 : Int32} {a2 : Int32} {a3 : Int32} {σ : Mem} {rr : Int32} {σr : Mem} (hk0 : kd k0 = 10) (h : f_X10_sheet k0 a1 a2 a3 σ = some (rr, σr)) : Met l yX10_sheet [Cond.code yX10_sheet prog_12_method_84_code 5 (some .int)] RM_X10_sheet (va_Pc [.ref (ga G k0), .int a1, .int a2, .int a3] (Pre G σ)) (QG G (some (.int rr)) σr) 0 0 (AA G) := by
  refine ct_of (by decide) (fun p e s m below meth c X hP => ?_)
  have hx := X.hx
  have hb := X.hb
  have hS : va_S (AA G) s.heap s.heap [] := va_S.rf
  have hl := lv_entry ([.ref (ga G k0), .int a1, .int a2, .int a3]) (n := 5) (Nat.le_of_ble_eq_true rfl)
  rw [lg_entry_eq]
  generalize (lg_sl ([.ref (ga G k0), .int a1, .int a2, .int a3]) ++ List.replicate (5 - (lg_sl ([.ref (ga G k0), .int a1, .int a2, .int a3])).length) Slot.unset).toArray = ls at hl ⊢
  have hl : lv_has ls 5 [(0, .ref (ga G k0)), (1, .int a1), (2, .int a2), (3, .int a3)] := hl
  unfold f_X10_sheet at h
  refine lv_iload_n (pc := 0) hx hb dX10_sheet_0 rfl (lv_at hl 1 rfl) ?_
  obtain ⟨r3, σ1, e2, h⟩ := bnd2 h
  refine cl_X10_361 X hP hS (As := [.int a1]) (rest := []) (c_X10_isShelf l G  e2) ⟨rfl, rfl, Nat.le_of_ble_eq_true rfl, Nat.le_of_ble_eq_true rfl⟩ rfl hl.1 rfl (Nat.le_of_ble_eq_true rfl) ⟨Nat.zero_le _, Nat.zero_le _⟩ (pc := 1) dX10_sheet_1 (fun H locs hP hS => ?_)
  change W p l e _ s m _ below meth c H locs _ _ _ (F0 m (1 + 3) ls (.int r3 :: []))
  refine lv_if_eq (pc := 4) (tgt := 26) hx hb dX10_sheet_4 (by decide) (fun c4 => ?_) (fun c4 => ?_)
  · have h := ipos c4 h
    refine lv_iconst (pc := 26) (v := (-1)) hx hb dX10_sheet_26 (by decide) ?_
    obtain ⟨rfl, rfl⟩ := inj2 h
    exact r_iret X hP hS dX10_sheet_27
  · have h := ineg c4 h
    refine lv_iload_n (pc := 7) hx hb dX10_sheet_7 rfl (lv_at hl 2 rfl) ?_
    refine lv_iconst (pc := 8) (v := (-1)) hx hb dX10_sheet_8 (by decide) ?_
    refine lv_iconst (pc := 9) (v := 3) hx hb dX10_sheet_9 (by decide) ?_
    obtain ⟨r7, σ5, e6, h⟩ := bnd2 h
    refine cl_X10_120 X hP hS (As := [.int a2, .int (-1 : Int32), .int (3 : Int32)]) (rest := []) (c_X10_in l G  e6) ⟨rfl, rfl, Nat.le_of_ble_eq_true rfl, Nat.le_of_ble_eq_true rfl⟩ rfl hl.1 rfl (Nat.le_of_ble_eq_true rfl) ⟨Nat.zero_le _, Nat.zero_le _⟩ (pc := 10) dX10_sheet_10 (fun H locs hP hS => ?_)
    change W p l e _ s m _ below meth c H locs _ _ _ (F0 m (10 + 3) ls (.int r7 :: []))
    refine lv_if_eq (pc := 13) (tgt := 26) hx hb dX10_sheet_13 (by decide) (fun c8 => ?_) (fun c8 => ?_)
    · have h := ipos c8 h
      refine lv_iconst (pc := 26) (v := (-1)) hx hb dX10_sheet_26 (by decide) ?_
      obtain ⟨rfl, rfl⟩ := inj2 h
      exact r_iret X hP hS dX10_sheet_27
    · have h := ineg c8 h
      refine lv_iload_n (pc := 16) hx hb dX10_sheet_16 rfl (lv_at hl 2 rfl) ?_
      refine lv_if_lt (pc := 17) (tgt := 28) hx hb dX10_sheet_17 (by decide) (fun c9 => ?_) (fun c9 => ?_)
      · have h := ipos c9 h
        refine lv_iload_n (pc := 28) hx hb dX10_sheet_28 rfl (lv_at hl 2 rfl) ?_
        refine lv_if_lt (pc := 29) (tgt := 39) hx hb dX10_sheet_29 (by decide) (fun c10 => ?_) (fun c10 => ?_)
        · have h := ipos c10 h
          exact w_X10_sheet_39 X  hk0  _ _ _ _ _ _ _ hP hS (lv_sub hl [0, 1, 2, 3] rfl) h
        · have h := ineg c10 h
          refine lv_iload_n (pc := 32) hx hb dX10_sheet_32 rfl (lv_at hl 3 rfl) ?_
          refine lv_if_ge (pc := 33) (tgt := 39) hx hb dX10_sheet_33 (by decide) (fun c29 => ?_) (fun c29 => ?_)
          · have h := ipos c29 h
            exact w_X10_sheet_39 X  hk0  _ _ _ _ _ _ _ hP hS (lv_sub hl [0, 1, 2, 3] rfl) h
          · have h := ineg c29 h
            refine lv_bipush (pc := 36) (v := (-14)) hx hb dX10_sheet_36 (by decide) ?_
            obtain ⟨rfl, rfl⟩ := inj2 h
            exact r_iret X hP hS dX10_sheet_38
      · have h := ineg c9 h
        refine lv_iload_n (pc := 20) hx hb dX10_sheet_20 rfl (lv_at hl 3 rfl) ?_
        refine lv_bipush (pc := 21) (v := (40)) hx hb dX10_sheet_21 (by decide) ?_
        refine lv_icmp_le (pc := 23) (tgt := 28) hx hb dX10_sheet_23 (by decide) (fun c30 => ?_) (fun c30 => ?_)
        · have h := ipos c30 h
          refine lv_iload_n (pc := 28) hx hb dX10_sheet_28 rfl (lv_at hl 2 rfl) ?_
          refine lv_if_lt (pc := 29) (tgt := 39) hx hb dX10_sheet_29 (by decide) (fun c31 => ?_) (fun c31 => ?_)
          · have h := ipos c31 h
            exact w_X10_sheet_39 X  hk0  _ _ _ _ _ _ _ hP hS (lv_sub hl [0, 1, 2, 3] rfl) h
          · have h := ineg c31 h
            refine lv_iload_n (pc := 32) hx hb dX10_sheet_32 rfl (lv_at hl 3 rfl) ?_
            refine lv_if_ge (pc := 33) (tgt := 39) hx hb dX10_sheet_33 (by decide) (fun c32 => ?_) (fun c32 => ?_)
            · have h := ipos c32 h
              exact w_X10_sheet_39 X  hk0  _ _ _ _ _ _ _ hP hS (lv_sub hl [0, 1, 2, 3] rfl) h
            · have h := ineg c32 h
              refine lv_bipush (pc := 36) (v := (-14)) hx hb dX10_sheet_36 (by decide) ?_
              obtain ⟨rfl, rfl⟩ := inj2 h
              exact r_iret X hP hS dX10_sheet_38
        · have h := ineg c30 h
          refine lv_iconst (pc := 26) (v := (-1)) hx hb dX10_sheet_26 (by decide) ?_
          obtain ⟨rfl, rfl⟩ := inj2 h
          exact r_iret X hP hS dX10_sheet_27
def f_X10_put (k0 : Nat) (a1 : Int32) (a2 : Int32) (a3 : Int32) (σ : Mem) : Option (Int32 × Mem) :=
  bd2 (f_X10_isShelf a1 σ) fun r3 σ1 =>
  if r3 = (0 : Int32) then
    some ((-1 : Int32), σ1)
  else
    bd1 (ixo (k0 + 24) a1) fun j5 =>
    if (0 : Int32) ≤ (gI σ1 (k0 + 24) j5) then
      bd1 (ixo (k0 + 25) a1) fun j8 =>
      bd2 (f_X10_in a2 (0 : Int32) ((gI σ1 (k0 + 25) j8) - (1 : Int32)) σ1) fun r12 σ10 =>
      if r12 = (0 : Int32) then
        some ((-12 : Int32), σ10)
      else
        bd1 (ixo (k0 + 24) a1) fun j14 =>
        if (gI σ10 (k0 + 24) j14) = (0 : Int32) then
          bd1 (ixo (k0 + 26) (((40 : Int32) * a1) + a2)) fun j28 =>
          bd1 (some (pL σ10 (k0 + 26) j28 a3.toInt8.toInt32.toInt64)) fun σ30 =>
          some ((1 : Int32), σ30)
        else
          bd1 (ixo (k0 + 24) a1) fun j17 =>
          if (gI σ10 (k0 + 24) j17) = (1 : Int32) then
            bd1 (ixo (k0 + 26) (((40 : Int32) * a1) + a2)) fun j24 =>
            bd1 (some (pL σ10 (k0 + 26) j24 a3.toInt16.toInt32.toInt64)) fun σ26 =>
            some ((1 : Int32), σ26)
          else
            bd1 (ixo (k0 + 26) (((40 : Int32) * a1) + a2)) fun j20 =>
            bd1 (some (pL σ10 (k0 + 26) j20 a3.toInt64)) fun σ22 =>
            some ((1 : Int32), σ22)
    else
      some ((-11 : Int32), σ1)
abbrev RM_X10_put : Room := { frames := 2, cells := 0, slots := 0, locals := 42 }
set_option maxHeartbeats 4000000 in
set_option maxRecDepth 100000 in
theorem c_X10_put (l : Launch) (G : Gh) {k0 : Nat} {a1 : Int32} {a2 : Int32} {a3 : Int32} {σ : Mem} {rr : Int32} {σr : Mem} (hk0 : kd k0 = 10) (h : f_X10_put k0 a1 a2 a3 σ = some (rr, σr)) : Met l yX10_put [Cond.code yX10_put prog_12_method_85_code 4 (some .int)] RM_X10_put (va_Pc [.ref (ga G k0), .int a1, .int a2, .int a3] (Pre G σ)) (QG G (some (.int rr)) σr) 0 0 (AA G) := by
  refine ct_of (by decide) (fun p e s m below meth c X hP => ?_)
  have hx := X.hx
  have hb := X.hb
  have hS : va_S (AA G) s.heap s.heap [] := va_S.rf
  have hl := lv_entry ([.ref (ga G k0), .int a1, .int a2, .int a3]) (n := 4) (Nat.le_of_ble_eq_true rfl)
  rw [lg_entry_eq]
  generalize (lg_sl ([.ref (ga G k0), .int a1, .int a2, .int a3]) ++ List.replicate (4 - (lg_sl ([.ref (ga G k0), .int a1, .int a2, .int a3])).length) Slot.unset).toArray = ls at hl ⊢
  have hl : lv_has ls 4 [(0, .ref (ga G k0)), (1, .int a1), (2, .int a2), (3, .int a3)] := hl
  unfold f_X10_put at h
  refine lv_iload_n (pc := 0) hx hb dX10_put_0 rfl (lv_at hl 1 rfl) ?_
  obtain ⟨r3, σ1, e2, h⟩ := bnd2 h
  refine cl_X10_361 X hP hS (As := [.int a1]) (rest := []) (c_X10_isShelf l G  e2) ⟨rfl, rfl, Nat.le_of_ble_eq_true rfl, Nat.le_of_ble_eq_true rfl⟩ rfl hl.1 rfl (Nat.le_of_ble_eq_true rfl) ⟨Nat.zero_le _, Nat.zero_le _⟩ (pc := 1) dX10_put_1 (fun H locs hP hS => ?_)
  change W p l e _ s m _ below meth c H locs _ _ _ (F0 m (1 + 3) ls (.int r3 :: []))
  refine lv_if_ne (pc := 4) (tgt := 9) hx hb dX10_put_4 (by decide) (fun c4 => ?_) (fun c4 => ?_)
  · have h := ineg c4 h
    refine lv_aload_n (pc := 9) hx hb dX10_put_9 rfl (lv_at hl 0 rfl) ?_
    refine gt_X10_89 X hP hk0 dX10_put_10 ?_
    refine lv_iload_n (pc := 13) hx hb dX10_put_13 rfl (lv_at hl 1 rfl) ?_
    obtain ⟨j5, hj6, h⟩ := bnd1 h
    refine r_iald (pc := 14) X hP (kf_10_sorts hk0).1 hj6 dX10_put_14 ?_
    refine lv_if_ge (pc := 15) (tgt := 21) hx hb dX10_put_15 (by decide) (fun c7 => ?_) (fun c7 => ?_)
    · have h := ipos c7 h
      refine lv_iload_n (pc := 21) hx hb dX10_put_21 rfl (lv_at hl 2 rfl) ?_
      refine lv_iconst (pc := 22) (v := 0) hx hb dX10_put_22 (by decide) ?_
      refine lv_aload_n (pc := 23) hx hb dX10_put_23 rfl (lv_at hl 0 rfl) ?_
      refine gt_X10_92 X hP hk0 dX10_put_24 ?_
      refine lv_iload_n (pc := 27) hx hb dX10_put_27 rfl (lv_at hl 1 rfl) ?_
      obtain ⟨j8, hj9, h⟩ := bnd1 h
      refine r_iald (pc := 28) X hP (kf_10_sizes hk0).1 hj9 dX10_put_28 ?_
      refine lv_iconst (pc := 29) (v := 1) hx hb dX10_put_29 (by decide) ?_
      refine lv_isub (pc := 30) hx hb dX10_put_30 ?_
      obtain ⟨r12, σ10, e11, h⟩ := bnd2 h
      refine cl_X10_120 X hP hS (As := [.int a2, .int (0 : Int32), .int ((gI σ1 (k0 + 25) j8) - (1 : Int32))]) (rest := []) (c_X10_in l G  e11) ⟨rfl, rfl, Nat.le_of_ble_eq_true rfl, Nat.le_of_ble_eq_true rfl⟩ rfl hl.1 rfl (Nat.le_of_ble_eq_true rfl) ⟨Nat.zero_le _, Nat.zero_le _⟩ (pc := 31) dX10_put_31 (fun H locs hP hS => ?_)
      change W p l e _ s m _ below meth c H locs _ _ _ (F0 m (31 + 3) ls (.int r12 :: []))
      refine lv_if_ne (pc := 34) (tgt := 40) hx hb dX10_put_34 (by decide) (fun c13 => ?_) (fun c13 => ?_)
      · have h := ineg c13 h
        refine lv_aload_n (pc := 40) hx hb dX10_put_40 rfl (lv_at hl 0 rfl) ?_
        refine gt_X10_95 X hP hk0 dX10_put_41 ?_
        refine lv_bipush (pc := 44) (v := (40)) hx hb dX10_put_44 (by decide) ?_
        refine lv_iload_n (pc := 46) hx hb dX10_put_46 rfl (lv_at hl 1 rfl) ?_
        refine lv_imul (pc := 47) hx hb dX10_put_47 ?_
        refine lv_iload_n (pc := 48) hx hb dX10_put_48 rfl (lv_at hl 2 rfl) ?_
        refine lv_iadd (pc := 49) hx hb dX10_put_49 ?_
        refine lv_aload_n (pc := 50) hx hb dX10_put_50 rfl (lv_at hl 0 rfl) ?_
        refine gt_X10_89 X hP hk0 dX10_put_51 ?_
        refine lv_iload_n (pc := 54) hx hb dX10_put_54 rfl (lv_at hl 1 rfl) ?_
        obtain ⟨j14, hj15, h⟩ := bnd1 h
        refine r_iald (pc := 55) X hP (kf_10_sorts hk0).1 hj15 dX10_put_55 ?_
        refine lv_if_ne (pc := 56) (tgt := 65) hx hb dX10_put_56 (by decide) (fun c16 => ?_) (fun c16 => ?_)
        · have h := ineg c16 h
          refine lv_aload_n (pc := 65) hx hb dX10_put_65 rfl (lv_at hl 0 rfl) ?_
          refine gt_X10_89 X hP hk0 dX10_put_66 ?_
          refine lv_iload_n (pc := 69) hx hb dX10_put_69 rfl (lv_at hl 1 rfl) ?_
          obtain ⟨j17, hj18, h⟩ := bnd1 h
          refine r_iald (pc := 70) X hP (kf_10_sorts hk0).1 hj18 dX10_put_70 ?_
          refine lv_iconst (pc := 71) (v := 1) hx hb dX10_put_71 (by decide) ?_
          refine lv_icmp_ne (pc := 72) (tgt := 81) hx hb dX10_put_72 (by decide) (fun c19 => ?_) (fun c19 => ?_)
          · have h := ineg c19 h
            refine lv_iload_n (pc := 81) hx hb dX10_put_81 rfl (lv_at hl 3 rfl) ?_
            refine lv_i2l (pc := 82) (v := a3.toInt64) hx hb dX10_put_82 rfl ?_
            obtain ⟨j20, hj21, h⟩ := bnd1 h
            obtain ⟨σ22, e23, h⟩ := bnd1 h
            refine r_last (pc := 83) X hP hS (kf_10_sheets hk0).1 hj21 dX10_put_83 (fun H locs hP hS => ?_)
            rw [Option.some.inj e23] at hP
            refine lv_iconst (pc := 84) (v := 1) hx hb dX10_put_84 (by decide) ?_
            obtain ⟨rfl, rfl⟩ := inj2 h
            exact r_iret X hP hS dX10_put_85
          · have h := ipos c19 h
            refine lv_iload_n (pc := 75) hx hb dX10_put_75 rfl (lv_at hl 3 rfl) ?_
            refine lv_i2s (pc := 76) (v := a3.toInt16.toInt32) hx hb dX10_put_76 rfl ?_
            refine lv_i2l (pc := 77) (v := a3.toInt16.toInt32.toInt64) hx hb dX10_put_77 rfl ?_
            refine lv_goto (pc := 78) (tgt := 83) hx hb dX10_put_78 (by decide) ?_
            obtain ⟨j24, hj25, h⟩ := bnd1 h
            obtain ⟨σ26, e27, h⟩ := bnd1 h
            refine r_last (pc := 83) X hP hS (kf_10_sheets hk0).1 hj25 dX10_put_83 (fun H locs hP hS => ?_)
            rw [Option.some.inj e27] at hP
            refine lv_iconst (pc := 84) (v := 1) hx hb dX10_put_84 (by decide) ?_
            obtain ⟨rfl, rfl⟩ := inj2 h
            exact r_iret X hP hS dX10_put_85
        · have h := ipos c16 h
          refine lv_iload_n (pc := 59) hx hb dX10_put_59 rfl (lv_at hl 3 rfl) ?_
          refine lv_i2b (pc := 60) (v := a3.toInt8.toInt32) hx hb dX10_put_60 rfl ?_
          refine lv_i2l (pc := 61) (v := a3.toInt8.toInt32.toInt64) hx hb dX10_put_61 rfl ?_
          refine lv_goto (pc := 62) (tgt := 83) hx hb dX10_put_62 (by decide) ?_
          obtain ⟨j28, hj29, h⟩ := bnd1 h
          obtain ⟨σ30, e31, h⟩ := bnd1 h
          refine r_last (pc := 83) X hP hS (kf_10_sheets hk0).1 hj29 dX10_put_83 (fun H locs hP hS => ?_)
          rw [Option.some.inj e31] at hP
          refine lv_iconst (pc := 84) (v := 1) hx hb dX10_put_84 (by decide) ?_
          obtain ⟨rfl, rfl⟩ := inj2 h
          exact r_iret X hP hS dX10_put_85
      · have h := ipos c13 h
        refine lv_bipush (pc := 37) (v := (-12)) hx hb dX10_put_37 (by decide) ?_
        obtain ⟨rfl, rfl⟩ := inj2 h
        exact r_iret X hP hS dX10_put_39
    · have h := ineg c7 h
      refine lv_bipush (pc := 18) (v := (-11)) hx hb dX10_put_18 (by decide) ?_
      obtain ⟨rfl, rfl⟩ := inj2 h
      exact r_iret X hP hS dX10_put_20
  · have h := ipos c4 h
    refine lv_iconst (pc := 7) (v := (-1)) hx hb dX10_put_7 (by decide) ?_
    obtain ⟨rfl, rfl⟩ := inj2 h
    exact r_iret X hP hS dX10_put_8
def f_X10_item (k0 : Nat) (a1 : Int32) (a2 : Int32) (a3 : Int32) (σ : Mem) : Option (Int32 × Mem) :=
  bd2 (f_X10_isShelf a1 σ) fun r3 σ1 =>
  if r3 = (0 : Int32) then
    some ((-1 : Int32), σ1)
  else
    bd2 (f_X10_in a2 (0 : Int32) (3 : Int32) σ1) fun r7 σ5 =>
    if r7 = (0 : Int32) then
      some ((-1 : Int32), σ5)
    else
      bd2 (f_X10_lacksSort k0 a1 a2 σ5) fun r11 σ9 =>
      if r11 = (0 : Int32) then
        bd1 (ixo (k0 + 25) a1) fun j13 =>
        bd2 (f_X10_in a3 (0 : Int32) ((gI σ9 (k0 + 25) j13) - (1 : Int32)) σ9) fun r17 σ15 =>
        if r17 = (0 : Int32) then
          some ((-12 : Int32), σ15)
        else
          bd1 (ixo (k0 + 26) (((40 : Int32) * a1) + a3)) fun j19 =>
          some ((gL σ15 (k0 + 26) j19).toInt32, σ15)
      else
        some (r11, σ9)
abbrev RM_X10_item : Room := { frames := 2, cells := 0, slots := 0, locals := 42 }
set_option maxHeartbeats 4000000 in
set_option maxRecDepth 100000 in
theorem c_X10_item (l : Launch) (G : Gh) {k0 : Nat} {a1 : Int32} {a2 : Int32} {a3 : Int32} {σ : Mem} {rr : Int32} {σr : Mem} (hk0 : kd k0 = 10) (h : f_X10_item k0 a1 a2 a3 σ = some (rr, σr)) : Met l yX10_item [Cond.code yX10_item prog_12_method_87_code 5 (some .int)] RM_X10_item (va_Pc [.ref (ga G k0), .int a1, .int a2, .int a3] (Pre G σ)) (QG G (some (.int rr)) σr) 0 0 (AA G) := by
  refine ct_of (by decide) (fun p e s m below meth c X hP => ?_)
  have hx := X.hx
  have hb := X.hb
  have hS : va_S (AA G) s.heap s.heap [] := va_S.rf
  have hl := lv_entry ([.ref (ga G k0), .int a1, .int a2, .int a3]) (n := 5) (Nat.le_of_ble_eq_true rfl)
  rw [lg_entry_eq]
  generalize (lg_sl ([.ref (ga G k0), .int a1, .int a2, .int a3]) ++ List.replicate (5 - (lg_sl ([.ref (ga G k0), .int a1, .int a2, .int a3])).length) Slot.unset).toArray = ls at hl ⊢
  have hl : lv_has ls 5 [(0, .ref (ga G k0)), (1, .int a1), (2, .int a2), (3, .int a3)] := hl
  unfold f_X10_item at h
  refine lv_iload_n (pc := 0) hx hb dX10_item_0 rfl (lv_at hl 1 rfl) ?_
  obtain ⟨r3, σ1, e2, h⟩ := bnd2 h
  refine cl_X10_361 X hP hS (As := [.int a1]) (rest := []) (c_X10_isShelf l G  e2) ⟨rfl, rfl, Nat.le_of_ble_eq_true rfl, Nat.le_of_ble_eq_true rfl⟩ rfl hl.1 rfl (Nat.le_of_ble_eq_true rfl) ⟨Nat.zero_le _, Nat.zero_le _⟩ (pc := 1) dX10_item_1 (fun H locs hP hS => ?_)
  change W p l e _ s m _ below meth c H locs _ _ _ (F0 m (1 + 3) ls (.int r3 :: []))
  refine lv_if_eq (pc := 4) (tgt := 16) hx hb dX10_item_4 (by decide) (fun c4 => ?_) (fun c4 => ?_)
  · have h := ipos c4 h
    refine lv_iconst (pc := 16) (v := (-1)) hx hb dX10_item_16 (by decide) ?_
    obtain ⟨rfl, rfl⟩ := inj2 h
    exact r_iret X hP hS dX10_item_17
  · have h := ineg c4 h
    refine lv_iload_n (pc := 7) hx hb dX10_item_7 rfl (lv_at hl 2 rfl) ?_
    refine lv_iconst (pc := 8) (v := 0) hx hb dX10_item_8 (by decide) ?_
    refine lv_iconst (pc := 9) (v := 3) hx hb dX10_item_9 (by decide) ?_
    obtain ⟨r7, σ5, e6, h⟩ := bnd2 h
    refine cl_X10_120 X hP hS (As := [.int a2, .int (0 : Int32), .int (3 : Int32)]) (rest := []) (c_X10_in l G  e6) ⟨rfl, rfl, Nat.le_of_ble_eq_true rfl, Nat.le_of_ble_eq_true rfl⟩ rfl hl.1 rfl (Nat.le_of_ble_eq_true rfl) ⟨Nat.zero_le _, Nat.zero_le _⟩ (pc := 10) dX10_item_10 (fun H locs hP hS => ?_)
    change W p l e _ s m _ below meth c H locs _ _ _ (F0 m (10 + 3) ls (.int r7 :: []))
    refine lv_if_ne (pc := 13) (tgt := 18) hx hb dX10_item_13 (by decide) (fun c8 => ?_) (fun c8 => ?_)
    · have h := ineg c8 h
      refine lv_aload_n (pc := 18) hx hb dX10_item_18 rfl (lv_at hl 0 rfl) ?_
      refine lv_iload_n (pc := 19) hx hb dX10_item_19 rfl (lv_at hl 1 rfl) ?_
      refine lv_iload_n (pc := 20) hx hb dX10_item_20 rfl (lv_at hl 2 rfl) ?_
      obtain ⟨r11, σ9, e10, h⟩ := bnd2 h
      refine cl_X10_364 X hP hS hk0 (As := [.int a1, .int a2]) (rest := []) (c_X10_lacksSort l G hk0 e10) ⟨rfl, rfl, Nat.le_of_ble_eq_true rfl, Nat.le_of_ble_eq_true rfl⟩ rfl hl.1 rfl (Nat.le_of_ble_eq_true rfl) ⟨Nat.zero_le _, Nat.zero_le _⟩ (pc := 21) dX10_item_21 (fun H locs hP hS => ?_)
      change W p l e _ s m _ below meth c H locs _ _ _ (F0 m (21 + 3) ls (.int r11 :: []))
      refine lv_istore (pc := 24) (lv' := [(4, .int r11), (0, .ref (ga G k0)), (1, .int a1), (2, .int a2), (3, .int a3)]) hx hb dX10_item_24 hl (by decide) rfl (fun ls hl => ?_)
      refine lv_iload (pc := 26) hx hb dX10_item_26 (lv_at hl 0 rfl) ?_
      refine lv_if_eq (pc := 28) (tgt := 34) hx hb dX10_item_28 (by decide) (fun c12 => ?_) (fun c12 => ?_)
      · have h := ipos c12 h
        refine lv_iload_n (pc := 34) hx hb dX10_item_34 rfl (lv_at hl 4 rfl) ?_
        refine lv_iconst (pc := 35) (v := 0) hx hb dX10_item_35 (by decide) ?_
        refine lv_aload_n (pc := 36) hx hb dX10_item_36 rfl (lv_at hl 1 rfl) ?_
        refine gt_X10_92 X hP hk0 dX10_item_37 ?_
        refine lv_iload_n (pc := 40) hx hb dX10_item_40 rfl (lv_at hl 2 rfl) ?_
        obtain ⟨j13, hj14, h⟩ := bnd1 h
        refine r_iald (pc := 41) X hP (kf_10_sizes hk0).1 hj14 dX10_item_41 ?_
        refine lv_iconst (pc := 42) (v := 1) hx hb dX10_item_42 (by decide) ?_
        refine lv_isub (pc := 43) hx hb dX10_item_43 ?_
        obtain ⟨r17, σ15, e16, h⟩ := bnd2 h
        refine cl_X10_120 X hP hS (As := [.int a3, .int (0 : Int32), .int ((gI σ9 (k0 + 25) j13) - (1 : Int32))]) (rest := []) (c_X10_in l G  e16) ⟨rfl, rfl, Nat.le_of_ble_eq_true rfl, Nat.le_of_ble_eq_true rfl⟩ rfl hl.1 rfl (Nat.le_of_ble_eq_true rfl) ⟨Nat.zero_le _, Nat.zero_le _⟩ (pc := 44) dX10_item_44 (fun H locs hP hS => ?_)
        change W p l e _ s m _ below meth c H locs _ _ _ (F0 m (44 + 3) ls (.int r17 :: []))
        refine lv_if_eq (pc := 47) (tgt := 65) hx hb dX10_item_47 (by decide) (fun c18 => ?_) (fun c18 => ?_)
        · have h := ipos c18 h
          refine lv_bipush (pc := 65) (v := (-12)) hx hb dX10_item_65 (by decide) ?_
          obtain ⟨rfl, rfl⟩ := inj2 h
          exact r_iret X hP hS dX10_item_67
        · have h := ineg c18 h
          refine lv_aload_n (pc := 50) hx hb dX10_item_50 rfl (lv_at hl 1 rfl) ?_
          refine gt_X10_95 X hP hk0 dX10_item_51 ?_
          refine lv_bipush (pc := 54) (v := (40)) hx hb dX10_item_54 (by decide) ?_
          refine lv_iload_n (pc := 56) hx hb dX10_item_56 rfl (lv_at hl 2 rfl) ?_
          refine lv_imul (pc := 57) hx hb dX10_item_57 ?_
          refine lv_iload_n (pc := 58) hx hb dX10_item_58 rfl (lv_at hl 4 rfl) ?_
          refine lv_iadd (pc := 59) hx hb dX10_item_59 ?_
          obtain ⟨j19, hj20, h⟩ := bnd1 h
          refine r_lald (pc := 60) X hP (kf_10_sheets hk0).1 hj20 dX10_item_60 ?_
          refine lv_l2i (pc := 61) (v := (gL σ15 (k0 + 26) j19).toInt32) hx hb dX10_item_61 rfl ?_
          refine lv_goto (pc := 62) (tgt := 67) hx hb dX10_item_62 (by decide) ?_
          obtain ⟨rfl, rfl⟩ := inj2 h
          exact r_iret X hP hS dX10_item_67
      · have h := ineg c12 h
        refine lv_iload (pc := 31) hx hb dX10_item_31 (lv_at hl 0 rfl) ?_
        obtain ⟨rfl, rfl⟩ := inj2 h
        exact r_iret X hP hS dX10_item_33
    · have h := ipos c8 h
      refine lv_iconst (pc := 16) (v := (-1)) hx hb dX10_item_16 (by decide) ?_
      obtain ⟨rfl, rfl⟩ := inj2 h
      exact r_iret X hP hS dX10_item_17
def f_X10_isHeld (k0 : Nat) (a1 : Int32) (a2 : Int32) (σ : Mem) : Option (Int32 × Mem) :=
  if a1 = (0 : Int32) then
    bd2 (f_X10_isBidder k0 a2 σ) fun r10 σ8 =>
    grd (r10 = 0 ∨ r10 = 1) <|
    some (r10, σ8)
  else
    if a1 = (1 : Int32) then
      bd2 (f_X10_isShelf a2 σ) fun r6 σ4 =>
      grd (r6 = 0 ∨ r6 = 1) <|
      some (r6, σ4)
    else
      if a1 = (2 : Int32) then
        some ((1 : Int32), σ)
      else
        some ((0 : Int32), σ)
abbrev RM_X10_isHeld : Room := { frames := 2, cells := 0, slots := 0, locals := 43 }
set_option maxHeartbeats 4000000 in
set_option maxRecDepth 100000 in
theorem c_X10_isHeld (l : Launch) (G : Gh) {k0 : Nat} {a1 : Int32} {a2 : Int32} {σ : Mem} {rr : Int32} {σr : Mem} (hk0 : kd k0 = 10) (h : f_X10_isHeld k0 a1 a2 σ = some (rr, σr)) : Met l yX10_isHeld [Cond.code yX10_isHeld prog_12_method_88_code 3 (some .boolean)] RM_X10_isHeld (va_Pc [.ref (ga G k0), .int a1, .int a2] (Pre G σ)) (QG G (some (.int rr)) σr) 0 0 (AA G) := by
  refine ct_of (by decide) (fun p e s m below meth c X hP => ?_)
  have hx := X.hx
  have hb := X.hb
  have hS : va_S (AA G) s.heap s.heap [] := va_S.rf
  have hl := lv_entry ([.ref (ga G k0), .int a1, .int a2]) (n := 3) (Nat.le_of_ble_eq_true rfl)
  rw [lg_entry_eq]
  generalize (lg_sl ([.ref (ga G k0), .int a1, .int a2]) ++ List.replicate (3 - (lg_sl ([.ref (ga G k0), .int a1, .int a2])).length) Slot.unset).toArray = ls at hl ⊢
  have hl : lv_has ls 3 [(0, .ref (ga G k0)), (1, .int a1), (2, .int a2)] := hl
  unfold f_X10_isHeld at h
  refine lv_iload_n (pc := 0) hx hb dX10_isHeld_0 rfl (lv_at hl 1 rfl) ?_
  refine lv_if_ne (pc := 1) (tgt := 12) hx hb dX10_isHeld_1 (by decide) (fun c1 => ?_) (fun c1 => ?_)
  · have h := ineg c1 h
    refine lv_iload_n (pc := 12) hx hb dX10_isHeld_12 rfl (lv_at hl 1 rfl) ?_
    refine lv_iconst (pc := 13) (v := 1) hx hb dX10_isHeld_13 (by decide) ?_
    refine lv_icmp_ne (pc := 14) (tgt := 24) hx hb dX10_isHeld_14 (by decide) (fun c2 => ?_) (fun c2 => ?_)
    · have h := ineg c2 h
      refine lv_iload_n (pc := 24) hx hb dX10_isHeld_24 rfl (lv_at hl 1 rfl) ?_
      refine lv_iconst (pc := 25) (v := 2) hx hb dX10_isHeld_25 (by decide) ?_
      refine lv_icmp_ne (pc := 26) (tgt := 33) hx hb dX10_isHeld_26 (by decide) (fun c3 => ?_) (fun c3 => ?_)
      · have h := ineg c3 h
        refine lv_iconst (pc := 33) (v := 0) hx hb dX10_isHeld_33 (by decide) ?_
        obtain ⟨rfl, rfl⟩ := inj2 h
        exact r_zret X hP hS (by decide) dX10_isHeld_34
      · have h := ipos c3 h
        refine lv_iconst (pc := 29) (v := 1) hx hb dX10_isHeld_29 (by decide) ?_
        refine lv_goto (pc := 30) (tgt := 34) hx hb dX10_isHeld_30 (by decide) ?_
        obtain ⟨rfl, rfl⟩ := inj2 h
        exact r_zret X hP hS (by decide) dX10_isHeld_34
    · have h := ipos c2 h
      refine lv_iload_n (pc := 17) hx hb dX10_isHeld_17 rfl (lv_at hl 2 rfl) ?_
      obtain ⟨r6, σ4, e5, h⟩ := bnd2 h
      refine cl_X10_361 X hP hS (As := [.int a2]) (rest := []) (c_X10_isShelf l G  e5) ⟨rfl, rfl, Nat.le_of_ble_eq_true rfl, Nat.le_of_ble_eq_true rfl⟩ rfl hl.1 rfl (Nat.le_of_ble_eq_true rfl) ⟨Nat.zero_le _, Nat.zero_le _⟩ (pc := 18) dX10_isHeld_18 (fun H locs hP hS => ?_)
      change W p l e _ s m _ below meth c H locs _ _ _ (F0 m (18 + 3) ls (.int r6 :: []))
      refine lv_goto (pc := 21) (tgt := 34) hx hb dX10_isHeld_21 (by decide) ?_
      obtain ⟨g7, h⟩ := grd_inv h
      obtain ⟨rfl, rfl⟩ := inj2 h
      exact r_zret X hP hS g7 dX10_isHeld_34
  · have h := ipos c1 h
    refine lv_aload_n (pc := 4) hx hb dX10_isHeld_4 rfl (lv_at hl 0 rfl) ?_
    refine lv_iload_n (pc := 5) hx hb dX10_isHeld_5 rfl (lv_at hl 2 rfl) ?_
    obtain ⟨r10, σ8, e9, h⟩ := bnd2 h
    refine cl_X10_271 X hP hS hk0 (As := [.int a2]) (rest := []) (c_X10_isBidder l G hk0 e9) ⟨rfl, rfl, Nat.le_of_ble_eq_true rfl, Nat.le_of_ble_eq_true rfl⟩ rfl hl.1 rfl (Nat.le_of_ble_eq_true rfl) ⟨Nat.zero_le _, Nat.zero_le _⟩ (pc := 6) dX10_isHeld_6 (fun H locs hP hS => ?_)
    change W p l e _ s m _ below meth c H locs _ _ _ (F0 m (6 + 3) ls (.int r10 :: []))
    refine lv_goto (pc := 9) (tgt := 34) hx hb dX10_isHeld_9 (by decide) ?_
    obtain ⟨g11, h⟩ := grd_inv h
    obtain ⟨rfl, rfl⟩ := inj2 h
    exact r_zret X hP hS g11 dX10_isHeld_34
def F_X10_shelf_47 (k0z : Nat) (s2z : Nat) (v1 : Int32) (v2 : Int32) (v3 : Int32) (w1 : Int32) (σ : Mem) : Option (Int32 × Mem) :=
  bd1 (ixo s2z w1) fun j10 =>
  bd1 (some (pI σ s2z j10 (-1 : Int32))) fun σ12 =>
  if v2 = (1 : Int32) then
    bd1 (ixo (k0z + 24) v3) fun j30 =>
    bd1 (ixo (k0z + 28) v1) fun j32 =>
    bd1 (some (pI σ12 (k0z + 28) j32 (gI σ12 (k0z + 24) j30))) fun σ34 =>
    if v2 = (1 : Int32) then
      bd1 (ixo (k0z + 25) v3) fun j41 =>
      bd1 (ixo (k0z + 29) v1) fun j43 =>
      bd1 (some (pI σ34 (k0z + 29) j43 (gI σ34 (k0z + 25) j41))) fun σ45 =>
      some ((1 : Int32), σ45)
    else
      bd1 (ixo (k0z + 29) v1) fun j37 =>
      bd1 (some (pI σ34 (k0z + 29) j37 (0 : Int32))) fun σ39 =>
      some ((1 : Int32), σ39)
  else
    bd1 (ixo (k0z + 28) v1) fun j15 =>
    bd1 (some (pI σ12 (k0z + 28) j15 v3)) fun σ17 =>
    if v2 = (1 : Int32) then
      bd1 (ixo (k0z + 25) v3) fun j24 =>
      bd1 (ixo (k0z + 29) v1) fun j26 =>
      bd1 (some (pI σ17 (k0z + 29) j26 (gI σ17 (k0z + 25) j24))) fun σ28 =>
      some ((1 : Int32), σ28)
    else
      bd1 (ixo (k0z + 29) v1) fun j20 =>
      bd1 (some (pI σ17 (k0z + 29) j20 (0 : Int32))) fun σ22 =>
      some ((1 : Int32), σ22)
def F_X10_shelf_47x1 (k0z : Nat) (s2z : Nat) (v1 : Int32) (v2 : Int32) (v3 : Int32) (w0 : Int32) (w1 : Int32) (σ : Mem) : Option (Int32 × Mem) :=
  bd1 (ixo s2z w1) fun j48 =>
  bd1 (some (pI σ s2z j48 w0)) fun σ50 =>
  if v2 = (1 : Int32) then
    bd1 (ixo (k0z + 24) v3) fun j68 =>
    bd1 (ixo (k0z + 28) v1) fun j70 =>
    bd1 (some (pI σ50 (k0z + 28) j70 (gI σ50 (k0z + 24) j68))) fun σ72 =>
    if v2 = (1 : Int32) then
      bd1 (ixo (k0z + 25) v3) fun j79 =>
      bd1 (ixo (k0z + 29) v1) fun j81 =>
      bd1 (some (pI σ72 (k0z + 29) j81 (gI σ72 (k0z + 25) j79))) fun σ83 =>
      some ((1 : Int32), σ83)
    else
      bd1 (ixo (k0z + 29) v1) fun j75 =>
      bd1 (some (pI σ72 (k0z + 29) j75 (0 : Int32))) fun σ77 =>
      some ((1 : Int32), σ77)
  else
    bd1 (ixo (k0z + 28) v1) fun j53 =>
    bd1 (some (pI σ50 (k0z + 28) j53 v3)) fun σ55 =>
    if v2 = (1 : Int32) then
      bd1 (ixo (k0z + 25) v3) fun j62 =>
      bd1 (ixo (k0z + 29) v1) fun j64 =>
      bd1 (some (pI σ55 (k0z + 29) j64 (gI σ55 (k0z + 25) j62))) fun σ66 =>
      some ((1 : Int32), σ66)
    else
      bd1 (ixo (k0z + 29) v1) fun j58 =>
      bd1 (some (pI σ55 (k0z + 29) j58 (0 : Int32))) fun σ60 =>
      some ((1 : Int32), σ60)
def f_X10_shelf (k0 : Nat) (a1 : Int32) (a2 : Int32) (a3 : Int32) (σ : Mem) : Option (Int32 × Mem) :=
  bd2 (f_X10_isShelf a1 σ) fun r3 σ1 =>
  if r3 = (0 : Int32) then
    some ((-1 : Int32), σ1)
  else
    bd2 (f_X10_isHeld k0 a2 a3 σ1) fun r7 σ5 =>
    if r7 = (0 : Int32) then
      some ((-1 : Int32), σ5)
    else
      if a2 = (2 : Int32) then
        F_X10_shelf_47 k0 (k0 + 27) a1 a2 a3 a1 σ5
      else
        if a2 = (1 : Int32) then
          bd1 (ixo (k0 + 24) a3) fun j85 =>
          if (0 : Int32) ≤ (gI σ5 (k0 + 24) j85) then
            F_X10_shelf_47x1 k0 (k0 + 27) a1 a2 a3 a2 a1 σ5
          else
            F_X10_shelf_47 k0 (k0 + 27) a1 a2 a3 a1 σ5
        else
          F_X10_shelf_47x1 k0 (k0 + 27) a1 a2 a3 a2 a1 σ5
abbrev RM_X10_shelf : Room := { frames := 3, cells := 0, slots := 0, locals := 65 }
set_option maxHeartbeats 4000000 in
set_option maxRecDepth 100000 in
theorem w_X10_shelf_47 {l : Launch} {G : Gh} {p : Program} {e : Env} {s : State} {m : MethodId} {args : Array Value} {below : List Frame} {meth : Method} {c : Code} (X : Cx G p s m args meth c prog_12_method_89_code RX10 4 (some .int)) {k0z : Nat} {s2z : Nat} (hz0 : kd k0z = 10) (hs2 : kd s2z = 12) {rr : Int32} {σr : Mem} : ∀ (v1 : Int32) (v2 : Int32) (v3 : Int32) (w1 : Int32) (σ : Mem) (H : Heap) (locs : List Loc) (ls : Array Slot), PW G σ H → va_S (AA G) s.heap H locs → lv_has ls 4 [(0, .ref (ga G k0z)), (1, .int v1), (2, .int v2), (3, .int v3)] → F_X10_shelf_47 k0z s2z v1 v2 v3 w1 σ = some (rr, σr) → W p l e RM_X10_shelf s m args below meth c H locs 0 0 (MQ below (QG G (some (.int rr)) σr) args s 0 0 (AA G)) (F0 m 47 ls [.int (-1 : Int32), .int w1, .ref (ga G s2z)]) := by
  have hx := X.hx
  have hb := X.hb
  intro v1 v2 v3 w1 σ H locs ls hP hS hl h
  unfold F_X10_shelf_47 at h
  obtain ⟨j10, hj11, h⟩ := bnd1 h
  obtain ⟨σ12, e13, h⟩ := bnd1 h
  refine r_iast (pc := 47) X hP hS hs2 hj11 dX10_shelf_47 (fun H locs hP hS => ?_)
  rw [Option.some.inj e13] at hP
  refine lv_aload_n (pc := 48) hx hb dX10_shelf_48 rfl (lv_at hl 0 rfl) ?_
  refine gt_X10_102 X hP hz0 dX10_shelf_49 ?_
  refine lv_iload_n (pc := 52) hx hb dX10_shelf_52 rfl (lv_at hl 1 rfl) ?_
  refine lv_iload_n (pc := 53) hx hb dX10_shelf_53 rfl (lv_at hl 2 rfl) ?_
  refine lv_iconst (pc := 54) (v := 1) hx hb dX10_shelf_54 (by decide) ?_
  refine lv_icmp_ne (pc := 55) (tgt := 67) hx hb dX10_shelf_55 (by decide) (fun c14 => ?_) (fun c14 => ?_)
  · have h := ineg c14 h
    refine lv_iload_n (pc := 67) hx hb dX10_shelf_67 rfl (lv_at hl 3 rfl) ?_
    obtain ⟨j15, hj16, h⟩ := bnd1 h
    obtain ⟨σ17, e18, h⟩ := bnd1 h
    refine r_iast (pc := 68) X hP hS (kf_10_heldNumber hz0).1 hj16 dX10_shelf_68 (fun H locs hP hS => ?_)
    rw [Option.some.inj e18] at hP
    refine lv_aload_n (pc := 69) hx hb dX10_shelf_69 rfl (lv_at hl 0 rfl) ?_
    refine gt_X10_105 X hP hz0 dX10_shelf_70 ?_
    refine lv_iload_n (pc := 73) hx hb dX10_shelf_73 rfl (lv_at hl 1 rfl) ?_
    refine lv_iload_n (pc := 74) hx hb dX10_shelf_74 rfl (lv_at hl 2 rfl) ?_
    refine lv_iconst (pc := 75) (v := 1) hx hb dX10_shelf_75 (by decide) ?_
    refine lv_icmp_ne (pc := 76) (tgt := 88) hx hb dX10_shelf_76 (by decide) (fun c19 => ?_) (fun c19 => ?_)
    · have h := ineg c19 h
      refine lv_iconst (pc := 88) (v := 0) hx hb dX10_shelf_88 (by decide) ?_
      obtain ⟨j20, hj21, h⟩ := bnd1 h
      obtain ⟨σ22, e23, h⟩ := bnd1 h
      refine r_iast (pc := 89) X hP hS (kf_10_heldSize hz0).1 hj21 dX10_shelf_89 (fun H locs hP hS => ?_)
      rw [Option.some.inj e23] at hP
      refine lv_iconst (pc := 90) (v := 1) hx hb dX10_shelf_90 (by decide) ?_
      obtain ⟨rfl, rfl⟩ := inj2 h
      exact r_iret X hP hS dX10_shelf_91
    · have h := ipos c19 h
      refine lv_aload_n (pc := 79) hx hb dX10_shelf_79 rfl (lv_at hl 0 rfl) ?_
      refine gt_X10_92 X hP hz0 dX10_shelf_80 ?_
      refine lv_iload_n (pc := 83) hx hb dX10_shelf_83 rfl (lv_at hl 3 rfl) ?_
      obtain ⟨j24, hj25, h⟩ := bnd1 h
      refine r_iald (pc := 84) X hP (kf_10_sizes hz0).1 hj25 dX10_shelf_84 ?_
      refine lv_goto (pc := 85) (tgt := 89) hx hb dX10_shelf_85 (by decide) ?_
      obtain ⟨j26, hj27, h⟩ := bnd1 h
      obtain ⟨σ28, e29, h⟩ := bnd1 h
      refine r_iast (pc := 89) X hP hS (kf_10_heldSize hz0).1 hj27 dX10_shelf_89 (fun H locs hP hS => ?_)
      rw [Option.some.inj e29] at hP
      refine lv_iconst (pc := 90) (v := 1) hx hb dX10_shelf_90 (by decide) ?_
      obtain ⟨rfl, rfl⟩ := inj2 h
      exact r_iret X hP hS dX10_shelf_91
  · have h := ipos c14 h
    refine lv_aload_n (pc := 58) hx hb dX10_shelf_58 rfl (lv_at hl 0 rfl) ?_
    refine gt_X10_89 X hP hz0 dX10_shelf_59 ?_
    refine lv_iload_n (pc := 62) hx hb dX10_shelf_62 rfl (lv_at hl 3 rfl) ?_
    obtain ⟨j30, hj31, h⟩ := bnd1 h
    refine r_iald (pc := 63) X hP (kf_10_sorts hz0).1 hj31 dX10_shelf_63 ?_
    refine lv_goto (pc := 64) (tgt := 68) hx hb dX10_shelf_64 (by decide) ?_
    obtain ⟨j32, hj33, h⟩ := bnd1 h
    obtain ⟨σ34, e35, h⟩ := bnd1 h
    refine r_iast (pc := 68) X hP hS (kf_10_heldNumber hz0).1 hj33 dX10_shelf_68 (fun H locs hP hS => ?_)
    rw [Option.some.inj e35] at hP
    refine lv_aload_n (pc := 69) hx hb dX10_shelf_69 rfl (lv_at hl 0 rfl) ?_
    refine gt_X10_105 X hP hz0 dX10_shelf_70 ?_
    refine lv_iload_n (pc := 73) hx hb dX10_shelf_73 rfl (lv_at hl 1 rfl) ?_
    refine lv_iload_n (pc := 74) hx hb dX10_shelf_74 rfl (lv_at hl 2 rfl) ?_
    refine lv_iconst (pc := 75) (v := 1) hx hb dX10_shelf_75 (by decide) ?_
    refine lv_icmp_ne (pc := 76) (tgt := 88) hx hb dX10_shelf_76 (by decide) (fun c36 => ?_) (fun c36 => ?_)
    · have h := ineg c36 h
      refine lv_iconst (pc := 88) (v := 0) hx hb dX10_shelf_88 (by decide) ?_
      obtain ⟨j37, hj38, h⟩ := bnd1 h
      obtain ⟨σ39, e40, h⟩ := bnd1 h
      refine r_iast (pc := 89) X hP hS (kf_10_heldSize hz0).1 hj38 dX10_shelf_89 (fun H locs hP hS => ?_)
      rw [Option.some.inj e40] at hP
      refine lv_iconst (pc := 90) (v := 1) hx hb dX10_shelf_90 (by decide) ?_
      obtain ⟨rfl, rfl⟩ := inj2 h
      exact r_iret X hP hS dX10_shelf_91
    · have h := ipos c36 h
      refine lv_aload_n (pc := 79) hx hb dX10_shelf_79 rfl (lv_at hl 0 rfl) ?_
      refine gt_X10_92 X hP hz0 dX10_shelf_80 ?_
      refine lv_iload_n (pc := 83) hx hb dX10_shelf_83 rfl (lv_at hl 3 rfl) ?_
      obtain ⟨j41, hj42, h⟩ := bnd1 h
      refine r_iald (pc := 84) X hP (kf_10_sizes hz0).1 hj42 dX10_shelf_84 ?_
      refine lv_goto (pc := 85) (tgt := 89) hx hb dX10_shelf_85 (by decide) ?_
      obtain ⟨j43, hj44, h⟩ := bnd1 h
      obtain ⟨σ45, e46, h⟩ := bnd1 h
      refine r_iast (pc := 89) X hP hS (kf_10_heldSize hz0).1 hj44 dX10_shelf_89 (fun H locs hP hS => ?_)
      rw [Option.some.inj e46] at hP
      refine lv_iconst (pc := 90) (v := 1) hx hb dX10_shelf_90 (by decide) ?_
      obtain ⟨rfl, rfl⟩ := inj2 h
      exact r_iret X hP hS dX10_shelf_91
set_option maxHeartbeats 4000000 in
set_option maxRecDepth 100000 in
theorem w_X10_shelf_47x1 {l : Launch} {G : Gh} {p : Program} {e : Env} {s : State} {m : MethodId} {args : Array Value} {below : List Frame} {meth : Method} {c : Code} (X : Cx G p s m args meth c prog_12_method_89_code RX10 4 (some .int)) {k0z : Nat} {s2z : Nat} (hz0 : kd k0z = 10) (hs2 : kd s2z = 12) {rr : Int32} {σr : Mem} : ∀ (v1 : Int32) (v2 : Int32) (v3 : Int32) (w0 : Int32) (w1 : Int32) (σ : Mem) (H : Heap) (locs : List Loc) (ls : Array Slot), PW G σ H → va_S (AA G) s.heap H locs → lv_has ls 4 [(0, .ref (ga G k0z)), (1, .int v1), (2, .int v2), (3, .int v3)] → F_X10_shelf_47x1 k0z s2z v1 v2 v3 w0 w1 σ = some (rr, σr) → W p l e RM_X10_shelf s m args below meth c H locs 0 0 (MQ below (QG G (some (.int rr)) σr) args s 0 0 (AA G)) (F0 m 47 ls [.int w0, .int w1, .ref (ga G s2z)]) := by
  have hx := X.hx
  have hb := X.hb
  intro v1 v2 v3 w0 w1 σ H locs ls hP hS hl h
  unfold F_X10_shelf_47x1 at h
  obtain ⟨j48, hj49, h⟩ := bnd1 h
  obtain ⟨σ50, e51, h⟩ := bnd1 h
  refine r_iast (pc := 47) X hP hS hs2 hj49 dX10_shelf_47 (fun H locs hP hS => ?_)
  rw [Option.some.inj e51] at hP
  refine lv_aload_n (pc := 48) hx hb dX10_shelf_48 rfl (lv_at hl 0 rfl) ?_
  refine gt_X10_102 X hP hz0 dX10_shelf_49 ?_
  refine lv_iload_n (pc := 52) hx hb dX10_shelf_52 rfl (lv_at hl 1 rfl) ?_
  refine lv_iload_n (pc := 53) hx hb dX10_shelf_53 rfl (lv_at hl 2 rfl) ?_
  refine lv_iconst (pc := 54) (v := 1) hx hb dX10_shelf_54 (by decide) ?_
  refine lv_icmp_ne (pc := 55) (tgt := 67) hx hb dX10_shelf_55 (by decide) (fun c52 => ?_) (fun c52 => ?_)
  · have h := ineg c52 h
    refine lv_iload_n (pc := 67) hx hb dX10_shelf_67 rfl (lv_at hl 3 rfl) ?_
    obtain ⟨j53, hj54, h⟩ := bnd1 h
    obtain ⟨σ55, e56, h⟩ := bnd1 h
    refine r_iast (pc := 68) X hP hS (kf_10_heldNumber hz0).1 hj54 dX10_shelf_68 (fun H locs hP hS => ?_)
    rw [Option.some.inj e56] at hP
    refine lv_aload_n (pc := 69) hx hb dX10_shelf_69 rfl (lv_at hl 0 rfl) ?_
    refine gt_X10_105 X hP hz0 dX10_shelf_70 ?_
    refine lv_iload_n (pc := 73) hx hb dX10_shelf_73 rfl (lv_at hl 1 rfl) ?_
    refine lv_iload_n (pc := 74) hx hb dX10_shelf_74 rfl (lv_at hl 2 rfl) ?_
    refine lv_iconst (pc := 75) (v := 1) hx hb dX10_shelf_75 (by decide) ?_
    refine lv_icmp_ne (pc := 76) (tgt := 88) hx hb dX10_shelf_76 (by decide) (fun c57 => ?_) (fun c57 => ?_)
    · have h := ineg c57 h
      refine lv_iconst (pc := 88) (v := 0) hx hb dX10_shelf_88 (by decide) ?_
      obtain ⟨j58, hj59, h⟩ := bnd1 h
      obtain ⟨σ60, e61, h⟩ := bnd1 h
      refine r_iast (pc := 89) X hP hS (kf_10_heldSize hz0).1 hj59 dX10_shelf_89 (fun H locs hP hS => ?_)
      rw [Option.some.inj e61] at hP
      refine lv_iconst (pc := 90) (v := 1) hx hb dX10_shelf_90 (by decide) ?_
      obtain ⟨rfl, rfl⟩ := inj2 h
      exact r_iret X hP hS dX10_shelf_91
    · have h := ipos c57 h
      refine lv_aload_n (pc := 79) hx hb dX10_shelf_79 rfl (lv_at hl 0 rfl) ?_
      refine gt_X10_92 X hP hz0 dX10_shelf_80 ?_
      refine lv_iload_n (pc := 83) hx hb dX10_shelf_83 rfl (lv_at hl 3 rfl) ?_
      obtain ⟨j62, hj63, h⟩ := bnd1 h
      refine r_iald (pc := 84) X hP (kf_10_sizes hz0).1 hj63 dX10_shelf_84 ?_
      refine lv_goto (pc := 85) (tgt := 89) hx hb dX10_shelf_85 (by decide) ?_
      obtain ⟨j64, hj65, h⟩ := bnd1 h
      obtain ⟨σ66, e67, h⟩ := bnd1 h
      refine r_iast (pc := 89) X hP hS (kf_10_heldSize hz0).1 hj65 dX10_shelf_89 (fun H locs hP hS => ?_)
      rw [Option.some.inj e67] at hP
      refine lv_iconst (pc := 90) (v := 1) hx hb dX10_shelf_90 (by decide) ?_
      obtain ⟨rfl, rfl⟩ := inj2 h
      exact r_iret X hP hS dX10_shelf_91
  · have h := ipos c52 h
    refine lv_aload_n (pc := 58) hx hb dX10_shelf_58 rfl (lv_at hl 0 rfl) ?_
    refine gt_X10_89 X hP hz0 dX10_shelf_59 ?_
    refine lv_iload_n (pc := 62) hx hb dX10_shelf_62 rfl (lv_at hl 3 rfl) ?_
    obtain ⟨j68, hj69, h⟩ := bnd1 h
    refine r_iald (pc := 63) X hP (kf_10_sorts hz0).1 hj69 dX10_shelf_63 ?_
    refine lv_goto (pc := 64) (tgt := 68) hx hb dX10_shelf_64 (by decide) ?_
    obtain ⟨j70, hj71, h⟩ := bnd1 h
    obtain ⟨σ72, e73, h⟩ := bnd1 h
    refine r_iast (pc := 68) X hP hS (kf_10_heldNumber hz0).1 hj71 dX10_shelf_68 (fun H locs hP hS => ?_)
    rw [Option.some.inj e73] at hP
    refine lv_aload_n (pc := 69) hx hb dX10_shelf_69 rfl (lv_at hl 0 rfl) ?_
    refine gt_X10_105 X hP hz0 dX10_shelf_70 ?_
    refine lv_iload_n (pc := 73) hx hb dX10_shelf_73 rfl (lv_at hl 1 rfl) ?_
    refine lv_iload_n (pc := 74) hx hb dX10_shelf_74 rfl (lv_at hl 2 rfl) ?_
    refine lv_iconst (pc := 75) (v := 1) hx hb dX10_shelf_75 (by decide) ?_
    refine lv_icmp_ne (pc := 76) (tgt := 88) hx hb dX10_shelf_76 (by decide) (fun c74 => ?_) (fun c74 => ?_)
    · have h := ineg c74 h
      refine lv_iconst (pc := 88) (v := 0) hx hb dX10_shelf_88 (by decide) ?_
      obtain ⟨j75, hj76, h⟩ := bnd1 h
      obtain ⟨σ77, e78, h⟩ := bnd1 h
      refine r_iast (pc := 89) X hP hS (kf_10_heldSize hz0).1 hj76 dX10_shelf_89 (fun H locs hP hS => ?_)
      rw [Option.some.inj e78] at hP
      refine lv_iconst (pc := 90) (v := 1) hx hb dX10_shelf_90 (by decide) ?_
      obtain ⟨rfl, rfl⟩ := inj2 h
      exact r_iret X hP hS dX10_shelf_91
    · have h := ipos c74 h
      refine lv_aload_n (pc := 79) hx hb dX10_shelf_79 rfl (lv_at hl 0 rfl) ?_
      refine gt_X10_92 X hP hz0 dX10_shelf_80 ?_
      refine lv_iload_n (pc := 83) hx hb dX10_shelf_83 rfl (lv_at hl 3 rfl) ?_
      obtain ⟨j79, hj80, h⟩ := bnd1 h
      refine r_iald (pc := 84) X hP (kf_10_sizes hz0).1 hj80 dX10_shelf_84 ?_
      refine lv_goto (pc := 85) (tgt := 89) hx hb dX10_shelf_85 (by decide) ?_
      obtain ⟨j81, hj82, h⟩ := bnd1 h
      obtain ⟨σ83, e84, h⟩ := bnd1 h
      refine r_iast (pc := 89) X hP hS (kf_10_heldSize hz0).1 hj82 dX10_shelf_89 (fun H locs hP hS => ?_)
      rw [Option.some.inj e84] at hP
      refine lv_iconst (pc := 90) (v := 1) hx hb dX10_shelf_90 (by decide) ?_
      obtain ⟨rfl, rfl⟩ := inj2 h
      exact r_iret X hP hS dX10_shelf_91
set_option maxHeartbeats 4000000 in
set_option maxRecDepth 100000 in
theorem c_X10_shelf (l : Launch) (G : Gh) {k0 : Nat} {a1 : Int32} {a2 : Int32} {a3 : Int32} {σ : Mem} {rr : Int32} {σr : Mem} (hk0 : kd k0 = 10) (h : f_X10_shelf k0 a1 a2 a3 σ = some (rr, σr)) : Met l yX10_shelf [Cond.code yX10_shelf prog_12_method_89_code 4 (some .int)] RM_X10_shelf (va_Pc [.ref (ga G k0), .int a1, .int a2, .int a3] (Pre G σ)) (QG G (some (.int rr)) σr) 0 0 (AA G) := by
  refine ct_of (by decide) (fun p e s m below meth c X hP => ?_)
  have hx := X.hx
  have hb := X.hb
  have hS : va_S (AA G) s.heap s.heap [] := va_S.rf
  have hl := lv_entry ([.ref (ga G k0), .int a1, .int a2, .int a3]) (n := 4) (Nat.le_of_ble_eq_true rfl)
  rw [lg_entry_eq]
  generalize (lg_sl ([.ref (ga G k0), .int a1, .int a2, .int a3]) ++ List.replicate (4 - (lg_sl ([.ref (ga G k0), .int a1, .int a2, .int a3])).length) Slot.unset).toArray = ls at hl ⊢
  have hl : lv_has ls 4 [(0, .ref (ga G k0)), (1, .int a1), (2, .int a2), (3, .int a3)] := hl
  unfold f_X10_shelf at h
  refine lv_iload_n (pc := 0) hx hb dX10_shelf_0 rfl (lv_at hl 1 rfl) ?_
  obtain ⟨r3, σ1, e2, h⟩ := bnd2 h
  refine cl_X10_361 X hP hS (As := [.int a1]) (rest := []) (c_X10_isShelf l G  e2) ⟨rfl, rfl, Nat.le_of_ble_eq_true rfl, Nat.le_of_ble_eq_true rfl⟩ rfl hl.1 rfl (Nat.le_of_ble_eq_true rfl) ⟨Nat.zero_le _, Nat.zero_le _⟩ (pc := 1) dX10_shelf_1 (fun H locs hP hS => ?_)
  change W p l e _ s m _ below meth c H locs _ _ _ (F0 m (1 + 3) ls (.int r3 :: []))
  refine lv_if_eq (pc := 4) (tgt := 16) hx hb dX10_shelf_4 (by decide) (fun c4 => ?_) (fun c4 => ?_)
  · have h := ipos c4 h
    refine lv_iconst (pc := 16) (v := (-1)) hx hb dX10_shelf_16 (by decide) ?_
    obtain ⟨rfl, rfl⟩ := inj2 h
    exact r_iret X hP hS dX10_shelf_17
  · have h := ineg c4 h
    refine lv_aload_n (pc := 7) hx hb dX10_shelf_7 rfl (lv_at hl 0 rfl) ?_
    refine lv_iload_n (pc := 8) hx hb dX10_shelf_8 rfl (lv_at hl 2 rfl) ?_
    refine lv_iload_n (pc := 9) hx hb dX10_shelf_9 rfl (lv_at hl 3 rfl) ?_
    obtain ⟨r7, σ5, e6, h⟩ := bnd2 h
    refine cl_X10_369 X hP hS hk0 (As := [.int a2, .int a3]) (rest := []) (c_X10_isHeld l G hk0 e6) ⟨rfl, rfl, Nat.le_of_ble_eq_true rfl, Nat.le_of_ble_eq_true rfl⟩ rfl hl.1 rfl (Nat.le_of_ble_eq_true rfl) ⟨Nat.zero_le _, Nat.zero_le _⟩ (pc := 10) dX10_shelf_10 (fun H locs hP hS => ?_)
    change W p l e _ s m _ below meth c H locs _ _ _ (F0 m (10 + 3) ls (.int r7 :: []))
    refine lv_if_ne (pc := 13) (tgt := 18) hx hb dX10_shelf_13 (by decide) (fun c8 => ?_) (fun c8 => ?_)
    · have h := ineg c8 h
      refine lv_aload_n (pc := 18) hx hb dX10_shelf_18 rfl (lv_at hl 0 rfl) ?_
      refine gt_X10_99 X hP hk0 dX10_shelf_19 ?_
      refine lv_iload_n (pc := 22) hx hb dX10_shelf_22 rfl (lv_at hl 1 rfl) ?_
      refine lv_iload_n (pc := 23) hx hb dX10_shelf_23 rfl (lv_at hl 2 rfl) ?_
      refine lv_iconst (pc := 24) (v := 2) hx hb dX10_shelf_24 (by decide) ?_
      refine lv_icmp_eq (pc := 25) (tgt := 42) hx hb dX10_shelf_25 (by decide) (fun c9 => ?_) (fun c9 => ?_)
      · have h := ipos c9 h
        refine lv_iconst (pc := 42) (v := (-1)) hx hb dX10_shelf_42 (by decide) ?_
        refine lv_goto (pc := 43) (tgt := 47) hx hb dX10_shelf_43 (by decide) ?_
        exact w_X10_shelf_47 X  hk0 (kf_10_held hk0).1  _ _ _ _ _ _ _ _ hP hS (lv_sub hl [0, 1, 2, 3] rfl) h
      · have h := ineg c9 h
        refine lv_iload_n (pc := 28) hx hb dX10_shelf_28 rfl (lv_at hl 2 rfl) ?_
        refine lv_iconst (pc := 29) (v := 1) hx hb dX10_shelf_29 (by decide) ?_
        refine lv_icmp_ne (pc := 30) (tgt := 46) hx hb dX10_shelf_30 (by decide) (fun c47 => ?_) (fun c47 => ?_)
        · have h := ineg c47 h
          refine lv_iload_n (pc := 46) hx hb dX10_shelf_46 rfl (lv_at hl 2 rfl) ?_
          exact w_X10_shelf_47x1 X  hk0 (kf_10_held hk0).1  _ _ _ _ _ _ _ _ _ hP hS (lv_sub hl [0, 1, 2, 3] rfl) h
        · have h := ipos c47 h
          refine lv_aload_n (pc := 33) hx hb dX10_shelf_33 rfl (lv_at hl 0 rfl) ?_
          refine gt_X10_89 X hP hk0 dX10_shelf_34 ?_
          refine lv_iload_n (pc := 37) hx hb dX10_shelf_37 rfl (lv_at hl 3 rfl) ?_
          obtain ⟨j85, hj86, h⟩ := bnd1 h
          refine r_iald (pc := 38) X hP (kf_10_sorts hk0).1 hj86 dX10_shelf_38 ?_
          refine lv_if_ge (pc := 39) (tgt := 46) hx hb dX10_shelf_39 (by decide) (fun c87 => ?_) (fun c87 => ?_)
          · have h := ipos c87 h
            refine lv_iload_n (pc := 46) hx hb dX10_shelf_46 rfl (lv_at hl 2 rfl) ?_
            exact w_X10_shelf_47x1 X  hk0 (kf_10_held hk0).1  _ _ _ _ _ _ _ _ _ hP hS (lv_sub hl [0, 1, 2, 3] rfl) h
          · have h := ineg c87 h
            refine lv_iconst (pc := 42) (v := (-1)) hx hb dX10_shelf_42 (by decide) ?_
            refine lv_goto (pc := 43) (tgt := 47) hx hb dX10_shelf_43 (by decide) ?_
            exact w_X10_shelf_47 X  hk0 (kf_10_held hk0).1  _ _ _ _ _ _ _ _ hP hS (lv_sub hl [0, 1, 2, 3] rfl) h
    · have h := ipos c8 h
      refine lv_iconst (pc := 16) (v := (-1)) hx hb dX10_shelf_16 (by decide) ?_
      obtain ⟨rfl, rfl⟩ := inj2 h
      exact r_iret X hP hS dX10_shelf_17
def f_X10_kindOn (k0 : Nat) (a1 : Int32) (σ : Mem) : Option (Int32 × Mem) :=
  bd1 (ixo (k0 + 27) a1) fun j1 =>
  if (gI σ (k0 + 27) j1) = (0 : Int32) then
    bd1 (ixo (k0 + 28) a1) fun j4 =>
    bd2 (f_X10_isBidder k0 (gI σ (k0 + 28) j4) σ) fun r8 σ6 =>
    if r8 = (0 : Int32) then
      some ((-1 : Int32), σ6)
    else
      bd1 (ixo (k0 + 28) a1) fun j10 =>
      bd1 (ixo (k0 + 7) (gI σ6 (k0 + 28) j10)) fun j12 =>
      some ((gI σ6 (k0 + 7) j12), σ6)
  else
    bd1 (ixo (k0 + 27) a1) fun j14 =>
    if (0 : Int32) ≤ (gI σ (k0 + 27) j14) then
      some ((9 : Int32), σ)
    else
      some ((-1 : Int32), σ)
abbrev RM_X10_kindOn : Room := { frames := 2, cells := 0, slots := 0, locals := 43 }
set_option maxHeartbeats 4000000 in
set_option maxRecDepth 100000 in
theorem c_X10_kindOn (l : Launch) (G : Gh) {k0 : Nat} {a1 : Int32} {σ : Mem} {rr : Int32} {σr : Mem} (hk0 : kd k0 = 10) (h : f_X10_kindOn k0 a1 σ = some (rr, σr)) : Met l yX10_kindOn [Cond.code yX10_kindOn prog_12_method_90_code 2 (some .int)] RM_X10_kindOn (va_Pc [.ref (ga G k0), .int a1] (Pre G σ)) (QG G (some (.int rr)) σr) 0 0 (AA G) := by
  refine ct_of (by decide) (fun p e s m below meth c X hP => ?_)
  have hx := X.hx
  have hb := X.hb
  have hS : va_S (AA G) s.heap s.heap [] := va_S.rf
  have hl := lv_entry ([.ref (ga G k0), .int a1]) (n := 2) (Nat.le_of_ble_eq_true rfl)
  rw [lg_entry_eq]
  generalize (lg_sl ([.ref (ga G k0), .int a1]) ++ List.replicate (2 - (lg_sl ([.ref (ga G k0), .int a1])).length) Slot.unset).toArray = ls at hl ⊢
  have hl : lv_has ls 2 [(0, .ref (ga G k0)), (1, .int a1)] := hl
  unfold f_X10_kindOn at h
  refine lv_aload_n (pc := 0) hx hb dX10_kindOn_0 rfl (lv_at hl 0 rfl) ?_
  refine gt_X10_99 X hP hk0 dX10_kindOn_1 ?_
  refine lv_iload_n (pc := 4) hx hb dX10_kindOn_4 rfl (lv_at hl 1 rfl) ?_
  obtain ⟨j1, hj2, h⟩ := bnd1 h
  refine r_iald (pc := 5) X hP (kf_10_held hk0).1 hj2 dX10_kindOn_5 ?_
  refine lv_if_eq (pc := 6) (tgt := 25) hx hb dX10_kindOn_6 (by decide) (fun c3 => ?_) (fun c3 => ?_)
  · have h := ipos c3 h
    refine lv_aload_n (pc := 25) hx hb dX10_kindOn_25 rfl (lv_at hl 0 rfl) ?_
    refine lv_aload_n (pc := 26) hx hb dX10_kindOn_26 rfl (lv_at hl 0 rfl) ?_
    refine gt_X10_102 X hP hk0 dX10_kindOn_27 ?_
    refine lv_iload_n (pc := 30) hx hb dX10_kindOn_30 rfl (lv_at hl 1 rfl) ?_
    obtain ⟨j4, hj5, h⟩ := bnd1 h
    refine r_iald (pc := 31) X hP (kf_10_heldNumber hk0).1 hj5 dX10_kindOn_31 ?_
    obtain ⟨r8, σ6, e7, h⟩ := bnd2 h
    refine cl_X10_271 X hP hS hk0 (As := [.int (gI σ (k0 + 28) j4)]) (rest := []) (c_X10_isBidder l G hk0 e7) ⟨rfl, rfl, Nat.le_of_ble_eq_true rfl, Nat.le_of_ble_eq_true rfl⟩ rfl hl.1 rfl (Nat.le_of_ble_eq_true rfl) ⟨Nat.zero_le _, Nat.zero_le _⟩ (pc := 32) dX10_kindOn_32 (fun H locs hP hS => ?_)
    change W p l e _ s m _ below meth c H locs _ _ _ (F0 m (32 + 3) ls (.int r8 :: []))
    refine lv_if_eq (pc := 35) (tgt := 52) hx hb dX10_kindOn_35 (by decide) (fun c9 => ?_) (fun c9 => ?_)
    · have h := ipos c9 h
      refine lv_iconst (pc := 52) (v := (-1)) hx hb dX10_kindOn_52 (by decide) ?_
      obtain ⟨rfl, rfl⟩ := inj2 h
      exact r_iret X hP hS dX10_kindOn_53
    · have h := ineg c9 h
      refine lv_aload_n (pc := 38) hx hb dX10_kindOn_38 rfl (lv_at hl 0 rfl) ?_
      refine gt_X10_32 X hP hk0 dX10_kindOn_39 ?_
      refine lv_aload_n (pc := 42) hx hb dX10_kindOn_42 rfl (lv_at hl 0 rfl) ?_
      refine gt_X10_102 X hP hk0 dX10_kindOn_43 ?_
      refine lv_iload_n (pc := 46) hx hb dX10_kindOn_46 rfl (lv_at hl 1 rfl) ?_
      obtain ⟨j10, hj11, h⟩ := bnd1 h
      refine r_iald (pc := 47) X hP (kf_10_heldNumber hk0).1 hj11 dX10_kindOn_47 ?_
      obtain ⟨j12, hj13, h⟩ := bnd1 h
      refine r_iald (pc := 48) X hP (kf_10_kinds hk0).1 hj13 dX10_kindOn_48 ?_
      refine lv_goto (pc := 49) (tgt := 53) hx hb dX10_kindOn_49 (by decide) ?_
      obtain ⟨rfl, rfl⟩ := inj2 h
      exact r_iret X hP hS dX10_kindOn_53
  · have h := ineg c3 h
    refine lv_aload_n (pc := 9) hx hb dX10_kindOn_9 rfl (lv_at hl 0 rfl) ?_
    refine gt_X10_99 X hP hk0 dX10_kindOn_10 ?_
    refine lv_iload_n (pc := 13) hx hb dX10_kindOn_13 rfl (lv_at hl 1 rfl) ?_
    obtain ⟨j14, hj15, h⟩ := bnd1 h
    refine r_iald (pc := 14) X hP (kf_10_held hk0).1 hj15 dX10_kindOn_14 ?_
    refine lv_if_ge (pc := 15) (tgt := 22) hx hb dX10_kindOn_15 (by decide) (fun c16 => ?_) (fun c16 => ?_)
    · have h := ipos c16 h
      refine lv_bipush (pc := 22) (v := (9)) hx hb dX10_kindOn_22 (by decide) ?_
      obtain ⟨rfl, rfl⟩ := inj2 h
      exact r_iret X hP hS dX10_kindOn_24
    · have h := ineg c16 h
      refine lv_iconst (pc := 18) (v := (-1)) hx hb dX10_kindOn_18 (by decide) ?_
      refine lv_goto (pc := 19) (tgt := 24) hx hb dX10_kindOn_19 (by decide) ?_
      obtain ⟨rfl, rfl⟩ := inj2 h
      exact r_iret X hP hS dX10_kindOn_24
def f_X10_isUnder (a0 : Int32) (a1 : Int32) (σ : Mem) : Option (Int32 × Mem) :=
  if a1 = (0 : Int32) then
    some ((1 : Int32), σ)
  else
    if a1 = a0 then
      some ((1 : Int32), σ)
    else
      if a1 = (1 : Int32) then
        if a0 = (3 : Int32) then
          some ((1 : Int32), σ)
        else
          if a0 = (5 : Int32) then
            some ((1 : Int32), σ)
          else
            if a1 = (2 : Int32) then
              if a0 = (4 : Int32) then
                some ((1 : Int32), σ)
              else
                some ((0 : Int32), σ)
            else
              some ((0 : Int32), σ)
      else
        if a1 = (2 : Int32) then
          if a0 = (4 : Int32) then
            some ((1 : Int32), σ)
          else
            some ((0 : Int32), σ)
        else
          some ((0 : Int32), σ)
abbrev RM_X10_isUnder : Room := { frames := 0, cells := 0, slots := 0, locals := 0 }
set_option maxHeartbeats 4000000 in
set_option maxRecDepth 100000 in
theorem c_X10_isUnder (l : Launch) (G : Gh) {a0 : Int32} {a1 : Int32} {σ : Mem} {rr : Int32} {σr : Mem} (h : f_X10_isUnder a0 a1 σ = some (rr, σr)) : Met l yX10_isUnder [Cond.code yX10_isUnder prog_12_method_91_code 2 (some .boolean)] RM_X10_isUnder (va_Pc [.int a0, .int a1] (Pre G σ)) (QG G (some (.int rr)) σr) 0 0 (AA G) := by
  refine ct_of (by decide) (fun p e s m below meth c X hP => ?_)
  have hx := X.hx
  have hb := X.hb
  have hS : va_S (AA G) s.heap s.heap [] := va_S.rf
  have hl := lv_entry ([.int a0, .int a1]) (n := 2) (Nat.le_of_ble_eq_true rfl)
  rw [lg_entry_eq]
  generalize (lg_sl ([.int a0, .int a1]) ++ List.replicate (2 - (lg_sl ([.int a0, .int a1])).length) Slot.unset).toArray = ls at hl ⊢
  have hl : lv_has ls 2 [(0, .int a0), (1, .int a1)] := hl
  unfold f_X10_isUnder at h
  refine lv_iload_n (pc := 0) hx hb dX10_isUnder_0 rfl (lv_at hl 1 rfl) ?_
  refine lv_if_eq (pc := 1) (tgt := 34) hx hb dX10_isUnder_1 (by decide) (fun c1 => ?_) (fun c1 => ?_)
  · have h := ipos c1 h
    refine lv_iconst (pc := 34) (v := 1) hx hb dX10_isUnder_34 (by decide) ?_
    refine lv_goto (pc := 35) (tgt := 39) hx hb dX10_isUnder_35 (by decide) ?_
    obtain ⟨rfl, rfl⟩ := inj2 h
    exact r_zret X hP hS (by decide) dX10_isUnder_39
  · have h := ineg c1 h
    refine lv_iload_n (pc := 4) hx hb dX10_isUnder_4 rfl (lv_at hl 1 rfl) ?_
    refine lv_iload_n (pc := 5) hx hb dX10_isUnder_5 rfl (lv_at hl 0 rfl) ?_
    refine lv_icmp_eq (pc := 6) (tgt := 34) hx hb dX10_isUnder_6 (by decide) (fun c2 => ?_) (fun c2 => ?_)
    · have h := ipos c2 h
      refine lv_iconst (pc := 34) (v := 1) hx hb dX10_isUnder_34 (by decide) ?_
      refine lv_goto (pc := 35) (tgt := 39) hx hb dX10_isUnder_35 (by decide) ?_
      obtain ⟨rfl, rfl⟩ := inj2 h
      exact r_zret X hP hS (by decide) dX10_isUnder_39
    · have h := ineg c2 h
      refine lv_iload_n (pc := 9) hx hb dX10_isUnder_9 rfl (lv_at hl 1 rfl) ?_
      refine lv_iconst (pc := 10) (v := 1) hx hb dX10_isUnder_10 (by decide) ?_
      refine lv_icmp_ne (pc := 11) (tgt := 24) hx hb dX10_isUnder_11 (by decide) (fun c3 => ?_) (fun c3 => ?_)
      · have h := ineg c3 h
        refine lv_iload_n (pc := 24) hx hb dX10_isUnder_24 rfl (lv_at hl 1 rfl) ?_
        refine lv_iconst (pc := 25) (v := 2) hx hb dX10_isUnder_25 (by decide) ?_
        refine lv_icmp_ne (pc := 26) (tgt := 38) hx hb dX10_isUnder_26 (by decide) (fun c4 => ?_) (fun c4 => ?_)
        · have h := ineg c4 h
          refine lv_iconst (pc := 38) (v := 0) hx hb dX10_isUnder_38 (by decide) ?_
          obtain ⟨rfl, rfl⟩ := inj2 h
          exact r_zret X hP hS (by decide) dX10_isUnder_39
        · have h := ipos c4 h
          refine lv_iload_n (pc := 29) hx hb dX10_isUnder_29 rfl (lv_at hl 0 rfl) ?_
          refine lv_iconst (pc := 30) (v := 4) hx hb dX10_isUnder_30 (by decide) ?_
          refine lv_icmp_ne (pc := 31) (tgt := 38) hx hb dX10_isUnder_31 (by decide) (fun c5 => ?_) (fun c5 => ?_)
          · have h := ineg c5 h
            refine lv_iconst (pc := 38) (v := 0) hx hb dX10_isUnder_38 (by decide) ?_
            obtain ⟨rfl, rfl⟩ := inj2 h
            exact r_zret X hP hS (by decide) dX10_isUnder_39
          · have h := ipos c5 h
            refine lv_iconst (pc := 34) (v := 1) hx hb dX10_isUnder_34 (by decide) ?_
            refine lv_goto (pc := 35) (tgt := 39) hx hb dX10_isUnder_35 (by decide) ?_
            obtain ⟨rfl, rfl⟩ := inj2 h
            exact r_zret X hP hS (by decide) dX10_isUnder_39
      · have h := ipos c3 h
        refine lv_iload_n (pc := 14) hx hb dX10_isUnder_14 rfl (lv_at hl 0 rfl) ?_
        refine lv_iconst (pc := 15) (v := 3) hx hb dX10_isUnder_15 (by decide) ?_
        refine lv_icmp_eq (pc := 16) (tgt := 34) hx hb dX10_isUnder_16 (by decide) (fun c6 => ?_) (fun c6 => ?_)
        · have h := ipos c6 h
          refine lv_iconst (pc := 34) (v := 1) hx hb dX10_isUnder_34 (by decide) ?_
          refine lv_goto (pc := 35) (tgt := 39) hx hb dX10_isUnder_35 (by decide) ?_
          obtain ⟨rfl, rfl⟩ := inj2 h
          exact r_zret X hP hS (by decide) dX10_isUnder_39
        · have h := ineg c6 h
          refine lv_iload_n (pc := 19) hx hb dX10_isUnder_19 rfl (lv_at hl 0 rfl) ?_
          refine lv_iconst (pc := 20) (v := 5) hx hb dX10_isUnder_20 (by decide) ?_
          refine lv_icmp_eq (pc := 21) (tgt := 34) hx hb dX10_isUnder_21 (by decide) (fun c7 => ?_) (fun c7 => ?_)
          · have h := ipos c7 h
            refine lv_iconst (pc := 34) (v := 1) hx hb dX10_isUnder_34 (by decide) ?_
            refine lv_goto (pc := 35) (tgt := 39) hx hb dX10_isUnder_35 (by decide) ?_
            obtain ⟨rfl, rfl⟩ := inj2 h
            exact r_zret X hP hS (by decide) dX10_isUnder_39
          · have h := ineg c7 h
            refine lv_iload_n (pc := 24) hx hb dX10_isUnder_24 rfl (lv_at hl 1 rfl) ?_
            refine lv_iconst (pc := 25) (v := 2) hx hb dX10_isUnder_25 (by decide) ?_
            refine lv_icmp_ne (pc := 26) (tgt := 38) hx hb dX10_isUnder_26 (by decide) (fun c8 => ?_) (fun c8 => ?_)
            · have h := ineg c8 h
              refine lv_iconst (pc := 38) (v := 0) hx hb dX10_isUnder_38 (by decide) ?_
              obtain ⟨rfl, rfl⟩ := inj2 h
              exact r_zret X hP hS (by decide) dX10_isUnder_39
            · have h := ipos c8 h
              refine lv_iload_n (pc := 29) hx hb dX10_isUnder_29 rfl (lv_at hl 0 rfl) ?_
              refine lv_iconst (pc := 30) (v := 4) hx hb dX10_isUnder_30 (by decide) ?_
              refine lv_icmp_ne (pc := 31) (tgt := 38) hx hb dX10_isUnder_31 (by decide) (fun c9 => ?_) (fun c9 => ?_)
              · have h := ineg c9 h
                refine lv_iconst (pc := 38) (v := 0) hx hb dX10_isUnder_38 (by decide) ?_
                obtain ⟨rfl, rfl⟩ := inj2 h
                exact r_zret X hP hS (by decide) dX10_isUnder_39
              · have h := ipos c9 h
                refine lv_iconst (pc := 34) (v := 1) hx hb dX10_isUnder_34 (by decide) ?_
                refine lv_goto (pc := 35) (tgt := 39) hx hb dX10_isUnder_35 (by decide) ?_
                obtain ⟨rfl, rfl⟩ := inj2 h
                exact r_zret X hP hS (by decide) dX10_isUnder_39
def F_X10_taken_29 (k0z : Nat) (v1 : Int32) (v2 : Int32) (σ : Mem) : Option (Int32 × Mem) :=
  bd2 (f_X10_kindOn k0z v1 σ) fun r11 σ9 =>
  if (0 : Int32) ≤ r11 then
    if r11 = (9 : Int32) then
      bd1 (ixo (k0z + 28) v1) fun j21 =>
      if v2 = ((10 : Int32) + (gI σ9 (k0z + 28) j21)) then
        bd1 (ixo (k0z + 29) v1) fun j24 =>
        some ((gI σ9 (k0z + 29) j24), σ9)
      else
        some ((-13 : Int32), σ9)
    else
      if (10 : Int32) ≤ v2 then
        some ((-13 : Int32), σ9)
      else
        bd2 (f_X10_isUnder r11 v2 σ9) fun r17 σ15 =>
        if r17 = (0 : Int32) then
          some ((-13 : Int32), σ15)
        else
          bd1 (ixo (k0z + 28) v1) fun j19 =>
          some ((gI σ15 (k0z + 28) j19), σ15)
  else
    some ((-11 : Int32), σ9)
def f_X10_taken (k0 : Nat) (a1 : Int32) (a2 : Int32) (σ : Mem) : Option (Int32 × Mem) :=
  bd2 (f_X10_isShelf a1 σ) fun r3 σ1 =>
  if r3 = (0 : Int32) then
    some ((-1 : Int32), σ1)
  else
    bd2 (f_X10_in a2 (0 : Int32) (5 : Int32) σ1) fun r7 σ5 =>
    if r7 = (0 : Int32) then
      bd2 (f_X10_in a2 (10 : Int32) (13 : Int32) σ5) fun r28 σ26 =>
      if r28 = (0 : Int32) then
        some ((-1 : Int32), σ26)
      else
        F_X10_taken_29 k0 a1 a2 σ26
    else
      F_X10_taken_29 k0 a1 a2 σ5
abbrev RM_X10_taken : Room := { frames := 3, cells := 0, slots := 0, locals := 64 }
set_option maxHeartbeats 4000000 in
set_option maxRecDepth 100000 in
theorem w_X10_taken_29 {l : Launch} {G : Gh} {p : Program} {e : Env} {s : State} {m : MethodId} {args : Array Value} {below : List Frame} {meth : Method} {c : Code} (X : Cx G p s m args meth c prog_12_method_92_code RX10 4 (some .int)) {k0z : Nat} (hz0 : kd k0z = 10) {rr : Int32} {σr : Mem} : ∀ (v1 : Int32) (v2 : Int32) (σ : Mem) (H : Heap) (locs : List Loc) (ls : Array Slot), PW G σ H → va_S (AA G) s.heap H locs → lv_has ls 4 [(0, .ref (ga G k0z)), (1, .int v1), (2, .int v2)] → F_X10_taken_29 k0z v1 v2 σ = some (rr, σr) → W p l e RM_X10_taken s m args below meth c H locs 0 0 (MQ below (QG G (some (.int rr)) σr) args s 0 0 (AA G)) (F0 m 29 ls []) := by
  have hx := X.hx
  have hb := X.hb
  intro v1 v2 σ H locs ls hP hS hl h
  unfold F_X10_taken_29 at h
  refine lv_aload_n (pc := 29) hx hb dX10_taken_29 rfl (lv_at hl 0 rfl) ?_
  refine lv_iload_n (pc := 30) hx hb dX10_taken_30 rfl (lv_at hl 1 rfl) ?_
  obtain ⟨r11, σ9, e10, h⟩ := bnd2 h
  refine cl_X10_372 X hP hS hz0 (As := [.int v1]) (rest := []) (c_X10_kindOn l G hz0 e10) ⟨rfl, rfl, Nat.le_of_ble_eq_true rfl, Nat.le_of_ble_eq_true rfl⟩ rfl hl.1 rfl (Nat.le_of_ble_eq_true rfl) ⟨Nat.zero_le _, Nat.zero_le _⟩ (pc := 31) dX10_taken_31 (fun H locs hP hS => ?_)
  change W p l e _ s m _ below meth c H locs _ _ _ (F0 m (31 + 3) ls (.int r11 :: []))
  refine lv_istore_n (pc := 34) (lv' := [(3, .int r11), (0, .ref (ga G k0z)), (1, .int v1), (2, .int v2)]) hx hb dX10_taken_34 rfl hl (by decide) rfl (fun ls hl => ?_)
  refine lv_iload_n (pc := 35) hx hb dX10_taken_35 rfl (lv_at hl 0 rfl) ?_
  refine lv_if_ge (pc := 36) (tgt := 42) hx hb dX10_taken_36 (by decide) (fun c12 => ?_) (fun c12 => ?_)
  · have h := ipos c12 h
    refine lv_iload_n (pc := 42) hx hb dX10_taken_42 rfl (lv_at hl 0 rfl) ?_
    refine lv_bipush (pc := 43) (v := (9)) hx hb dX10_taken_43 (by decide) ?_
    refine lv_icmp_ne (pc := 45) (tgt := 73) hx hb dX10_taken_45 (by decide) (fun c13 => ?_) (fun c13 => ?_)
    · have h := ineg c13 h
      refine lv_iload_n (pc := 73) hx hb dX10_taken_73 rfl (lv_at hl 3 rfl) ?_
      refine lv_bipush (pc := 74) (v := (10)) hx hb dX10_taken_74 (by decide) ?_
      refine lv_icmp_ge (pc := 76) (tgt := 96) hx hb dX10_taken_76 (by decide) (fun c14 => ?_) (fun c14 => ?_)
      · have h := ipos c14 h
        refine lv_bipush (pc := 96) (v := (-13)) hx hb dX10_taken_96 (by decide) ?_
        obtain ⟨rfl, rfl⟩ := inj2 h
        exact r_iret X hP hS dX10_taken_98
      · have h := ineg c14 h
        refine lv_iload_n (pc := 79) hx hb dX10_taken_79 rfl (lv_at hl 0 rfl) ?_
        refine lv_iload_n (pc := 80) hx hb dX10_taken_80 rfl (lv_at hl 3 rfl) ?_
        obtain ⟨r17, σ15, e16, h⟩ := bnd2 h
        refine cl_X10_375 X hP hS (As := [.int r11, .int v2]) (rest := []) (c_X10_isUnder l G  e16) ⟨rfl, rfl, Nat.le_of_ble_eq_true rfl, Nat.le_of_ble_eq_true rfl⟩ rfl hl.1 rfl (Nat.le_of_ble_eq_true rfl) ⟨Nat.zero_le _, Nat.zero_le _⟩ (pc := 81) dX10_taken_81 (fun H locs hP hS => ?_)
        change W p l e _ s m _ below meth c H locs _ _ _ (F0 m (81 + 3) ls (.int r17 :: []))
        refine lv_if_eq (pc := 84) (tgt := 96) hx hb dX10_taken_84 (by decide) (fun c18 => ?_) (fun c18 => ?_)
        · have h := ipos c18 h
          refine lv_bipush (pc := 96) (v := (-13)) hx hb dX10_taken_96 (by decide) ?_
          obtain ⟨rfl, rfl⟩ := inj2 h
          exact r_iret X hP hS dX10_taken_98
        · have h := ineg c18 h
          refine lv_aload_n (pc := 87) hx hb dX10_taken_87 rfl (lv_at hl 1 rfl) ?_
          refine gt_X10_102 X hP hz0 dX10_taken_88 ?_
          refine lv_iload_n (pc := 91) hx hb dX10_taken_91 rfl (lv_at hl 2 rfl) ?_
          obtain ⟨j19, hj20, h⟩ := bnd1 h
          refine r_iald (pc := 92) X hP (kf_10_heldNumber hz0).1 hj20 dX10_taken_92 ?_
          refine lv_goto (pc := 93) (tgt := 98) hx hb dX10_taken_93 (by decide) ?_
          obtain ⟨rfl, rfl⟩ := inj2 h
          exact r_iret X hP hS dX10_taken_98
    · have h := ipos c13 h
      refine lv_iload_n (pc := 48) hx hb dX10_taken_48 rfl (lv_at hl 3 rfl) ?_
      refine lv_bipush (pc := 49) (v := (10)) hx hb dX10_taken_49 (by decide) ?_
      refine lv_aload_n (pc := 51) hx hb dX10_taken_51 rfl (lv_at hl 1 rfl) ?_
      refine gt_X10_102 X hP hz0 dX10_taken_52 ?_
      refine lv_iload_n (pc := 55) hx hb dX10_taken_55 rfl (lv_at hl 2 rfl) ?_
      obtain ⟨j21, hj22, h⟩ := bnd1 h
      refine r_iald (pc := 56) X hP (kf_10_heldNumber hz0).1 hj22 dX10_taken_56 ?_
      refine lv_iadd (pc := 57) hx hb dX10_taken_57 ?_
      refine lv_icmp_ne (pc := 58) (tgt := 70) hx hb dX10_taken_58 (by decide) (fun c23 => ?_) (fun c23 => ?_)
      · have h := ineg c23 h
        refine lv_bipush (pc := 70) (v := (-13)) hx hb dX10_taken_70 (by decide) ?_
        obtain ⟨rfl, rfl⟩ := inj2 h
        exact r_iret X hP hS dX10_taken_72
      · have h := ipos c23 h
        refine lv_aload_n (pc := 61) hx hb dX10_taken_61 rfl (lv_at hl 1 rfl) ?_
        refine gt_X10_105 X hP hz0 dX10_taken_62 ?_
        refine lv_iload_n (pc := 65) hx hb dX10_taken_65 rfl (lv_at hl 2 rfl) ?_
        obtain ⟨j24, hj25, h⟩ := bnd1 h
        refine r_iald (pc := 66) X hP (kf_10_heldSize hz0).1 hj25 dX10_taken_66 ?_
        refine lv_goto (pc := 67) (tgt := 72) hx hb dX10_taken_67 (by decide) ?_
        obtain ⟨rfl, rfl⟩ := inj2 h
        exact r_iret X hP hS dX10_taken_72
  · have h := ineg c12 h
    refine lv_bipush (pc := 39) (v := (-11)) hx hb dX10_taken_39 (by decide) ?_
    obtain ⟨rfl, rfl⟩ := inj2 h
    exact r_iret X hP hS dX10_taken_41
set_option maxHeartbeats 4000000 in
set_option maxRecDepth 100000 in
theorem c_X10_taken (l : Launch) (G : Gh) {k0 : Nat} {a1 : Int32} {a2 : Int32} {σ : Mem} {rr : Int32} {σr : Mem} (hk0 : kd k0 = 10) (h : f_X10_taken k0 a1 a2 σ = some (rr, σr)) : Met l yX10_taken [Cond.code yX10_taken prog_12_method_92_code 4 (some .int)] RM_X10_taken (va_Pc [.ref (ga G k0), .int a1, .int a2] (Pre G σ)) (QG G (some (.int rr)) σr) 0 0 (AA G) := by
  refine ct_of (by decide) (fun p e s m below meth c X hP => ?_)
  have hx := X.hx
  have hb := X.hb
  have hS : va_S (AA G) s.heap s.heap [] := va_S.rf
  have hl := lv_entry ([.ref (ga G k0), .int a1, .int a2]) (n := 4) (Nat.le_of_ble_eq_true rfl)
  rw [lg_entry_eq]
  generalize (lg_sl ([.ref (ga G k0), .int a1, .int a2]) ++ List.replicate (4 - (lg_sl ([.ref (ga G k0), .int a1, .int a2])).length) Slot.unset).toArray = ls at hl ⊢
  have hl : lv_has ls 4 [(0, .ref (ga G k0)), (1, .int a1), (2, .int a2)] := hl
  unfold f_X10_taken at h
  refine lv_iload_n (pc := 0) hx hb dX10_taken_0 rfl (lv_at hl 1 rfl) ?_
  obtain ⟨r3, σ1, e2, h⟩ := bnd2 h
  refine cl_X10_361 X hP hS (As := [.int a1]) (rest := []) (c_X10_isShelf l G  e2) ⟨rfl, rfl, Nat.le_of_ble_eq_true rfl, Nat.le_of_ble_eq_true rfl⟩ rfl hl.1 rfl (Nat.le_of_ble_eq_true rfl) ⟨Nat.zero_le _, Nat.zero_le _⟩ (pc := 1) dX10_taken_1 (fun H locs hP hS => ?_)
  change W p l e _ s m _ below meth c H locs _ _ _ (F0 m (1 + 3) ls (.int r3 :: []))
  refine lv_if_eq (pc := 4) (tgt := 27) hx hb dX10_taken_4 (by decide) (fun c4 => ?_) (fun c4 => ?_)
  · have h := ipos c4 h
    refine lv_iconst (pc := 27) (v := (-1)) hx hb dX10_taken_27 (by decide) ?_
    obtain ⟨rfl, rfl⟩ := inj2 h
    exact r_iret X hP hS dX10_taken_28
  · have h := ineg c4 h
    refine lv_iload_n (pc := 7) hx hb dX10_taken_7 rfl (lv_at hl 2 rfl) ?_
    refine lv_iconst (pc := 8) (v := 0) hx hb dX10_taken_8 (by decide) ?_
    refine lv_iconst (pc := 9) (v := 5) hx hb dX10_taken_9 (by decide) ?_
    obtain ⟨r7, σ5, e6, h⟩ := bnd2 h
    refine cl_X10_120 X hP hS (As := [.int a2, .int (0 : Int32), .int (5 : Int32)]) (rest := []) (c_X10_in l G  e6) ⟨rfl, rfl, Nat.le_of_ble_eq_true rfl, Nat.le_of_ble_eq_true rfl⟩ rfl hl.1 rfl (Nat.le_of_ble_eq_true rfl) ⟨Nat.zero_le _, Nat.zero_le _⟩ (pc := 10) dX10_taken_10 (fun H locs hP hS => ?_)
    change W p l e _ s m _ below meth c H locs _ _ _ (F0 m (10 + 3) ls (.int r7 :: []))
    refine lv_if_ne (pc := 13) (tgt := 29) hx hb dX10_taken_13 (by decide) (fun c8 => ?_) (fun c8 => ?_)
    · have h := ineg c8 h
      exact w_X10_taken_29 X  hk0  _ _ _ _ _ _ hP hS (lv_sub hl [0, 1, 2] rfl) h
    · have h := ipos c8 h
      refine lv_iload_n (pc := 16) hx hb dX10_taken_16 rfl (lv_at hl 2 rfl) ?_
      refine lv_bipush (pc := 17) (v := (10)) hx hb dX10_taken_17 (by decide) ?_
      refine lv_bipush (pc := 19) (v := (13)) hx hb dX10_taken_19 (by decide) ?_
      obtain ⟨r28, σ26, e27, h⟩ := bnd2 h
      refine cl_X10_120 X hP hS (As := [.int a2, .int (10 : Int32), .int (13 : Int32)]) (rest := []) (c_X10_in l G  e27) ⟨rfl, rfl, Nat.le_of_ble_eq_true rfl, Nat.le_of_ble_eq_true rfl⟩ rfl hl.1 rfl (Nat.le_of_ble_eq_true rfl) ⟨Nat.zero_le _, Nat.zero_le _⟩ (pc := 21) dX10_taken_21 (fun H locs hP hS => ?_)
      change W p l e _ s m _ below meth c H locs _ _ _ (F0 m (21 + 3) ls (.int r28 :: []))
      refine lv_if_ne (pc := 24) (tgt := 29) hx hb dX10_taken_24 (by decide) (fun c29 => ?_) (fun c29 => ?_)
      · have h := ineg c29 h
        exact w_X10_taken_29 X  hk0  _ _ _ _ _ _ hP hS (lv_sub hl [0, 1, 2] rfl) h
      · have h := ipos c29 h
        refine lv_iconst (pc := 27) (v := (-1)) hx hb dX10_taken_27 (by decide) ?_
        obtain ⟨rfl, rfl⟩ := inj2 h
        exact r_iret X hP hS dX10_taken_28
def f_X10_ran (k0 : Nat) (a1 : Int32) (σ : Mem) : Option Mem :=
  if (30 : Int32) ≤ (gI σ k0 56) then
    some σ
  else
    bd1 (ixo (k0 + 30) (gI σ k0 56)) fun j2 =>
    bd1 (some (pI σ (k0 + 30) j2 a1)) fun σ4 =>
    bd1 (some (pI σ4 k0 56 ((gI σ4 k0 56) + (1 : Int32)))) fun σ6 =>
    some σ6
abbrev RM_X10_ran : Room := { frames := 0, cells := 0, slots := 0, locals := 0 }
set_option maxHeartbeats 4000000 in
set_option maxRecDepth 100000 in
theorem c_X10_ran (l : Launch) (G : Gh) {k0 : Nat} {a1 : Int32} {σ : Mem} {σr : Mem} (hk0 : kd k0 = 10) (h : f_X10_ran k0 a1 σ = some σr) : Met l yX10_ran [Cond.code yX10_ran prog_12_method_93_code 2 none] RM_X10_ran (va_Pc [.ref (ga G k0), .int a1] (Pre G σ)) (QG G none σr) 0 0 (AA G) := by
  refine ct_of (by decide) (fun p e s m below meth c X hP => ?_)
  have hx := X.hx
  have hb := X.hb
  have hS : va_S (AA G) s.heap s.heap [] := va_S.rf
  have hl := lv_entry ([.ref (ga G k0), .int a1]) (n := 2) (Nat.le_of_ble_eq_true rfl)
  rw [lg_entry_eq]
  generalize (lg_sl ([.ref (ga G k0), .int a1]) ++ List.replicate (2 - (lg_sl ([.ref (ga G k0), .int a1])).length) Slot.unset).toArray = ls at hl ⊢
  have hl : lv_has ls 2 [(0, .ref (ga G k0)), (1, .int a1)] := hl
  unfold f_X10_ran at h
  refine lv_aload_n (pc := 0) hx hb dX10_ran_0 rfl (lv_at hl 0 rfl) ?_
  refine gt_X10_378 X hP hk0 dX10_ran_1 ?_
  refine lv_bipush (pc := 4) (v := (30)) hx hb dX10_ran_4 (by decide) ?_
  refine lv_icmp_ge (pc := 6) (tgt := 29) hx hb dX10_ran_6 (by decide) (fun c1 => ?_) (fun c1 => ?_)
  · have h := ipos c1 h
    obtain rfl := Option.some.inj h
    exact r_vret X hP hS dX10_ran_29
  · have h := ineg c1 h
    refine lv_aload_n (pc := 9) hx hb dX10_ran_9 rfl (lv_at hl 0 rfl) ?_
    refine gt_X10_108 X hP hk0 dX10_ran_10 ?_
    refine lv_aload_n (pc := 13) hx hb dX10_ran_13 rfl (lv_at hl 0 rfl) ?_
    refine gt_X10_378 X hP hk0 dX10_ran_14 ?_
    refine lv_iload_n (pc := 17) hx hb dX10_ran_17 rfl (lv_at hl 1 rfl) ?_
    obtain ⟨j2, hj3, h⟩ := bnd1 h
    obtain ⟨σ4, e5, h⟩ := bnd1 h
    refine r_iast (pc := 18) X hP hS (kf_10_traced hk0).1 hj3 dX10_ran_18 (fun H locs hP hS => ?_)
    rw [Option.some.inj e5] at hP
    refine lv_aload_n (pc := 19) hx hb dX10_ran_19 rfl (lv_at hl 0 rfl) ?_
    refine lv_dup (pc := 20) hx hb dX10_ran_20 rfl ?_
    refine gt_X10_378 X hP hk0 dX10_ran_21 ?_
    refine lv_iconst (pc := 24) (v := 1) hx hb dX10_ran_24 (by decide) ?_
    refine lv_iadd (pc := 25) hx hb dX10_ran_25 ?_
    obtain ⟨σ6, e7, h⟩ := bnd1 h
    refine pt_X10_378 X hP hS hk0 dX10_ran_26 (fun H locs hP hS => ?_)
    rw [Option.some.inj e7] at hP
    obtain rfl := Option.some.inj h
    exact r_vret X hP hS dX10_ran_29
def f_X10_plainCalls (k0 : Nat) (a1 : Int32) (σ : Mem) : Option (Int32 × Mem) :=
  bd1 (f_X10_ran k0 (10 : Int32) σ) fun σ1 =>
  some ((a1 + (gI σ1 k0 53)), σ1)
abbrev RM_X10_plainCalls : Room := { frames := 1, cells := 0, slots := 0, locals := 21 }
set_option maxHeartbeats 4000000 in
set_option maxRecDepth 100000 in
theorem c_X10_plainCalls (l : Launch) (G : Gh) {k0 : Nat} {a1 : Int32} {σ : Mem} {rr : Int32} {σr : Mem} (hk0 : kd k0 = 10) (h : f_X10_plainCalls k0 a1 σ = some (rr, σr)) : Met l yX10_plainCalls [Cond.code yX10_plainCalls prog_12_method_94_code 2 (some .int)] RM_X10_plainCalls (va_Pc [.ref (ga G k0), .int a1] (Pre G σ)) (QG G (some (.int rr)) σr) 0 0 (AA G) := by
  refine ct_of (by decide) (fun p e s m below meth c X hP => ?_)
  have hx := X.hx
  have hb := X.hb
  have hS : va_S (AA G) s.heap s.heap [] := va_S.rf
  have hl := lv_entry ([.ref (ga G k0), .int a1]) (n := 2) (Nat.le_of_ble_eq_true rfl)
  rw [lg_entry_eq]
  generalize (lg_sl ([.ref (ga G k0), .int a1]) ++ List.replicate (2 - (lg_sl ([.ref (ga G k0), .int a1])).length) Slot.unset).toArray = ls at hl ⊢
  have hl : lv_has ls 2 [(0, .ref (ga G k0)), (1, .int a1)] := hl
  unfold f_X10_plainCalls at h
  refine lv_aload_n (pc := 0) hx hb dX10_plainCalls_0 rfl (lv_at hl 0 rfl) ?_
  refine lv_bipush (pc := 1) (v := (10)) hx hb dX10_plainCalls_1 (by decide) ?_
  obtain ⟨σ1, e2, h⟩ := bnd1 h
  refine cl_X10_381 X hP hS hk0 (As := [.int (10 : Int32)]) (rest := []) (c_X10_ran l G hk0 e2) ⟨rfl, rfl, Nat.le_of_ble_eq_true rfl, Nat.le_of_ble_eq_true rfl⟩ rfl hl.1 rfl (Nat.le_of_ble_eq_true rfl) ⟨Nat.zero_le _, Nat.zero_le _⟩ (pc := 3) dX10_plainCalls_3 (fun H locs hP hS => ?_)
  change W p l e _ s m _ below meth c H locs _ _ _ (F0 m (3 + 3) ls [])
  refine lv_iload_n (pc := 6) hx hb dX10_plainCalls_6 rfl (lv_at hl 1 rfl) ?_
  refine lv_aload_n (pc := 7) hx hb dX10_plainCalls_7 rfl (lv_at hl 0 rfl) ?_
  refine gt_X10_384 X hP hk0 dX10_plainCalls_8 ?_
  refine lv_iadd (pc := 11) hx hb dX10_plainCalls_11 ?_
  obtain ⟨rfl, rfl⟩ := inj2 h
  exact r_iret X hP hS dX10_plainCalls_12
def f_X10_leaperCalls (k0 : Nat) (a1 : Int32) (σ : Mem) : Option (Int32 × Mem) :=
  bd1 (f_X10_ran k0 (30 : Int32) σ) fun σ1 =>
  bd2 (f_X10_plainCalls k0 a1 σ1) fun r5 σ3 =>
  some ((r5 * (3 : Int32)), σ3)
abbrev RM_X10_leaperCalls : Room := { frames := 2, cells := 0, slots := 0, locals := 42 }
set_option maxHeartbeats 4000000 in
set_option maxRecDepth 100000 in
theorem c_X10_leaperCalls (l : Launch) (G : Gh) {k0 : Nat} {a1 : Int32} {σ : Mem} {rr : Int32} {σr : Mem} (hk0 : kd k0 = 10) (h : f_X10_leaperCalls k0 a1 σ = some (rr, σr)) : Met l yX10_leaperCalls [Cond.code yX10_leaperCalls prog_12_method_95_code 2 (some .int)] RM_X10_leaperCalls (va_Pc [.ref (ga G k0), .int a1] (Pre G σ)) (QG G (some (.int rr)) σr) 0 0 (AA G) := by
  refine ct_of (by decide) (fun p e s m below meth c X hP => ?_)
  have hx := X.hx
  have hb := X.hb
  have hS : va_S (AA G) s.heap s.heap [] := va_S.rf
  have hl := lv_entry ([.ref (ga G k0), .int a1]) (n := 2) (Nat.le_of_ble_eq_true rfl)
  rw [lg_entry_eq]
  generalize (lg_sl ([.ref (ga G k0), .int a1]) ++ List.replicate (2 - (lg_sl ([.ref (ga G k0), .int a1])).length) Slot.unset).toArray = ls at hl ⊢
  have hl : lv_has ls 2 [(0, .ref (ga G k0)), (1, .int a1)] := hl
  unfold f_X10_leaperCalls at h
  refine lv_aload_n (pc := 0) hx hb dX10_leaperCalls_0 rfl (lv_at hl 0 rfl) ?_
  refine lv_bipush (pc := 1) (v := (30)) hx hb dX10_leaperCalls_1 (by decide) ?_
  obtain ⟨σ1, e2, h⟩ := bnd1 h
  refine cl_X10_381 X hP hS hk0 (As := [.int (30 : Int32)]) (rest := []) (c_X10_ran l G hk0 e2) ⟨rfl, rfl, Nat.le_of_ble_eq_true rfl, Nat.le_of_ble_eq_true rfl⟩ rfl hl.1 rfl (Nat.le_of_ble_eq_true rfl) ⟨Nat.zero_le _, Nat.zero_le _⟩ (pc := 3) dX10_leaperCalls_3 (fun H locs hP hS => ?_)
  change W p l e _ s m _ below meth c H locs _ _ _ (F0 m (3 + 3) ls [])
  refine lv_aload_n (pc := 6) hx hb dX10_leaperCalls_6 rfl (lv_at hl 0 rfl) ?_
  refine lv_iload_n (pc := 7) hx hb dX10_leaperCalls_7 rfl (lv_at hl 1 rfl) ?_
  obtain ⟨r5, σ3, e4, h⟩ := bnd2 h
  refine cl_X10_387 X hP hS hk0 (As := [.int a1]) (rest := []) (c_X10_plainCalls l G hk0 e4) ⟨rfl, rfl, Nat.le_of_ble_eq_true rfl, Nat.le_of_ble_eq_true rfl⟩ rfl hl.1 rfl (Nat.le_of_ble_eq_true rfl) ⟨Nat.zero_le _, Nat.zero_le _⟩ (pc := 8) dX10_leaperCalls_8 (fun H locs hP hS => ?_)
  change W p l e _ s m _ below meth c H locs _ _ _ (F0 m (8 + 3) ls (.int r5 :: []))
  refine lv_iconst (pc := 11) (v := 3) hx hb dX10_leaperCalls_11 (by decide) ?_
  refine lv_imul (pc := 12) hx hb dX10_leaperCalls_12 ?_
  obtain ⟨rfl, rfl⟩ := inj2 h
  exact r_iret X hP hS dX10_leaperCalls_13
def f_X10_callsIt (k0 : Nat) (a1 : Int32) (σ : Mem) : Option (Int32 × Mem) :=
  if (gI σ k0 52) = (2 : Int32) then
    bd2 (f_X10_leaperCalls k0 a1 σ) fun r4 σ2 =>
    some (r4, σ2)
  else
  if (gI σ k0 52) = (3 : Int32) then
    bd1 (f_X10_ran k0 (51 : Int32) σ) fun σ6 =>
    bd2 (f_X10_plainCalls k0 a1 σ6) fun r10 σ8 =>
    some ((r10 - (gI σ8 k0 53)), σ8)
  else
  if (gI σ k0 52) = (4 : Int32) then
    bd1 (f_X10_ran k0 (40 : Int32) σ) fun σ12 =>
    bd2 (f_X10_leaperCalls k0 a1 σ12) fun r16 σ14 =>
    some (((0 : Int32) - r16), σ14)
  else
  bd2 (f_X10_plainCalls k0 a1 σ) fun r19 σ17 =>
  some (r19, σ17)
abbrev RM_X10_callsIt : Room := { frames := 3, cells := 0, slots := 0, locals := 63 }
set_option maxHeartbeats 4000000 in
set_option maxRecDepth 100000 in
theorem c_X10_callsIt (l : Launch) (G : Gh) {k0 : Nat} {a1 : Int32} {σ : Mem} {rr : Int32} {σr : Mem} (hk0 : kd k0 = 10) (h : f_X10_callsIt k0 a1 σ = some (rr, σr)) : Met l yX10_callsIt [Cond.code yX10_callsIt prog_12_method_96_code 2 (some .int)] RM_X10_callsIt (va_Pc [.ref (ga G k0), .int a1] (Pre G σ)) (QG G (some (.int rr)) σr) 0 0 (AA G) := by
  refine ct_of (by decide) (fun p e s m below meth c X hP => ?_)
  have hx := X.hx
  have hb := X.hb
  have hS : va_S (AA G) s.heap s.heap [] := va_S.rf
  have hl := lv_entry ([.ref (ga G k0), .int a1]) (n := 2) (Nat.le_of_ble_eq_true rfl)
  rw [lg_entry_eq]
  generalize (lg_sl ([.ref (ga G k0), .int a1]) ++ List.replicate (2 - (lg_sl ([.ref (ga G k0), .int a1])).length) Slot.unset).toArray = ls at hl ⊢
  have hl : lv_has ls 2 [(0, .ref (ga G k0)), (1, .int a1)] := hl
  unfold f_X10_callsIt at h
  refine lv_aload_n (pc := 0) hx hb dX10_callsIt_0 rfl (lv_at hl 0 rfl) ?_
  refine gt_X10_390 X hP hk0 dX10_callsIt_1 ?_
  by_cases c1 : (gI σ k0 52) = (2 : Int32)
  · have h := ipos c1 h
    refine r_tabIn X (pc := 4) (tgt := 32) c1 dX10_callsIt_4 (by decide) (by decide) rfl (by decide) ?_
    refine lv_aload_n (pc := 32) hx hb dX10_callsIt_32 rfl (lv_at hl 0 rfl) ?_
    refine lv_iload_n (pc := 33) hx hb dX10_callsIt_33 rfl (lv_at hl 1 rfl) ?_
    obtain ⟨r4, σ2, e3, h⟩ := bnd2 h
    refine cl_X10_393 X hP hS hk0 (As := [.int a1]) (rest := []) (c_X10_leaperCalls l G hk0 e3) ⟨rfl, rfl, Nat.le_of_ble_eq_true rfl, Nat.le_of_ble_eq_true rfl⟩ rfl hl.1 rfl (Nat.le_of_ble_eq_true rfl) ⟨Nat.zero_le _, Nat.zero_le _⟩ (pc := 34) dX10_callsIt_34 (fun H locs hP hS => ?_)
    change W p l e _ s m _ below meth c H locs _ _ _ (F0 m (34 + 3) ls (.int r4 :: []))
    obtain ⟨rfl, rfl⟩ := inj2 h
    exact r_iret X hP hS dX10_callsIt_37
  have h := ineg c1 h
  by_cases c5 : (gI σ k0 52) = (3 : Int32)
  · have h := ipos c5 h
    refine r_tabIn X (pc := 4) (tgt := 52) c5 dX10_callsIt_4 (by decide) (by decide) rfl (by decide) ?_
    refine lv_aload_n (pc := 52) hx hb dX10_callsIt_52 rfl (lv_at hl 0 rfl) ?_
    refine lv_bipush (pc := 53) (v := (51)) hx hb dX10_callsIt_53 (by decide) ?_
    obtain ⟨σ6, e7, h⟩ := bnd1 h
    refine cl_X10_381 X hP hS hk0 (As := [.int (51 : Int32)]) (rest := []) (c_X10_ran l G hk0 e7) ⟨rfl, rfl, Nat.le_of_ble_eq_true rfl, Nat.le_of_ble_eq_true rfl⟩ rfl hl.1 rfl (Nat.le_of_ble_eq_true rfl) ⟨Nat.zero_le _, Nat.zero_le _⟩ (pc := 55) dX10_callsIt_55 (fun H locs hP hS => ?_)
    change W p l e _ s m _ below meth c H locs _ _ _ (F0 m (55 + 3) ls [])
    refine lv_aload_n (pc := 58) hx hb dX10_callsIt_58 rfl (lv_at hl 0 rfl) ?_
    refine lv_iload_n (pc := 59) hx hb dX10_callsIt_59 rfl (lv_at hl 1 rfl) ?_
    obtain ⟨r10, σ8, e9, h⟩ := bnd2 h
    refine cl_X10_387 X hP hS hk0 (As := [.int a1]) (rest := []) (c_X10_plainCalls l G hk0 e9) ⟨rfl, rfl, Nat.le_of_ble_eq_true rfl, Nat.le_of_ble_eq_true rfl⟩ rfl hl.1 rfl (Nat.le_of_ble_eq_true rfl) ⟨Nat.zero_le _, Nat.zero_le _⟩ (pc := 60) dX10_callsIt_60 (fun H locs hP hS => ?_)
    change W p l e _ s m _ below meth c H locs _ _ _ (F0 m (60 + 3) ls (.int r10 :: []))
    refine lv_aload_n (pc := 63) hx hb dX10_callsIt_63 rfl (lv_at hl 0 rfl) ?_
    refine gt_X10_384 X hP hk0 dX10_callsIt_64 ?_
    refine lv_isub (pc := 67) hx hb dX10_callsIt_67 ?_
    obtain ⟨rfl, rfl⟩ := inj2 h
    exact r_iret X hP hS dX10_callsIt_68
  have h := ineg c5 h
  by_cases c11 : (gI σ k0 52) = (4 : Int32)
  · have h := ipos c11 h
    refine r_tabIn X (pc := 4) (tgt := 38) c11 dX10_callsIt_4 (by decide) (by decide) rfl (by decide) ?_
    refine lv_aload_n (pc := 38) hx hb dX10_callsIt_38 rfl (lv_at hl 0 rfl) ?_
    refine lv_bipush (pc := 39) (v := (40)) hx hb dX10_callsIt_39 (by decide) ?_
    obtain ⟨σ12, e13, h⟩ := bnd1 h
    refine cl_X10_381 X hP hS hk0 (As := [.int (40 : Int32)]) (rest := []) (c_X10_ran l G hk0 e13) ⟨rfl, rfl, Nat.le_of_ble_eq_true rfl, Nat.le_of_ble_eq_true rfl⟩ rfl hl.1 rfl (Nat.le_of_ble_eq_true rfl) ⟨Nat.zero_le _, Nat.zero_le _⟩ (pc := 41) dX10_callsIt_41 (fun H locs hP hS => ?_)
    change W p l e _ s m _ below meth c H locs _ _ _ (F0 m (41 + 3) ls [])
    refine lv_iconst (pc := 44) (v := 0) hx hb dX10_callsIt_44 (by decide) ?_
    refine lv_aload_n (pc := 45) hx hb dX10_callsIt_45 rfl (lv_at hl 0 rfl) ?_
    refine lv_iload_n (pc := 46) hx hb dX10_callsIt_46 rfl (lv_at hl 1 rfl) ?_
    obtain ⟨r16, σ14, e15, h⟩ := bnd2 h
    refine cl_X10_393 X hP hS hk0 (As := [.int a1]) (rest := [.int (0 : Int32)]) (c_X10_leaperCalls l G hk0 e15) ⟨rfl, rfl, Nat.le_of_ble_eq_true rfl, Nat.le_of_ble_eq_true rfl⟩ rfl hl.1 rfl (Nat.le_of_ble_eq_true rfl) ⟨Nat.zero_le _, Nat.zero_le _⟩ (pc := 47) dX10_callsIt_47 (fun H locs hP hS => ?_)
    change W p l e _ s m _ below meth c H locs _ _ _ (F0 m (47 + 3) ls (.int r16 :: [.int (0 : Int32)]))
    refine lv_isub (pc := 50) hx hb dX10_callsIt_50 ?_
    obtain ⟨rfl, rfl⟩ := inj2 h
    exact r_iret X hP hS dX10_callsIt_51
  have h := ineg c11 h
  refine lv_tableOut (pc := 4) (tgt := 69) hx hb dX10_callsIt_4 (by have := lv_neT c1 (a := 2) (by decide); have := lv_neT c5 (a := 3) (by decide); have := lv_neT c11 (a := 4) (by decide); omega) (by decide) ?_
  refine lv_aload_n (pc := 69) hx hb dX10_callsIt_69 rfl (lv_at hl 0 rfl) ?_
  refine lv_iload_n (pc := 70) hx hb dX10_callsIt_70 rfl (lv_at hl 1 rfl) ?_
  obtain ⟨r19, σ17, e18, h⟩ := bnd2 h
  refine cl_X10_387 X hP hS hk0 (As := [.int a1]) (rest := []) (c_X10_plainCalls l G hk0 e18) ⟨rfl, rfl, Nat.le_of_ble_eq_true rfl, Nat.le_of_ble_eq_true rfl⟩ rfl hl.1 rfl (Nat.le_of_ble_eq_true rfl) ⟨Nat.zero_le _, Nat.zero_le _⟩ (pc := 71) dX10_callsIt_71 (fun H locs hP hS => ?_)
  change W p l e _ s m _ below meth c H locs _ _ _ (F0 m (71 + 3) ls (.int r19 :: []))
  obtain ⟨rfl, rfl⟩ := inj2 h
  exact r_iret X hP hS dX10_callsIt_74
def f_X10_plainHears (k0 : Nat) (a1 : Int32) (σ : Mem) : Option (Int32 × Mem) :=
  bd1 (f_X10_ran k0 (11 : Int32) σ) fun σ1 =>
  bd2 (f_X10_callsIt k0 a1 σ1) fun r5 σ3 =>
  some ((r5 * (2 : Int32)), σ3)
abbrev RM_X10_plainHears : Room := { frames := 4, cells := 0, slots := 0, locals := 84 }
set_option maxHeartbeats 4000000 in
set_option maxRecDepth 100000 in
theorem c_X10_plainHears (l : Launch) (G : Gh) {k0 : Nat} {a1 : Int32} {σ : Mem} {rr : Int32} {σr : Mem} (hk0 : kd k0 = 10) (h : f_X10_plainHears k0 a1 σ = some (rr, σr)) : Met l yX10_plainHears [Cond.code yX10_plainHears prog_12_method_97_code 2 (some .int)] RM_X10_plainHears (va_Pc [.ref (ga G k0), .int a1] (Pre G σ)) (QG G (some (.int rr)) σr) 0 0 (AA G) := by
  refine ct_of (by decide) (fun p e s m below meth c X hP => ?_)
  have hx := X.hx
  have hb := X.hb
  have hS : va_S (AA G) s.heap s.heap [] := va_S.rf
  have hl := lv_entry ([.ref (ga G k0), .int a1]) (n := 2) (Nat.le_of_ble_eq_true rfl)
  rw [lg_entry_eq]
  generalize (lg_sl ([.ref (ga G k0), .int a1]) ++ List.replicate (2 - (lg_sl ([.ref (ga G k0), .int a1])).length) Slot.unset).toArray = ls at hl ⊢
  have hl : lv_has ls 2 [(0, .ref (ga G k0)), (1, .int a1)] := hl
  unfold f_X10_plainHears at h
  refine lv_aload_n (pc := 0) hx hb dX10_plainHears_0 rfl (lv_at hl 0 rfl) ?_
  refine lv_bipush (pc := 1) (v := (11)) hx hb dX10_plainHears_1 (by decide) ?_
  obtain ⟨σ1, e2, h⟩ := bnd1 h
  refine cl_X10_381 X hP hS hk0 (As := [.int (11 : Int32)]) (rest := []) (c_X10_ran l G hk0 e2) ⟨rfl, rfl, Nat.le_of_ble_eq_true rfl, Nat.le_of_ble_eq_true rfl⟩ rfl hl.1 rfl (Nat.le_of_ble_eq_true rfl) ⟨Nat.zero_le _, Nat.zero_le _⟩ (pc := 3) dX10_plainHears_3 (fun H locs hP hS => ?_)
  change W p l e _ s m _ below meth c H locs _ _ _ (F0 m (3 + 3) ls [])
  refine lv_aload_n (pc := 6) hx hb dX10_plainHears_6 rfl (lv_at hl 0 rfl) ?_
  refine lv_iload_n (pc := 7) hx hb dX10_plainHears_7 rfl (lv_at hl 1 rfl) ?_
  obtain ⟨r5, σ3, e4, h⟩ := bnd2 h
  refine cl_X10_396 X hP hS hk0 (As := [.int a1]) (rest := []) (c_X10_callsIt l G hk0 e4) ⟨rfl, rfl, Nat.le_of_ble_eq_true rfl, Nat.le_of_ble_eq_true rfl⟩ rfl hl.1 rfl (Nat.le_of_ble_eq_true rfl) ⟨Nat.zero_le _, Nat.zero_le _⟩ (pc := 8) dX10_plainHears_8 (fun H locs hP hS => ?_)
  change W p l e _ s m _ below meth c H locs _ _ _ (F0 m (8 + 3) ls (.int r5 :: []))
  refine lv_iconst (pc := 11) (v := 2) hx hb dX10_plainHears_11 (by decide) ?_
  refine lv_imul (pc := 12) hx hb dX10_plainHears_12 ?_
  obtain ⟨rfl, rfl⟩ := inj2 h
  exact r_iret X hP hS dX10_plainHears_13
def f_X10_hearsIt (k0 : Nat) (a1 : Int32) (σ : Mem) : Option (Int32 × Mem) :=
  if (gI σ k0 52) = (1 : Int32) then
    bd1 (f_X10_ran k0 (20 : Int32) σ) fun σ2 =>
    bd2 (f_X10_plainHears k0 a1 σ2) fun r6 σ4 =>
    some ((r6 - (gI σ4 k0 54)), σ4)
  else
    if (gI σ k0 52) = (3 : Int32) then
      bd1 (f_X10_ran k0 (20 : Int32) σ) fun σ8 =>
      bd2 (f_X10_plainHears k0 a1 σ8) fun r12 σ10 =>
      some ((r12 - (gI σ10 k0 54)), σ10)
    else
      if (gI σ k0 52) = (5 : Int32) then
        bd1 (f_X10_ran k0 (20 : Int32) σ) fun σ26 =>
        bd2 (f_X10_plainHears k0 a1 σ26) fun r30 σ28 =>
        some ((r30 - (gI σ28 k0 54)), σ28)
      else
        if (gI σ k0 52) = (4 : Int32) then
          bd1 (f_X10_ran k0 (41 : Int32) σ) fun σ18 =>
          bd2 (f_X10_plainHears k0 a1 σ18) fun r22 σ20 =>
          bd2 (f_X10_callsIt k0 (gI σ20 k0 53) σ20) fun r25 σ23 =>
          some ((r22 + r25), σ23)
        else
          bd2 (f_X10_plainHears k0 a1 σ) fun r17 σ15 =>
          some (r17, σ15)
abbrev RM_X10_hearsIt : Room := { frames := 5, cells := 0, slots := 0, locals := 105 }
set_option maxHeartbeats 4000000 in
set_option maxRecDepth 100000 in
theorem c_X10_hearsIt (l : Launch) (G : Gh) {k0 : Nat} {a1 : Int32} {σ : Mem} {rr : Int32} {σr : Mem} (hk0 : kd k0 = 10) (h : f_X10_hearsIt k0 a1 σ = some (rr, σr)) : Met l yX10_hearsIt [Cond.code yX10_hearsIt prog_12_method_98_code 3 (some .int)] RM_X10_hearsIt (va_Pc [.ref (ga G k0), .int a1] (Pre G σ)) (QG G (some (.int rr)) σr) 0 0 (AA G) := by
  refine ct_of (by decide) (fun p e s m below meth c X hP => ?_)
  have hx := X.hx
  have hb := X.hb
  have hS : va_S (AA G) s.heap s.heap [] := va_S.rf
  have hl := lv_entry ([.ref (ga G k0), .int a1]) (n := 3) (Nat.le_of_ble_eq_true rfl)
  rw [lg_entry_eq]
  generalize (lg_sl ([.ref (ga G k0), .int a1]) ++ List.replicate (3 - (lg_sl ([.ref (ga G k0), .int a1])).length) Slot.unset).toArray = ls at hl ⊢
  have hl : lv_has ls 3 [(0, .ref (ga G k0)), (1, .int a1)] := hl
  unfold f_X10_hearsIt at h
  refine lv_aload_n (pc := 0) hx hb dX10_hearsIt_0 rfl (lv_at hl 0 rfl) ?_
  refine gt_X10_390 X hP hk0 dX10_hearsIt_1 ?_
  refine lv_iconst (pc := 4) (v := 1) hx hb dX10_hearsIt_4 (by decide) ?_
  refine lv_icmp_eq (pc := 5) (tgt := 24) hx hb dX10_hearsIt_5 (by decide) (fun c1 => ?_) (fun c1 => ?_)
  · have h := ipos c1 h
    refine lv_aload_n (pc := 24) hx hb dX10_hearsIt_24 rfl (lv_at hl 0 rfl) ?_
    refine lv_bipush (pc := 25) (v := (20)) hx hb dX10_hearsIt_25 (by decide) ?_
    obtain ⟨σ2, e3, h⟩ := bnd1 h
    refine cl_X10_381 X hP hS hk0 (As := [.int (20 : Int32)]) (rest := []) (c_X10_ran l G hk0 e3) ⟨rfl, rfl, Nat.le_of_ble_eq_true rfl, Nat.le_of_ble_eq_true rfl⟩ rfl hl.1 rfl (Nat.le_of_ble_eq_true rfl) ⟨Nat.zero_le _, Nat.zero_le _⟩ (pc := 27) dX10_hearsIt_27 (fun H locs hP hS => ?_)
    change W p l e _ s m _ below meth c H locs _ _ _ (F0 m (27 + 3) ls [])
    refine lv_aload_n (pc := 30) hx hb dX10_hearsIt_30 rfl (lv_at hl 0 rfl) ?_
    refine lv_iload_n (pc := 31) hx hb dX10_hearsIt_31 rfl (lv_at hl 1 rfl) ?_
    obtain ⟨r6, σ4, e5, h⟩ := bnd2 h
    refine cl_X10_399 X hP hS hk0 (As := [.int a1]) (rest := []) (c_X10_plainHears l G hk0 e5) ⟨rfl, rfl, Nat.le_of_ble_eq_true rfl, Nat.le_of_ble_eq_true rfl⟩ rfl hl.1 rfl (Nat.le_of_ble_eq_true rfl) ⟨Nat.zero_le _, Nat.zero_le _⟩ (pc := 32) dX10_hearsIt_32 (fun H locs hP hS => ?_)
    change W p l e _ s m _ below meth c H locs _ _ _ (F0 m (32 + 3) ls (.int r6 :: []))
    refine lv_aload_n (pc := 35) hx hb dX10_hearsIt_35 rfl (lv_at hl 0 rfl) ?_
    refine gt_X10_402 X hP hk0 dX10_hearsIt_36 ?_
    refine lv_isub (pc := 39) hx hb dX10_hearsIt_39 ?_
    obtain ⟨rfl, rfl⟩ := inj2 h
    exact r_iret X hP hS dX10_hearsIt_40
  · have h := ineg c1 h
    refine lv_aload_n (pc := 8) hx hb dX10_hearsIt_8 rfl (lv_at hl 0 rfl) ?_
    refine gt_X10_390 X hP hk0 dX10_hearsIt_9 ?_
    refine lv_iconst (pc := 12) (v := 3) hx hb dX10_hearsIt_12 (by decide) ?_
    refine lv_icmp_eq (pc := 13) (tgt := 24) hx hb dX10_hearsIt_13 (by decide) (fun c7 => ?_) (fun c7 => ?_)
    · have h := ipos c7 h
      refine lv_aload_n (pc := 24) hx hb dX10_hearsIt_24 rfl (lv_at hl 0 rfl) ?_
      refine lv_bipush (pc := 25) (v := (20)) hx hb dX10_hearsIt_25 (by decide) ?_
      obtain ⟨σ8, e9, h⟩ := bnd1 h
      refine cl_X10_381 X hP hS hk0 (As := [.int (20 : Int32)]) (rest := []) (c_X10_ran l G hk0 e9) ⟨rfl, rfl, Nat.le_of_ble_eq_true rfl, Nat.le_of_ble_eq_true rfl⟩ rfl hl.1 rfl (Nat.le_of_ble_eq_true rfl) ⟨Nat.zero_le _, Nat.zero_le _⟩ (pc := 27) dX10_hearsIt_27 (fun H locs hP hS => ?_)
      change W p l e _ s m _ below meth c H locs _ _ _ (F0 m (27 + 3) ls [])
      refine lv_aload_n (pc := 30) hx hb dX10_hearsIt_30 rfl (lv_at hl 0 rfl) ?_
      refine lv_iload_n (pc := 31) hx hb dX10_hearsIt_31 rfl (lv_at hl 1 rfl) ?_
      obtain ⟨r12, σ10, e11, h⟩ := bnd2 h
      refine cl_X10_399 X hP hS hk0 (As := [.int a1]) (rest := []) (c_X10_plainHears l G hk0 e11) ⟨rfl, rfl, Nat.le_of_ble_eq_true rfl, Nat.le_of_ble_eq_true rfl⟩ rfl hl.1 rfl (Nat.le_of_ble_eq_true rfl) ⟨Nat.zero_le _, Nat.zero_le _⟩ (pc := 32) dX10_hearsIt_32 (fun H locs hP hS => ?_)
      change W p l e _ s m _ below meth c H locs _ _ _ (F0 m (32 + 3) ls (.int r12 :: []))
      refine lv_aload_n (pc := 35) hx hb dX10_hearsIt_35 rfl (lv_at hl 0 rfl) ?_
      refine gt_X10_402 X hP hk0 dX10_hearsIt_36 ?_
      refine lv_isub (pc := 39) hx hb dX10_hearsIt_39 ?_
      obtain ⟨rfl, rfl⟩ := inj2 h
      exact r_iret X hP hS dX10_hearsIt_40
    · have h := ineg c7 h
      refine lv_aload_n (pc := 16) hx hb dX10_hearsIt_16 rfl (lv_at hl 0 rfl) ?_
      refine gt_X10_390 X hP hk0 dX10_hearsIt_17 ?_
      refine lv_iconst (pc := 20) (v := 5) hx hb dX10_hearsIt_20 (by decide) ?_
      refine lv_icmp_ne (pc := 21) (tgt := 41) hx hb dX10_hearsIt_21 (by decide) (fun c13 => ?_) (fun c13 => ?_)
      · have h := ineg c13 h
        refine lv_aload_n (pc := 41) hx hb dX10_hearsIt_41 rfl (lv_at hl 0 rfl) ?_
        refine gt_X10_390 X hP hk0 dX10_hearsIt_42 ?_
        refine lv_iconst (pc := 45) (v := 4) hx hb dX10_hearsIt_45 (by decide) ?_
        refine lv_icmp_ne (pc := 46) (tgt := 72) hx hb dX10_hearsIt_46 (by decide) (fun c14 => ?_) (fun c14 => ?_)
        · have h := ineg c14 h
          refine lv_aload_n (pc := 72) hx hb dX10_hearsIt_72 rfl (lv_at hl 0 rfl) ?_
          refine lv_iload_n (pc := 73) hx hb dX10_hearsIt_73 rfl (lv_at hl 1 rfl) ?_
          obtain ⟨r17, σ15, e16, h⟩ := bnd2 h
          refine cl_X10_399 X hP hS hk0 (As := [.int a1]) (rest := []) (c_X10_plainHears l G hk0 e16) ⟨rfl, rfl, Nat.le_of_ble_eq_true rfl, Nat.le_of_ble_eq_true rfl⟩ rfl hl.1 rfl (Nat.le_of_ble_eq_true rfl) ⟨Nat.zero_le _, Nat.zero_le _⟩ (pc := 74) dX10_hearsIt_74 (fun H locs hP hS => ?_)
          change W p l e _ s m _ below meth c H locs _ _ _ (F0 m (74 + 3) ls (.int r17 :: []))
          obtain ⟨rfl, rfl⟩ := inj2 h
          exact r_iret X hP hS dX10_hearsIt_77
        · have h := ipos c14 h
          refine lv_aload_n (pc := 49) hx hb dX10_hearsIt_49 rfl (lv_at hl 0 rfl) ?_
          refine lv_bipush (pc := 50) (v := (41)) hx hb dX10_hearsIt_50 (by decide) ?_
          obtain ⟨σ18, e19, h⟩ := bnd1 h
          refine cl_X10_381 X hP hS hk0 (As := [.int (41 : Int32)]) (rest := []) (c_X10_ran l G hk0 e19) ⟨rfl, rfl, Nat.le_of_ble_eq_true rfl, Nat.le_of_ble_eq_true rfl⟩ rfl hl.1 rfl (Nat.le_of_ble_eq_true rfl) ⟨Nat.zero_le _, Nat.zero_le _⟩ (pc := 52) dX10_hearsIt_52 (fun H locs hP hS => ?_)
          change W p l e _ s m _ below meth c H locs _ _ _ (F0 m (52 + 3) ls [])
          refine lv_aload_n (pc := 55) hx hb dX10_hearsIt_55 rfl (lv_at hl 0 rfl) ?_
          refine lv_iload_n (pc := 56) hx hb dX10_hearsIt_56 rfl (lv_at hl 1 rfl) ?_
          obtain ⟨r22, σ20, e21, h⟩ := bnd2 h
          refine cl_X10_399 X hP hS hk0 (As := [.int a1]) (rest := []) (c_X10_plainHears l G hk0 e21) ⟨rfl, rfl, Nat.le_of_ble_eq_true rfl, Nat.le_of_ble_eq_true rfl⟩ rfl hl.1 rfl (Nat.le_of_ble_eq_true rfl) ⟨Nat.zero_le _, Nat.zero_le _⟩ (pc := 57) dX10_hearsIt_57 (fun H locs hP hS => ?_)
          change W p l e _ s m _ below meth c H locs _ _ _ (F0 m (57 + 3) ls (.int r22 :: []))
          refine lv_istore_n (pc := 60) (lv' := [(2, .int r22), (0, .ref (ga G k0)), (1, .int a1)]) hx hb dX10_hearsIt_60 rfl hl (by decide) rfl (fun ls hl => ?_)
          refine lv_iload_n (pc := 61) hx hb dX10_hearsIt_61 rfl (lv_at hl 0 rfl) ?_
          refine lv_aload_n (pc := 62) hx hb dX10_hearsIt_62 rfl (lv_at hl 1 rfl) ?_
          refine lv_aload_n (pc := 63) hx hb dX10_hearsIt_63 rfl (lv_at hl 1 rfl) ?_
          refine gt_X10_384 X hP hk0 dX10_hearsIt_64 ?_
          obtain ⟨r25, σ23, e24, h⟩ := bnd2 h
          refine cl_X10_396 X hP hS hk0 (As := [.int (gI σ20 k0 53)]) (rest := [.int r22]) (c_X10_callsIt l G hk0 e24) ⟨rfl, rfl, Nat.le_of_ble_eq_true rfl, Nat.le_of_ble_eq_true rfl⟩ rfl hl.1 rfl (Nat.le_of_ble_eq_true rfl) ⟨Nat.zero_le _, Nat.zero_le _⟩ (pc := 67) dX10_hearsIt_67 (fun H locs hP hS => ?_)
          change W p l e _ s m _ below meth c H locs _ _ _ (F0 m (67 + 3) ls (.int r25 :: [.int r22]))
          refine lv_iadd (pc := 70) hx hb dX10_hearsIt_70 ?_
          obtain ⟨rfl, rfl⟩ := inj2 h
          exact r_iret X hP hS dX10_hearsIt_71
      · have h := ipos c13 h
        refine lv_aload_n (pc := 24) hx hb dX10_hearsIt_24 rfl (lv_at hl 0 rfl) ?_
        refine lv_bipush (pc := 25) (v := (20)) hx hb dX10_hearsIt_25 (by decide) ?_
        obtain ⟨σ26, e27, h⟩ := bnd1 h
        refine cl_X10_381 X hP hS hk0 (As := [.int (20 : Int32)]) (rest := []) (c_X10_ran l G hk0 e27) ⟨rfl, rfl, Nat.le_of_ble_eq_true rfl, Nat.le_of_ble_eq_true rfl⟩ rfl hl.1 rfl (Nat.le_of_ble_eq_true rfl) ⟨Nat.zero_le _, Nat.zero_le _⟩ (pc := 27) dX10_hearsIt_27 (fun H locs hP hS => ?_)
        change W p l e _ s m _ below meth c H locs _ _ _ (F0 m (27 + 3) ls [])
        refine lv_aload_n (pc := 30) hx hb dX10_hearsIt_30 rfl (lv_at hl 0 rfl) ?_
        refine lv_iload_n (pc := 31) hx hb dX10_hearsIt_31 rfl (lv_at hl 1 rfl) ?_
        obtain ⟨r30, σ28, e29, h⟩ := bnd2 h
        refine cl_X10_399 X hP hS hk0 (As := [.int a1]) (rest := []) (c_X10_plainHears l G hk0 e29) ⟨rfl, rfl, Nat.le_of_ble_eq_true rfl, Nat.le_of_ble_eq_true rfl⟩ rfl hl.1 rfl (Nat.le_of_ble_eq_true rfl) ⟨Nat.zero_le _, Nat.zero_le _⟩ (pc := 32) dX10_hearsIt_32 (fun H locs hP hS => ?_)
        change W p l e _ s m _ below meth c H locs _ _ _ (F0 m (32 + 3) ls (.int r30 :: []))
        refine lv_aload_n (pc := 35) hx hb dX10_hearsIt_35 rfl (lv_at hl 0 rfl) ?_
        refine gt_X10_402 X hP hk0 dX10_hearsIt_36 ?_
        refine lv_isub (pc := 39) hx hb dX10_hearsIt_39 ?_
        obtain ⟨rfl, rfl⟩ := inj2 h
        exact r_iret X hP hS dX10_hearsIt_40
def f_X10_plainShares (k0 : Nat) (a1 : Int32) (σ : Mem) : Option (Int32 × Mem) :=
  bd1 (f_X10_ran k0 (12 : Int32) σ) fun σ1 =>
  if (gI σ1 k0 54) = (gI σ1 k0 53) then
    bd1 (some (pI σ1 k0 57 (1 : Int32))) fun σ5 =>
    some ((0 : Int32), σ5)
  else
    grd (¬ ((gI σ1 k0 54) - (gI σ1 k0 53)) = 0) <|
    some ((a1 / ((gI σ1 k0 54) - (gI σ1 k0 53))), σ1)
abbrev RM_X10_plainShares : Room := { frames := 1, cells := 0, slots := 0, locals := 21 }
set_option maxHeartbeats 4000000 in
set_option maxRecDepth 100000 in
theorem c_X10_plainShares (l : Launch) (G : Gh) {k0 : Nat} {a1 : Int32} {σ : Mem} {rr : Int32} {σr : Mem} (hk0 : kd k0 = 10) (h : f_X10_plainShares k0 a1 σ = some (rr, σr)) : Met l yX10_plainShares [Cond.code yX10_plainShares prog_12_method_99_code 2 (some .int)] RM_X10_plainShares (va_Pc [.ref (ga G k0), .int a1] (Pre G σ)) (QG G (some (.int rr)) σr) 0 0 (AA G) := by
  refine ct_of (by decide) (fun p e s m below meth c X hP => ?_)
  have hx := X.hx
  have hb := X.hb
  have hS : va_S (AA G) s.heap s.heap [] := va_S.rf
  have hl := lv_entry ([.ref (ga G k0), .int a1]) (n := 2) (Nat.le_of_ble_eq_true rfl)
  rw [lg_entry_eq]
  generalize (lg_sl ([.ref (ga G k0), .int a1]) ++ List.replicate (2 - (lg_sl ([.ref (ga G k0), .int a1])).length) Slot.unset).toArray = ls at hl ⊢
  have hl : lv_has ls 2 [(0, .ref (ga G k0)), (1, .int a1)] := hl
  unfold f_X10_plainShares at h
  refine lv_aload_n (pc := 0) hx hb dX10_plainShares_0 rfl (lv_at hl 0 rfl) ?_
  refine lv_bipush (pc := 1) (v := (12)) hx hb dX10_plainShares_1 (by decide) ?_
  obtain ⟨σ1, e2, h⟩ := bnd1 h
  refine cl_X10_381 X hP hS hk0 (As := [.int (12 : Int32)]) (rest := []) (c_X10_ran l G hk0 e2) ⟨rfl, rfl, Nat.le_of_ble_eq_true rfl, Nat.le_of_ble_eq_true rfl⟩ rfl hl.1 rfl (Nat.le_of_ble_eq_true rfl) ⟨Nat.zero_le _, Nat.zero_le _⟩ (pc := 3) dX10_plainShares_3 (fun H locs hP hS => ?_)
  change W p l e _ s m _ below meth c H locs _ _ _ (F0 m (3 + 3) ls [])
  refine lv_aload_n (pc := 6) hx hb dX10_plainShares_6 rfl (lv_at hl 0 rfl) ?_
  refine gt_X10_402 X hP hk0 dX10_plainShares_7 ?_
  refine lv_aload_n (pc := 10) hx hb dX10_plainShares_10 rfl (lv_at hl 0 rfl) ?_
  refine gt_X10_384 X hP hk0 dX10_plainShares_11 ?_
  refine lv_icmp_ne (pc := 14) (tgt := 24) hx hb dX10_plainShares_14 (by decide) (fun c3 => ?_) (fun c3 => ?_)
  · have h := ineg c3 h
    refine lv_iload_n (pc := 24) hx hb dX10_plainShares_24 rfl (lv_at hl 1 rfl) ?_
    refine lv_aload_n (pc := 25) hx hb dX10_plainShares_25 rfl (lv_at hl 0 rfl) ?_
    refine gt_X10_402 X hP hk0 dX10_plainShares_26 ?_
    refine lv_aload_n (pc := 29) hx hb dX10_plainShares_29 rfl (lv_at hl 0 rfl) ?_
    refine gt_X10_384 X hP hk0 dX10_plainShares_30 ?_
    refine lv_isub (pc := 33) hx hb dX10_plainShares_33 ?_
    obtain ⟨g4, h⟩ := grd_inv h
    refine lv_idiv (pc := 34) hx hb dX10_plainShares_34 g4 ?_
    obtain ⟨rfl, rfl⟩ := inj2 h
    exact r_iret X hP hS dX10_plainShares_35
  · have h := ipos c3 h
    refine lv_aload_n (pc := 17) hx hb dX10_plainShares_17 rfl (lv_at hl 0 rfl) ?_
    refine lv_iconst (pc := 18) (v := 1) hx hb dX10_plainShares_18 (by decide) ?_
    obtain ⟨σ5, e6, h⟩ := bnd1 h
    refine pt_X10_405 X hP hS hk0 (by decide) dX10_plainShares_19 (fun H locs hP hS => ?_)
    rw [Option.some.inj e6] at hP
    refine lv_iconst (pc := 22) (v := 0) hx hb dX10_plainShares_22 (by decide) ?_
    obtain ⟨rfl, rfl⟩ := inj2 h
    exact r_iret X hP hS dX10_plainShares_23
def f_X10_sharesIt (k0 : Nat) (a1 : Int32) (σ : Mem) : Option (Int32 × Mem) :=
  if (gI σ k0 52) = (3 : Int32) then
    bd1 (f_X10_ran k0 (50 : Int32) σ) fun σ15 =>
    bd2 (f_X10_plainShares k0 (a1 + (2 : Int32)) σ15) fun r19 σ17 =>
    some ((r19 ^^^ (1 : Int32)), σ17)
  else
    if (gI σ k0 52) = (5 : Int32) then
      bd1 (f_X10_ran k0 (61 : Int32) σ) fun σ6 =>
      bd2 (f_X10_plainShares k0 a1 σ6) fun r10 σ8 =>
      if (gI σ8 k0 57) = (0 : Int32) then
        bd2 (f_X10_callsIt k0 (gI σ8 k0 54) σ8) fun r14 σ12 =>
        some ((r10 + r14), σ12)
      else
        some ((0 : Int32), σ8)
    else
      bd2 (f_X10_plainShares k0 a1 σ) fun r5 σ3 =>
      some (r5, σ3)
abbrev RM_X10_sharesIt : Room := { frames := 4, cells := 0, slots := 0, locals := 84 }
set_option maxHeartbeats 4000000 in
set_option maxRecDepth 100000 in
theorem c_X10_sharesIt (l : Launch) (G : Gh) {k0 : Nat} {a1 : Int32} {σ : Mem} {rr : Int32} {σr : Mem} (hk0 : kd k0 = 10) (h : f_X10_sharesIt k0 a1 σ = some (rr, σr)) : Met l yX10_sharesIt [Cond.code yX10_sharesIt prog_12_method_100_code 3 (some .int)] RM_X10_sharesIt (va_Pc [.ref (ga G k0), .int a1] (Pre G σ)) (QG G (some (.int rr)) σr) 0 0 (AA G) := by
  refine ct_of (by decide) (fun p e s m below meth c X hP => ?_)
  have hx := X.hx
  have hb := X.hb
  have hS : va_S (AA G) s.heap s.heap [] := va_S.rf
  have hl := lv_entry ([.ref (ga G k0), .int a1]) (n := 3) (Nat.le_of_ble_eq_true rfl)
  rw [lg_entry_eq]
  generalize (lg_sl ([.ref (ga G k0), .int a1]) ++ List.replicate (3 - (lg_sl ([.ref (ga G k0), .int a1])).length) Slot.unset).toArray = ls at hl ⊢
  have hl : lv_has ls 3 [(0, .ref (ga G k0)), (1, .int a1)] := hl
  unfold f_X10_sharesIt at h
  refine lv_aload_n (pc := 0) hx hb dX10_sharesIt_0 rfl (lv_at hl 0 rfl) ?_
  refine gt_X10_390 X hP hk0 dX10_sharesIt_1 ?_
  refine lv_iconst (pc := 4) (v := 3) hx hb dX10_sharesIt_4 (by decide) ?_
  refine lv_icmp_ne (pc := 5) (tgt := 24) hx hb dX10_sharesIt_5 (by decide) (fun c1 => ?_) (fun c1 => ?_)
  · have h := ineg c1 h
    refine lv_aload_n (pc := 24) hx hb dX10_sharesIt_24 rfl (lv_at hl 0 rfl) ?_
    refine gt_X10_390 X hP hk0 dX10_sharesIt_25 ?_
    refine lv_iconst (pc := 28) (v := 5) hx hb dX10_sharesIt_28 (by decide) ?_
    refine lv_icmp_ne (pc := 29) (tgt := 66) hx hb dX10_sharesIt_29 (by decide) (fun c2 => ?_) (fun c2 => ?_)
    · have h := ineg c2 h
      refine lv_aload_n (pc := 66) hx hb dX10_sharesIt_66 rfl (lv_at hl 0 rfl) ?_
      refine lv_iload_n (pc := 67) hx hb dX10_sharesIt_67 rfl (lv_at hl 1 rfl) ?_
      obtain ⟨r5, σ3, e4, h⟩ := bnd2 h
      refine cl_X10_408 X hP hS hk0 (As := [.int a1]) (rest := []) (c_X10_plainShares l G hk0 e4) ⟨rfl, rfl, Nat.le_of_ble_eq_true rfl, Nat.le_of_ble_eq_true rfl⟩ rfl hl.1 rfl (Nat.le_of_ble_eq_true rfl) ⟨Nat.zero_le _, Nat.zero_le _⟩ (pc := 68) dX10_sharesIt_68 (fun H locs hP hS => ?_)
      change W p l e _ s m _ below meth c H locs _ _ _ (F0 m (68 + 3) ls (.int r5 :: []))
      obtain ⟨rfl, rfl⟩ := inj2 h
      exact r_iret X hP hS dX10_sharesIt_71
    · have h := ipos c2 h
      refine lv_aload_n (pc := 32) hx hb dX10_sharesIt_32 rfl (lv_at hl 0 rfl) ?_
      refine lv_bipush (pc := 33) (v := (61)) hx hb dX10_sharesIt_33 (by decide) ?_
      obtain ⟨σ6, e7, h⟩ := bnd1 h
      refine cl_X10_381 X hP hS hk0 (As := [.int (61 : Int32)]) (rest := []) (c_X10_ran l G hk0 e7) ⟨rfl, rfl, Nat.le_of_ble_eq_true rfl, Nat.le_of_ble_eq_true rfl⟩ rfl hl.1 rfl (Nat.le_of_ble_eq_true rfl) ⟨Nat.zero_le _, Nat.zero_le _⟩ (pc := 35) dX10_sharesIt_35 (fun H locs hP hS => ?_)
      change W p l e _ s m _ below meth c H locs _ _ _ (F0 m (35 + 3) ls [])
      refine lv_aload_n (pc := 38) hx hb dX10_sharesIt_38 rfl (lv_at hl 0 rfl) ?_
      refine lv_iload_n (pc := 39) hx hb dX10_sharesIt_39 rfl (lv_at hl 1 rfl) ?_
      obtain ⟨r10, σ8, e9, h⟩ := bnd2 h
      refine cl_X10_408 X hP hS hk0 (As := [.int a1]) (rest := []) (c_X10_plainShares l G hk0 e9) ⟨rfl, rfl, Nat.le_of_ble_eq_true rfl, Nat.le_of_ble_eq_true rfl⟩ rfl hl.1 rfl (Nat.le_of_ble_eq_true rfl) ⟨Nat.zero_le _, Nat.zero_le _⟩ (pc := 40) dX10_sharesIt_40 (fun H locs hP hS => ?_)
      change W p l e _ s m _ below meth c H locs _ _ _ (F0 m (40 + 3) ls (.int r10 :: []))
      refine lv_istore_n (pc := 43) (lv' := [(2, .int r10), (0, .ref (ga G k0)), (1, .int a1)]) hx hb dX10_sharesIt_43 rfl hl (by decide) rfl (fun ls hl => ?_)
      refine lv_aload_n (pc := 44) hx hb dX10_sharesIt_44 rfl (lv_at hl 1 rfl) ?_
      refine gt_X10_405 X hP hk0 dX10_sharesIt_45 ?_
      refine lv_if_eq (pc := 48) (tgt := 55) hx hb dX10_sharesIt_48 (by decide) (fun c11 => ?_) (fun c11 => ?_)
      · have h := ipos c11 h
        refine lv_iload_n (pc := 55) hx hb dX10_sharesIt_55 rfl (lv_at hl 0 rfl) ?_
        refine lv_aload_n (pc := 56) hx hb dX10_sharesIt_56 rfl (lv_at hl 1 rfl) ?_
        refine lv_aload_n (pc := 57) hx hb dX10_sharesIt_57 rfl (lv_at hl 1 rfl) ?_
        refine gt_X10_402 X hP hk0 dX10_sharesIt_58 ?_
        obtain ⟨r14, σ12, e13, h⟩ := bnd2 h
        refine cl_X10_396 X hP hS hk0 (As := [.int (gI σ8 k0 54)]) (rest := [.int r10]) (c_X10_callsIt l G hk0 e13) ⟨rfl, rfl, Nat.le_of_ble_eq_true rfl, Nat.le_of_ble_eq_true rfl⟩ rfl hl.1 rfl (Nat.le_of_ble_eq_true rfl) ⟨Nat.zero_le _, Nat.zero_le _⟩ (pc := 61) dX10_sharesIt_61 (fun H locs hP hS => ?_)
        change W p l e _ s m _ below meth c H locs _ _ _ (F0 m (61 + 3) ls (.int r14 :: [.int r10]))
        refine lv_iadd (pc := 64) hx hb dX10_sharesIt_64 ?_
        obtain ⟨rfl, rfl⟩ := inj2 h
        exact r_iret X hP hS dX10_sharesIt_65
      · have h := ineg c11 h
        refine lv_iconst (pc := 51) (v := 0) hx hb dX10_sharesIt_51 (by decide) ?_
        refine lv_goto (pc := 52) (tgt := 65) hx hb dX10_sharesIt_52 (by decide) ?_
        obtain ⟨rfl, rfl⟩ := inj2 h
        exact r_iret X hP hS dX10_sharesIt_65
  · have h := ipos c1 h
    refine lv_aload_n (pc := 8) hx hb dX10_sharesIt_8 rfl (lv_at hl 0 rfl) ?_
    refine lv_bipush (pc := 9) (v := (50)) hx hb dX10_sharesIt_9 (by decide) ?_
    obtain ⟨σ15, e16, h⟩ := bnd1 h
    refine cl_X10_381 X hP hS hk0 (As := [.int (50 : Int32)]) (rest := []) (c_X10_ran l G hk0 e16) ⟨rfl, rfl, Nat.le_of_ble_eq_true rfl, Nat.le_of_ble_eq_true rfl⟩ rfl hl.1 rfl (Nat.le_of_ble_eq_true rfl) ⟨Nat.zero_le _, Nat.zero_le _⟩ (pc := 11) dX10_sharesIt_11 (fun H locs hP hS => ?_)
    change W p l e _ s m _ below meth c H locs _ _ _ (F0 m (11 + 3) ls [])
    refine lv_aload_n (pc := 14) hx hb dX10_sharesIt_14 rfl (lv_at hl 0 rfl) ?_
    refine lv_iload_n (pc := 15) hx hb dX10_sharesIt_15 rfl (lv_at hl 1 rfl) ?_
    refine lv_iconst (pc := 16) (v := 2) hx hb dX10_sharesIt_16 (by decide) ?_
    refine lv_iadd (pc := 17) hx hb dX10_sharesIt_17 ?_
    obtain ⟨r19, σ17, e18, h⟩ := bnd2 h
    refine cl_X10_408 X hP hS hk0 (As := [.int (a1 + (2 : Int32))]) (rest := []) (c_X10_plainShares l G hk0 e18) ⟨rfl, rfl, Nat.le_of_ble_eq_true rfl, Nat.le_of_ble_eq_true rfl⟩ rfl hl.1 rfl (Nat.le_of_ble_eq_true rfl) ⟨Nat.zero_le _, Nat.zero_le _⟩ (pc := 18) dX10_sharesIt_18 (fun H locs hP hS => ?_)
    change W p l e _ s m _ below meth c H locs _ _ _ (F0 m (18 + 3) ls (.int r19 :: []))
    refine lv_iconst (pc := 21) (v := 1) hx hb dX10_sharesIt_21 (by decide) ?_
    refine lv_ixor (pc := 22) hx hb dX10_sharesIt_22 ?_
    obtain ⟨rfl, rfl⟩ := inj2 h
    exact r_iret X hP hS dX10_sharesIt_23
def f_X10_plainTells (k0 : Nat) (a1 : Int32) (σ : Mem) : Option (Int32 × Mem) :=
  bd1 (f_X10_ran k0 (13 : Int32) σ) fun σ1 =>
  bd2 (f_X10_hearsIt k0 a1 σ1) fun r5 σ3 =>
  some ((r5 ^^^ (gI σ3 k0 54)), σ3)
abbrev RM_X10_plainTells : Room := { frames := 6, cells := 0, slots := 0, locals := 127 }
set_option maxHeartbeats 4000000 in
set_option maxRecDepth 100000 in
theorem c_X10_plainTells (l : Launch) (G : Gh) {k0 : Nat} {a1 : Int32} {σ : Mem} {rr : Int32} {σr : Mem} (hk0 : kd k0 = 10) (h : f_X10_plainTells k0 a1 σ = some (rr, σr)) : Met l yX10_plainTells [Cond.code yX10_plainTells prog_12_method_101_code 2 (some .int)] RM_X10_plainTells (va_Pc [.ref (ga G k0), .int a1] (Pre G σ)) (QG G (some (.int rr)) σr) 0 0 (AA G) := by
  refine ct_of (by decide) (fun p e s m below meth c X hP => ?_)
  have hx := X.hx
  have hb := X.hb
  have hS : va_S (AA G) s.heap s.heap [] := va_S.rf
  have hl := lv_entry ([.ref (ga G k0), .int a1]) (n := 2) (Nat.le_of_ble_eq_true rfl)
  rw [lg_entry_eq]
  generalize (lg_sl ([.ref (ga G k0), .int a1]) ++ List.replicate (2 - (lg_sl ([.ref (ga G k0), .int a1])).length) Slot.unset).toArray = ls at hl ⊢
  have hl : lv_has ls 2 [(0, .ref (ga G k0)), (1, .int a1)] := hl
  unfold f_X10_plainTells at h
  refine lv_aload_n (pc := 0) hx hb dX10_plainTells_0 rfl (lv_at hl 0 rfl) ?_
  refine lv_bipush (pc := 1) (v := (13)) hx hb dX10_plainTells_1 (by decide) ?_
  obtain ⟨σ1, e2, h⟩ := bnd1 h
  refine cl_X10_381 X hP hS hk0 (As := [.int (13 : Int32)]) (rest := []) (c_X10_ran l G hk0 e2) ⟨rfl, rfl, Nat.le_of_ble_eq_true rfl, Nat.le_of_ble_eq_true rfl⟩ rfl hl.1 rfl (Nat.le_of_ble_eq_true rfl) ⟨Nat.zero_le _, Nat.zero_le _⟩ (pc := 3) dX10_plainTells_3 (fun H locs hP hS => ?_)
  change W p l e _ s m _ below meth c H locs _ _ _ (F0 m (3 + 3) ls [])
  refine lv_aload_n (pc := 6) hx hb dX10_plainTells_6 rfl (lv_at hl 0 rfl) ?_
  refine lv_iload_n (pc := 7) hx hb dX10_plainTells_7 rfl (lv_at hl 1 rfl) ?_
  obtain ⟨r5, σ3, e4, h⟩ := bnd2 h
  refine cl_X10_411 X hP hS hk0 (As := [.int a1]) (rest := []) (c_X10_hearsIt l G hk0 e4) ⟨rfl, rfl, Nat.le_of_ble_eq_true rfl, Nat.le_of_ble_eq_true rfl⟩ rfl hl.1 rfl (Nat.le_of_ble_eq_true rfl) ⟨Nat.zero_le _, Nat.zero_le _⟩ (pc := 8) dX10_plainTells_8 (fun H locs hP hS => ?_)
  change W p l e _ s m _ below meth c H locs _ _ _ (F0 m (8 + 3) ls (.int r5 :: []))
  refine lv_aload_n (pc := 11) hx hb dX10_plainTells_11 rfl (lv_at hl 0 rfl) ?_
  refine gt_X10_402 X hP hk0 dX10_plainTells_12 ?_
  refine lv_ixor (pc := 15) hx hb dX10_plainTells_15 ?_
  obtain ⟨rfl, rfl⟩ := inj2 h
  exact r_iret X hP hS dX10_plainTells_16
def f_X10_tellsIt (k0 : Nat) (a1 : Int32) (σ : Mem) : Option (Int32 × Mem) :=
  if (gI σ k0 52) = (2 : Int32) then
    bd1 (f_X10_ran k0 (31 : Int32) σ) fun σ2 =>
    bd2 (f_X10_plainTells k0 a1 σ2) fun r6 σ4 =>
    bd2 (f_X10_sharesIt k0 (gI σ4 k0 53) σ4) fun r9 σ7 =>
    some ((r6 + r9), σ7)
  else
    if (gI σ k0 52) = (4 : Int32) then
      bd1 (f_X10_ran k0 (31 : Int32) σ) fun σ20 =>
      bd2 (f_X10_plainTells k0 a1 σ20) fun r24 σ22 =>
      bd2 (f_X10_sharesIt k0 (gI σ22 k0 53) σ22) fun r27 σ25 =>
      some ((r24 + r27), σ25)
    else
      if (gI σ k0 52) = (5 : Int32) then
        bd1 (f_X10_ran k0 (60 : Int32) σ) fun σ15 =>
        bd2 (f_X10_plainTells k0 a1 σ15) fun r19 σ17 =>
        some ((r19 * (2 : Int32)), σ17)
      else
        bd2 (f_X10_plainTells k0 a1 σ) fun r14 σ12 =>
        some (r14, σ12)
abbrev RM_X10_tellsIt : Room := { frames := 7, cells := 0, slots := 0, locals := 148 }
set_option maxHeartbeats 4000000 in
set_option maxRecDepth 100000 in
theorem c_X10_tellsIt (l : Launch) (G : Gh) {k0 : Nat} {a1 : Int32} {σ : Mem} {rr : Int32} {σr : Mem} (hk0 : kd k0 = 10) (h : f_X10_tellsIt k0 a1 σ = some (rr, σr)) : Met l yX10_tellsIt [Cond.code yX10_tellsIt prog_12_method_102_code 3 (some .int)] RM_X10_tellsIt (va_Pc [.ref (ga G k0), .int a1] (Pre G σ)) (QG G (some (.int rr)) σr) 0 0 (AA G) := by
  refine ct_of (by decide) (fun p e s m below meth c X hP => ?_)
  have hx := X.hx
  have hb := X.hb
  have hS : va_S (AA G) s.heap s.heap [] := va_S.rf
  have hl := lv_entry ([.ref (ga G k0), .int a1]) (n := 3) (Nat.le_of_ble_eq_true rfl)
  rw [lg_entry_eq]
  generalize (lg_sl ([.ref (ga G k0), .int a1]) ++ List.replicate (3 - (lg_sl ([.ref (ga G k0), .int a1])).length) Slot.unset).toArray = ls at hl ⊢
  have hl : lv_has ls 3 [(0, .ref (ga G k0)), (1, .int a1)] := hl
  unfold f_X10_tellsIt at h
  refine lv_aload_n (pc := 0) hx hb dX10_tellsIt_0 rfl (lv_at hl 0 rfl) ?_
  refine gt_X10_390 X hP hk0 dX10_tellsIt_1 ?_
  refine lv_iconst (pc := 4) (v := 2) hx hb dX10_tellsIt_4 (by decide) ?_
  refine lv_icmp_eq (pc := 5) (tgt := 16) hx hb dX10_tellsIt_5 (by decide) (fun c1 => ?_) (fun c1 => ?_)
  · have h := ipos c1 h
    refine lv_aload_n (pc := 16) hx hb dX10_tellsIt_16 rfl (lv_at hl 0 rfl) ?_
    refine lv_bipush (pc := 17) (v := (31)) hx hb dX10_tellsIt_17 (by decide) ?_
    obtain ⟨σ2, e3, h⟩ := bnd1 h
    refine cl_X10_381 X hP hS hk0 (As := [.int (31 : Int32)]) (rest := []) (c_X10_ran l G hk0 e3) ⟨rfl, rfl, Nat.le_of_ble_eq_true rfl, Nat.le_of_ble_eq_true rfl⟩ rfl hl.1 rfl (Nat.le_of_ble_eq_true rfl) ⟨Nat.zero_le _, Nat.zero_le _⟩ (pc := 19) dX10_tellsIt_19 (fun H locs hP hS => ?_)
    change W p l e _ s m _ below meth c H locs _ _ _ (F0 m (19 + 3) ls [])
    refine lv_aload_n (pc := 22) hx hb dX10_tellsIt_22 rfl (lv_at hl 0 rfl) ?_
    refine lv_iload_n (pc := 23) hx hb dX10_tellsIt_23 rfl (lv_at hl 1 rfl) ?_
    obtain ⟨r6, σ4, e5, h⟩ := bnd2 h
    refine cl_X10_414 X hP hS hk0 (As := [.int a1]) (rest := []) (c_X10_plainTells l G hk0 e5) ⟨rfl, rfl, Nat.le_of_ble_eq_true rfl, Nat.le_of_ble_eq_true rfl⟩ rfl hl.1 rfl (Nat.le_of_ble_eq_true rfl) ⟨Nat.zero_le _, Nat.zero_le _⟩ (pc := 24) dX10_tellsIt_24 (fun H locs hP hS => ?_)
    change W p l e _ s m _ below meth c H locs _ _ _ (F0 m (24 + 3) ls (.int r6 :: []))
    refine lv_istore_n (pc := 27) (lv' := [(2, .int r6), (0, .ref (ga G k0)), (1, .int a1)]) hx hb dX10_tellsIt_27 rfl hl (by decide) rfl (fun ls hl => ?_)
    refine lv_iload_n (pc := 28) hx hb dX10_tellsIt_28 rfl (lv_at hl 0 rfl) ?_
    refine lv_aload_n (pc := 29) hx hb dX10_tellsIt_29 rfl (lv_at hl 1 rfl) ?_
    refine lv_aload_n (pc := 30) hx hb dX10_tellsIt_30 rfl (lv_at hl 1 rfl) ?_
    refine gt_X10_384 X hP hk0 dX10_tellsIt_31 ?_
    obtain ⟨r9, σ7, e8, h⟩ := bnd2 h
    refine cl_X10_417 X hP hS hk0 (As := [.int (gI σ4 k0 53)]) (rest := [.int r6]) (c_X10_sharesIt l G hk0 e8) ⟨rfl, rfl, Nat.le_of_ble_eq_true rfl, Nat.le_of_ble_eq_true rfl⟩ rfl hl.1 rfl (Nat.le_of_ble_eq_true rfl) ⟨Nat.zero_le _, Nat.zero_le _⟩ (pc := 34) dX10_tellsIt_34 (fun H locs hP hS => ?_)
    change W p l e _ s m _ below meth c H locs _ _ _ (F0 m (34 + 3) ls (.int r9 :: [.int r6]))
    refine lv_iadd (pc := 37) hx hb dX10_tellsIt_37 ?_
    obtain ⟨rfl, rfl⟩ := inj2 h
    exact r_iret X hP hS dX10_tellsIt_38
  · have h := ineg c1 h
    refine lv_aload_n (pc := 8) hx hb dX10_tellsIt_8 rfl (lv_at hl 0 rfl) ?_
    refine gt_X10_390 X hP hk0 dX10_tellsIt_9 ?_
    refine lv_iconst (pc := 12) (v := 4) hx hb dX10_tellsIt_12 (by decide) ?_
    refine lv_icmp_ne (pc := 13) (tgt := 39) hx hb dX10_tellsIt_13 (by decide) (fun c10 => ?_) (fun c10 => ?_)
    · have h := ineg c10 h
      refine lv_aload_n (pc := 39) hx hb dX10_tellsIt_39 rfl (lv_at hl 0 rfl) ?_
      refine gt_X10_390 X hP hk0 dX10_tellsIt_40 ?_
      refine lv_iconst (pc := 43) (v := 5) hx hb dX10_tellsIt_43 (by decide) ?_
      refine lv_icmp_ne (pc := 44) (tgt := 61) hx hb dX10_tellsIt_44 (by decide) (fun c11 => ?_) (fun c11 => ?_)
      · have h := ineg c11 h
        refine lv_aload_n (pc := 61) hx hb dX10_tellsIt_61 rfl (lv_at hl 0 rfl) ?_
        refine lv_iload_n (pc := 62) hx hb dX10_tellsIt_62 rfl (lv_at hl 1 rfl) ?_
        obtain ⟨r14, σ12, e13, h⟩ := bnd2 h
        refine cl_X10_414 X hP hS hk0 (As := [.int a1]) (rest := []) (c_X10_plainTells l G hk0 e13) ⟨rfl, rfl, Nat.le_of_ble_eq_true rfl, Nat.le_of_ble_eq_true rfl⟩ rfl hl.1 rfl (Nat.le_of_ble_eq_true rfl) ⟨Nat.zero_le _, Nat.zero_le _⟩ (pc := 63) dX10_tellsIt_63 (fun H locs hP hS => ?_)
        change W p l e _ s m _ below meth c H locs _ _ _ (F0 m (63 + 3) ls (.int r14 :: []))
        obtain ⟨rfl, rfl⟩ := inj2 h
        exact r_iret X hP hS dX10_tellsIt_66
      · have h := ipos c11 h
        refine lv_aload_n (pc := 47) hx hb dX10_tellsIt_47 rfl (lv_at hl 0 rfl) ?_
        refine lv_bipush (pc := 48) (v := (60)) hx hb dX10_tellsIt_48 (by decide) ?_
        obtain ⟨σ15, e16, h⟩ := bnd1 h
        refine cl_X10_381 X hP hS hk0 (As := [.int (60 : Int32)]) (rest := []) (c_X10_ran l G hk0 e16) ⟨rfl, rfl, Nat.le_of_ble_eq_true rfl, Nat.le_of_ble_eq_true rfl⟩ rfl hl.1 rfl (Nat.le_of_ble_eq_true rfl) ⟨Nat.zero_le _, Nat.zero_le _⟩ (pc := 50) dX10_tellsIt_50 (fun H locs hP hS => ?_)
        change W p l e _ s m _ below meth c H locs _ _ _ (F0 m (50 + 3) ls [])
        refine lv_aload_n (pc := 53) hx hb dX10_tellsIt_53 rfl (lv_at hl 0 rfl) ?_
        refine lv_iload_n (pc := 54) hx hb dX10_tellsIt_54 rfl (lv_at hl 1 rfl) ?_
        obtain ⟨r19, σ17, e18, h⟩ := bnd2 h
        refine cl_X10_414 X hP hS hk0 (As := [.int a1]) (rest := []) (c_X10_plainTells l G hk0 e18) ⟨rfl, rfl, Nat.le_of_ble_eq_true rfl, Nat.le_of_ble_eq_true rfl⟩ rfl hl.1 rfl (Nat.le_of_ble_eq_true rfl) ⟨Nat.zero_le _, Nat.zero_le _⟩ (pc := 55) dX10_tellsIt_55 (fun H locs hP hS => ?_)
        change W p l e _ s m _ below meth c H locs _ _ _ (F0 m (55 + 3) ls (.int r19 :: []))
        refine lv_iconst (pc := 58) (v := 2) hx hb dX10_tellsIt_58 (by decide) ?_
        refine lv_imul (pc := 59) hx hb dX10_tellsIt_59 ?_
        obtain ⟨rfl, rfl⟩ := inj2 h
        exact r_iret X hP hS dX10_tellsIt_60
    · have h := ipos c10 h
      refine lv_aload_n (pc := 16) hx hb dX10_tellsIt_16 rfl (lv_at hl 0 rfl) ?_
      refine lv_bipush (pc := 17) (v := (31)) hx hb dX10_tellsIt_17 (by decide) ?_
      obtain ⟨σ20, e21, h⟩ := bnd1 h
      refine cl_X10_381 X hP hS hk0 (As := [.int (31 : Int32)]) (rest := []) (c_X10_ran l G hk0 e21) ⟨rfl, rfl, Nat.le_of_ble_eq_true rfl, Nat.le_of_ble_eq_true rfl⟩ rfl hl.1 rfl (Nat.le_of_ble_eq_true rfl) ⟨Nat.zero_le _, Nat.zero_le _⟩ (pc := 19) dX10_tellsIt_19 (fun H locs hP hS => ?_)
      change W p l e _ s m _ below meth c H locs _ _ _ (F0 m (19 + 3) ls [])
      refine lv_aload_n (pc := 22) hx hb dX10_tellsIt_22 rfl (lv_at hl 0 rfl) ?_
      refine lv_iload_n (pc := 23) hx hb dX10_tellsIt_23 rfl (lv_at hl 1 rfl) ?_
      obtain ⟨r24, σ22, e23, h⟩ := bnd2 h
      refine cl_X10_414 X hP hS hk0 (As := [.int a1]) (rest := []) (c_X10_plainTells l G hk0 e23) ⟨rfl, rfl, Nat.le_of_ble_eq_true rfl, Nat.le_of_ble_eq_true rfl⟩ rfl hl.1 rfl (Nat.le_of_ble_eq_true rfl) ⟨Nat.zero_le _, Nat.zero_le _⟩ (pc := 24) dX10_tellsIt_24 (fun H locs hP hS => ?_)
      change W p l e _ s m _ below meth c H locs _ _ _ (F0 m (24 + 3) ls (.int r24 :: []))
      refine lv_istore_n (pc := 27) (lv' := [(2, .int r24), (0, .ref (ga G k0)), (1, .int a1)]) hx hb dX10_tellsIt_27 rfl hl (by decide) rfl (fun ls hl => ?_)
      refine lv_iload_n (pc := 28) hx hb dX10_tellsIt_28 rfl (lv_at hl 0 rfl) ?_
      refine lv_aload_n (pc := 29) hx hb dX10_tellsIt_29 rfl (lv_at hl 1 rfl) ?_
      refine lv_aload_n (pc := 30) hx hb dX10_tellsIt_30 rfl (lv_at hl 1 rfl) ?_
      refine gt_X10_384 X hP hk0 dX10_tellsIt_31 ?_
      obtain ⟨r27, σ25, e26, h⟩ := bnd2 h
      refine cl_X10_417 X hP hS hk0 (As := [.int (gI σ22 k0 53)]) (rest := [.int r24]) (c_X10_sharesIt l G hk0 e26) ⟨rfl, rfl, Nat.le_of_ble_eq_true rfl, Nat.le_of_ble_eq_true rfl⟩ rfl hl.1 rfl (Nat.le_of_ble_eq_true rfl) ⟨Nat.zero_le _, Nat.zero_le _⟩ (pc := 34) dX10_tellsIt_34 (fun H locs hP hS => ?_)
      change W p l e _ s m _ below meth c H locs _ _ _ (F0 m (34 + 3) ls (.int r27 :: [.int r24]))
      refine lv_iadd (pc := 37) hx hb dX10_tellsIt_37 ?_
      obtain ⟨rfl, rfl⟩ := inj2 h
      exact r_iret X hP hS dX10_tellsIt_38
