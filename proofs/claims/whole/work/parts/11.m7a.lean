def f_X7_clear (k0 : Nat) (σ : Mem) : Option Mem :=
  bd1 (some (pI σ k0 1 (0 : Int32))) fun σ1 =>
  some σ1
abbrev RM_X7_clear : Room := { frames := 0, cells := 0, slots := 0, locals := 0 }
set_option maxHeartbeats 4000000 in
set_option maxRecDepth 100000 in
theorem c_X7_clear (l : Launch) (G : Gh) {k0 : Nat} {σ : Mem} {σr : Mem} (hk0 : kd k0 = 7) (h : f_X7_clear k0 σ = some σr) : Met l yX7_clear [Cond.code yX7_clear prog_9_method_2_code 1 none] RM_X7_clear (va_Pc [.ref (ga G k0)] (Pre G σ)) (QG G none σr) 0 0 (AA G) := by
  refine ct_of (by decide) (fun p e s m below meth c X hP => ?_)
  have hx := X.hx
  have hb := X.hb
  have hS : va_S (AA G) s.heap s.heap [] := va_S.rf
  have hl := lv_entry ([.ref (ga G k0)]) (n := 1) (Nat.le_of_ble_eq_true rfl)
  rw [lg_entry_eq]
  generalize (lg_sl ([.ref (ga G k0)]) ++ List.replicate (1 - (lg_sl ([.ref (ga G k0)])).length) Slot.unset).toArray = ls at hl ⊢
  have hl : lv_has ls 1 [(0, .ref (ga G k0))] := hl
  unfold f_X7_clear at h
  refine lv_aload_n (pc := 0) hx hb dX7_clear_0 rfl (lv_at hl 0 rfl) ?_
  refine lv_iconst (pc := 1) (v := 0) hx hb dX7_clear_1 (by decide) ?_
  obtain ⟨σ1, e2, h⟩ := bnd1 h
  refine pt_X7_15 X hP hS hk0 dX7_clear_2 (fun H locs hP hS => ?_)
  rw [Option.some.inj e2] at hP
  obtain rfl := Option.some.inj h
  exact r_vret X hP hS dX7_clear_5
def F_X7_takes_18 (k0z : Nat) (p1 : Int64) (p3 : Int32) (rec1 : Int32 → Mem → Option (Int32 × Mem)) : Int32 → Mem → Option (Int32 × Mem) := fun v4 σ =>
  if p3 ≤ v4 then
    bd1 (some (pI σ k0z 1 ((gI σ k0z 1) + p3))) fun σ3 =>
    some ((gI σ3 k0z 1), σ3)
  else
    bd1 (ixo (k0z + 1) ((gI σ k0z 1) + v4)) fun j5 =>
    bd1 (some (pI σ (k0z + 1) j5 (vp_nar .byte (p1 >>> (((8 : Int32) * v4).toInt64 &&& 63)).toInt32.toInt8.toInt32))) fun σ7 =>
    rec1 (v4 + (1 : Int32)) σ7
def f_X7_takes (k0 : Nat) (a1 : Int64) (a3 : Int32) (σ : Mem) : Option (Int32 × Mem) :=
  if ((gI σ k0 1) + a3) ≤ (200 : Int32) then
    iterF (F_X7_takes_18 k0 a1 a3) (fun _ _ => none) FU (0 : Int32) σ
  else
    some ((-2 : Int32), σ)
abbrev RM_X7_takes : Room := { frames := 0, cells := 0, slots := 0, locals := 0 }
set_option maxHeartbeats 4000000 in
set_option maxRecDepth 100000 in
theorem w_X7_takes_18 {l : Launch} {G : Gh} {p : Program} {e : Env} {s : State} {m : MethodId} {args : Array Value} {below : List Frame} {meth : Method} {c : Code} (X : Cx G p s m args meth c prog_9_method_3_code RX7 5 (some .int)) {k0z : Nat} {p1 : Int64} {p3 : Int32} (hz0 : kd k0z = 7) {rr : Int32} {σr : Mem} : ∀ (n : Nat) (v4 : Int32) (σ : Mem) (H : Heap) (locs : List Loc) (ls : Array Slot), PW G σ H → va_S (AA G) s.heap H locs → lv_has ls 5 [(0, .ref (ga G k0z)), (1, .long p1), (3, .int p3), (4, .int v4)] → iterF (F_X7_takes_18 k0z p1 p3) (fun _ _ => none) n v4 σ = some (rr, σr) → W p l e RM_X7_takes s m args below meth c H locs 0 0 (MQ below (QG G (some (.int rr)) σr) args s 0 0 (AA G)) (F0 m 18 ls []) := by
  have hx := X.hx
  have hb := X.hb
  intro n
  induction n with
  | zero => intro v4 σ H locs ls hP hS hl h; exact nnone (α := (Int32 × Mem)) h
  | succ n ih1 =>
    intro v4 σ H locs ls hP hS hl h
    have h : F_X7_takes_18 k0z p1 p3 (iterF (F_X7_takes_18 k0z p1 p3) (fun _ _ => none) n) v4 σ = some _ := h
    unfold F_X7_takes_18 at h
    refine lv_iload (pc := 18) hx hb dX7_takes_18 (lv_at hl 3 rfl) ?_
    refine lv_iload_n (pc := 20) hx hb dX7_takes_20 rfl (lv_at hl 2 rfl) ?_
    refine lv_icmp_ge (pc := 21) (tgt := 51) hx hb dX7_takes_21 (by decide) (fun c2 => ?_) (fun c2 => ?_)
    · have h := ipos c2 h
      refine lv_aload_n (pc := 51) hx hb dX7_takes_51 rfl (lv_at hl 0 rfl) ?_
      refine lv_dup (pc := 52) hx hb dX7_takes_52 rfl ?_
      refine gt_X7_15 X hP hz0 dX7_takes_53 ?_
      refine lv_iload_n (pc := 56) hx hb dX7_takes_56 rfl (lv_at hl 2 rfl) ?_
      refine lv_iadd (pc := 57) hx hb dX7_takes_57 ?_
      obtain ⟨σ3, e4, h⟩ := bnd1 h
      refine pt_X7_15 X hP hS hz0 dX7_takes_58 (fun H locs hP hS => ?_)
      rw [Option.some.inj e4] at hP
      refine lv_aload_n (pc := 61) hx hb dX7_takes_61 rfl (lv_at hl 0 rfl) ?_
      refine gt_X7_15 X hP hz0 dX7_takes_62 ?_
      obtain ⟨rfl, rfl⟩ := inj2 h
      exact r_iret X hP hS dX7_takes_65
    · have h := ineg c2 h
      refine lv_aload_n (pc := 24) hx hb dX7_takes_24 rfl (lv_at hl 0 rfl) ?_
      refine gt_X7_11 X hP hz0 dX7_takes_25 ?_
      refine lv_aload_n (pc := 28) hx hb dX7_takes_28 rfl (lv_at hl 0 rfl) ?_
      refine gt_X7_15 X hP hz0 dX7_takes_29 ?_
      refine lv_iload (pc := 32) hx hb dX7_takes_32 (lv_at hl 3 rfl) ?_
      refine lv_iadd (pc := 34) hx hb dX7_takes_34 ?_
      refine lv_lload_n (pc := 35) hx hb dX7_takes_35 rfl (lv_at hl 1 rfl) ?_
      refine lv_bipush (pc := 36) (v := (8)) hx hb dX7_takes_36 (by decide) ?_
      refine lv_iload (pc := 38) hx hb dX7_takes_38 (lv_at hl 3 rfl) ?_
      refine lv_imul (pc := 40) hx hb dX7_takes_40 ?_
      refine lv_lshr (pc := 41) (v := (p1 >>> (((8 : Int32) * v4).toInt64 &&& 63))) hx hb dX7_takes_41 rfl ?_
      refine lv_l2i (pc := 42) (v := (p1 >>> (((8 : Int32) * v4).toInt64 &&& 63)).toInt32) hx hb dX7_takes_42 rfl ?_
      refine lv_i2b (pc := 43) (v := (p1 >>> (((8 : Int32) * v4).toInt64 &&& 63)).toInt32.toInt8.toInt32) hx hb dX7_takes_43 rfl ?_
      obtain ⟨j5, hj6, h⟩ := bnd1 h
      obtain ⟨σ7, e8, h⟩ := bnd1 h
      refine r_bast (pc := 44) X hP hS (kf_7_bytes hz0).1 hj6 dX7_takes_44 (fun H locs hP hS => ?_)
      rw [Option.some.inj e8] at hP
      refine lv_iinc (pc := 45) (v := (v4 + (1 : Int32))) (lv' := [(4, .int (v4 + (1 : Int32))), (0, .ref (ga G k0z)), (1, .long p1), (3, .int p3)]) hx hb dX7_takes_45 hl (k := 3) rfl (congrArg (fun z => v4 + z) (by decide)) (by decide) rfl (fun ls hl => ?_)
      refine lv_goto (pc := 48) (tgt := 18) hx hb dX7_takes_48 (by decide) ?_
      exact ih1 _ _ _ _ _ hP hS (lv_sub hl [1, 2, 3, 0] rfl) h
set_option maxHeartbeats 4000000 in
set_option maxRecDepth 100000 in
theorem c_X7_takes (l : Launch) (G : Gh) {k0 : Nat} {a1 : Int64} {a3 : Int32} {σ : Mem} {rr : Int32} {σr : Mem} (hk0 : kd k0 = 7) (h : f_X7_takes k0 a1 a3 σ = some (rr, σr)) : Met l yX7_takes [Cond.code yX7_takes prog_9_method_3_code 5 (some .int)] RM_X7_takes (va_Pc [.ref (ga G k0), .long a1, .int a3] (Pre G σ)) (QG G (some (.int rr)) σr) 0 0 (AA G) := by
  refine ct_of (by decide) (fun p e s m below meth c X hP => ?_)
  have hx := X.hx
  have hb := X.hb
  have hS : va_S (AA G) s.heap s.heap [] := va_S.rf
  have hl := lv_entry ([.ref (ga G k0), .long a1, .int a3]) (n := 5) (Nat.le_of_ble_eq_true rfl)
  rw [lg_entry_eq]
  generalize (lg_sl ([.ref (ga G k0), .long a1, .int a3]) ++ List.replicate (5 - (lg_sl ([.ref (ga G k0), .long a1, .int a3])).length) Slot.unset).toArray = ls at hl ⊢
  have hl : lv_has ls 5 [(0, .ref (ga G k0)), (1, .long a1), (3, .int a3)] := hl
  unfold f_X7_takes at h
  refine lv_aload_n (pc := 0) hx hb dX7_takes_0 rfl (lv_at hl 0 rfl) ?_
  refine gt_X7_15 X hP hk0 dX7_takes_1 ?_
  refine lv_iload_n (pc := 4) hx hb dX7_takes_4 rfl (lv_at hl 2 rfl) ?_
  refine lv_iadd (pc := 5) hx hb dX7_takes_5 ?_
  refine lv_sipush (pc := 6) (v := (200)) hx hb dX7_takes_6 (by decide) ?_
  refine lv_icmp_le (pc := 9) (tgt := 15) hx hb dX7_takes_9 (by decide) (fun c1 => ?_) (fun c1 => ?_)
  · have h := ipos c1 h
    refine lv_iconst (pc := 15) (v := 0) hx hb dX7_takes_15 (by decide) ?_
    refine lv_istore (pc := 16) (lv' := [(4, .int (0 : Int32)), (0, .ref (ga G k0)), (1, .long a1), (3, .int a3)]) hx hb dX7_takes_16 hl (by decide) rfl (fun ls hl => ?_)
    exact w_X7_takes_18 X hk0  FU _ _ _ _ _ hP hS (lv_sub hl [1, 2, 3, 0] rfl) h
  · have h := ineg c1 h
    refine lv_bipush (pc := 12) (v := (-2)) hx hb dX7_takes_12 (by decide) ?_
    obtain ⟨rfl, rfl⟩ := inj2 h
    exact r_iret X hP hS dX7_takes_14
def F_X7_endOfRow_5 (k0z : Nat) (p1 : Int32) (p2 : Int32) (rec1 : Int32 → Mem → Option (Int32 × Mem)) : Int32 → Mem → Option (Int32 × Mem) := fun v3 σ =>
  if (gI σ k0z 1) ≤ v3 then
    some (v3, σ)
  else
    bd1 (ixo (k0z + 1) v3) fun j2 =>
    if (gI σ (k0z + 1) j2) < p1 then
      some (v3, σ)
    else
      bd1 (ixo (k0z + 1) v3) fun j5 =>
      if p2 < (gI σ (k0z + 1) j5) then
        some (v3, σ)
      else
        rec1 (v3 + (1 : Int32)) σ
def f_X7_endOfRow (k0 : Nat) (a1 : Int32) (a2 : Int32) (σ : Mem) : Option (Int32 × Mem) :=
  iterF (F_X7_endOfRow_5 k0 a1 a2) (fun _ _ => none) FU (gI σ k0 2) σ
abbrev RM_X7_endOfRow : Room := { frames := 0, cells := 0, slots := 0, locals := 0 }
set_option maxHeartbeats 4000000 in
set_option maxRecDepth 100000 in
theorem w_X7_endOfRow_5 {l : Launch} {G : Gh} {p : Program} {e : Env} {s : State} {m : MethodId} {args : Array Value} {below : List Frame} {meth : Method} {c : Code} (X : Cx G p s m args meth c prog_9_method_14_code RX7 4 (some .int)) {k0z : Nat} {p1 : Int32} {p2 : Int32} (hz0 : kd k0z = 7) {rr : Int32} {σr : Mem} : ∀ (n : Nat) (v3 : Int32) (σ : Mem) (H : Heap) (locs : List Loc) (ls : Array Slot), PW G σ H → va_S (AA G) s.heap H locs → lv_has ls 4 [(0, .ref (ga G k0z)), (1, .int p1), (2, .int p2), (3, .int v3)] → iterF (F_X7_endOfRow_5 k0z p1 p2) (fun _ _ => none) n v3 σ = some (rr, σr) → W p l e RM_X7_endOfRow s m args below meth c H locs 0 0 (MQ below (QG G (some (.int rr)) σr) args s 0 0 (AA G)) (F0 m 5 ls []) := by
  have hx := X.hx
  have hb := X.hb
  intro n
  induction n with
  | zero => intro v3 σ H locs ls hP hS hl h; exact nnone (α := (Int32 × Mem)) h
  | succ n ih1 =>
    intro v3 σ H locs ls hP hS hl h
    have h : F_X7_endOfRow_5 k0z p1 p2 (iterF (F_X7_endOfRow_5 k0z p1 p2) (fun _ _ => none) n) v3 σ = some _ := h
    unfold F_X7_endOfRow_5 at h
    refine lv_iload_n (pc := 5) hx hb dX7_endOfRow_5 rfl (lv_at hl 3 rfl) ?_
    refine lv_aload_n (pc := 6) hx hb dX7_endOfRow_6 rfl (lv_at hl 0 rfl) ?_
    refine gt_X7_15 X hP hz0 dX7_endOfRow_7 ?_
    refine lv_icmp_ge (pc := 10) (tgt := 39) hx hb dX7_endOfRow_10 (by decide) (fun c1 => ?_) (fun c1 => ?_)
    · have h := ipos c1 h
      refine lv_iload_n (pc := 39) hx hb dX7_endOfRow_39 rfl (lv_at hl 3 rfl) ?_
      obtain ⟨rfl, rfl⟩ := inj2 h
      exact r_iret X hP hS dX7_endOfRow_40
    · have h := ineg c1 h
      refine lv_aload_n (pc := 13) hx hb dX7_endOfRow_13 rfl (lv_at hl 0 rfl) ?_
      refine gt_X7_11 X hP hz0 dX7_endOfRow_14 ?_
      refine lv_iload_n (pc := 17) hx hb dX7_endOfRow_17 rfl (lv_at hl 3 rfl) ?_
      obtain ⟨j2, hj3, h⟩ := bnd1 h
      refine r_bald (pc := 18) X hP (kf_7_bytes hz0).1 hj3 dX7_endOfRow_18 ?_
      refine lv_iload_n (pc := 19) hx hb dX7_endOfRow_19 rfl (lv_at hl 1 rfl) ?_
      refine lv_icmp_lt (pc := 20) (tgt := 39) hx hb dX7_endOfRow_20 (by decide) (fun c4 => ?_) (fun c4 => ?_)
      · have h := ipos c4 h
        refine lv_iload_n (pc := 39) hx hb dX7_endOfRow_39 rfl (lv_at hl 3 rfl) ?_
        obtain ⟨rfl, rfl⟩ := inj2 h
        exact r_iret X hP hS dX7_endOfRow_40
      · have h := ineg c4 h
        refine lv_aload_n (pc := 23) hx hb dX7_endOfRow_23 rfl (lv_at hl 0 rfl) ?_
        refine gt_X7_11 X hP hz0 dX7_endOfRow_24 ?_
        refine lv_iload_n (pc := 27) hx hb dX7_endOfRow_27 rfl (lv_at hl 3 rfl) ?_
        obtain ⟨j5, hj6, h⟩ := bnd1 h
        refine r_bald (pc := 28) X hP (kf_7_bytes hz0).1 hj6 dX7_endOfRow_28 ?_
        refine lv_iload_n (pc := 29) hx hb dX7_endOfRow_29 rfl (lv_at hl 2 rfl) ?_
        refine lv_icmp_gt (pc := 30) (tgt := 39) hx hb dX7_endOfRow_30 (by decide) (fun c7 => ?_) (fun c7 => ?_)
        · have h := ipos c7 h
          refine lv_iload_n (pc := 39) hx hb dX7_endOfRow_39 rfl (lv_at hl 3 rfl) ?_
          obtain ⟨rfl, rfl⟩ := inj2 h
          exact r_iret X hP hS dX7_endOfRow_40
        · have h := ineg c7 h
          refine lv_iinc (pc := 33) (v := (v3 + (1 : Int32))) (lv' := [(3, .int (v3 + (1 : Int32))), (0, .ref (ga G k0z)), (1, .int p1), (2, .int p2)]) hx hb dX7_endOfRow_33 hl (k := 3) rfl (congrArg (fun z => v3 + z) (by decide)) (by decide) rfl (fun ls hl => ?_)
          refine lv_goto (pc := 36) (tgt := 5) hx hb dX7_endOfRow_36 (by decide) ?_
          exact ih1 _ _ _ _ _ hP hS (lv_sub hl [1, 2, 3, 0] rfl) h
set_option maxHeartbeats 4000000 in
set_option maxRecDepth 100000 in
theorem c_X7_endOfRow (l : Launch) (G : Gh) {k0 : Nat} {a1 : Int32} {a2 : Int32} {σ : Mem} {rr : Int32} {σr : Mem} (hk0 : kd k0 = 7) (h : f_X7_endOfRow k0 a1 a2 σ = some (rr, σr)) : Met l yX7_endOfRow [Cond.code yX7_endOfRow prog_9_method_14_code 4 (some .int)] RM_X7_endOfRow (va_Pc [.ref (ga G k0), .int a1, .int a2] (Pre G σ)) (QG G (some (.int rr)) σr) 0 0 (AA G) := by
  refine ct_of (by decide) (fun p e s m below meth c X hP => ?_)
  have hx := X.hx
  have hb := X.hb
  have hS : va_S (AA G) s.heap s.heap [] := va_S.rf
  have hl := lv_entry ([.ref (ga G k0), .int a1, .int a2]) (n := 4) (Nat.le_of_ble_eq_true rfl)
  rw [lg_entry_eq]
  generalize (lg_sl ([.ref (ga G k0), .int a1, .int a2]) ++ List.replicate (4 - (lg_sl ([.ref (ga G k0), .int a1, .int a2])).length) Slot.unset).toArray = ls at hl ⊢
  have hl : lv_has ls 4 [(0, .ref (ga G k0)), (1, .int a1), (2, .int a2)] := hl
  unfold f_X7_endOfRow at h
  refine lv_aload_n (pc := 0) hx hb dX7_endOfRow_0 rfl (lv_at hl 0 rfl) ?_
  refine gt_X7_19 X hP hk0 dX7_endOfRow_1 ?_
  refine lv_istore_n (pc := 4) (lv' := [(3, .int (gI σ k0 2)), (0, .ref (ga G k0)), (1, .int a1), (2, .int a2)]) hx hb dX7_endOfRow_4 rfl hl (by decide) rfl (fun ls hl => ?_)
  exact w_X7_endOfRow_5 X hk0  FU _ _ _ _ _ hP hS (lv_sub hl [1, 2, 3, 0] rfl) h
def f_X7_skipBlanks (k0 : Nat) (σ : Mem) : Option Mem :=
  bd2 (f_X7_endOfRow k0 (32 : Int32) (32 : Int32) σ) fun r3 σ1 =>
  bd1 (some (pI σ1 k0 2 r3)) fun σ4 =>
  some σ4
abbrev RM_X7_skipBlanks : Room := { frames := 1, cells := 0, slots := 0, locals := 23 }
set_option maxHeartbeats 4000000 in
set_option maxRecDepth 100000 in
theorem c_X7_skipBlanks (l : Launch) (G : Gh) {k0 : Nat} {σ : Mem} {σr : Mem} (hk0 : kd k0 = 7) (h : f_X7_skipBlanks k0 σ = some σr) : Met l yX7_skipBlanks [Cond.code yX7_skipBlanks prog_9_method_13_code 1 none] RM_X7_skipBlanks (va_Pc [.ref (ga G k0)] (Pre G σ)) (QG G none σr) 0 0 (AA G) := by
  refine ct_of (by decide) (fun p e s m below meth c X hP => ?_)
  have hx := X.hx
  have hb := X.hb
  have hS : va_S (AA G) s.heap s.heap [] := va_S.rf
  have hl := lv_entry ([.ref (ga G k0)]) (n := 1) (Nat.le_of_ble_eq_true rfl)
  rw [lg_entry_eq]
  generalize (lg_sl ([.ref (ga G k0)]) ++ List.replicate (1 - (lg_sl ([.ref (ga G k0)])).length) Slot.unset).toArray = ls at hl ⊢
  have hl : lv_has ls 1 [(0, .ref (ga G k0))] := hl
  unfold f_X7_skipBlanks at h
  refine lv_aload_n (pc := 0) hx hb dX7_skipBlanks_0 rfl (lv_at hl 0 rfl) ?_
  refine lv_aload_n (pc := 1) hx hb dX7_skipBlanks_1 rfl (lv_at hl 0 rfl) ?_
  refine lv_bipush (pc := 2) (v := (32)) hx hb dX7_skipBlanks_2 (by decide) ?_
  refine lv_bipush (pc := 4) (v := (32)) hx hb dX7_skipBlanks_4 (by decide) ?_
  obtain ⟨r3, σ1, e2, h⟩ := bnd2 h
  refine cl_X7_32 X hP hS hk0 (As := [.int (32 : Int32), .int (32 : Int32)]) (rest := [.ref (ga G k0)]) (c_X7_endOfRow l G hk0 e2) ⟨rfl, rfl, Nat.le_of_ble_eq_true rfl, Nat.le_of_ble_eq_true rfl⟩ rfl hl.1 rfl (Nat.le_of_ble_eq_true rfl) ⟨Nat.zero_le _, Nat.zero_le _⟩ (pc := 6) dX7_skipBlanks_6 (fun H locs hP hS => ?_)
  change W p l e _ s m _ below meth c H locs _ _ _ (F0 m (6 + 3) ls (.int r3 :: [.ref (ga G k0)]))
  obtain ⟨σ4, e5, h⟩ := bnd1 h
  refine pt_X7_19 X hP hS hk0 dX7_skipBlanks_9 (fun H locs hP hS => ?_)
  rw [Option.some.inj e5] at hP
  obtain rfl := Option.some.inj h
  exact r_vret X hP hS dX7_skipBlanks_12
def F_X7_readNumber_74 (k0z : Nat) (v1 : Int32) (v2 : Int32) (v3 : Int32) (v4 : Int32) (σ : Mem) : Option (Int32 × Mem) :=
  if v3 ≤ (gI σ k0z 2) then
    bd1 (some (pI σ k0z 3 (gI σ k0z 2))) fun σ10 =>
    some (v1, σ10)
  else
    if ((gI σ k0z 2) + (4 : Int32)) < v3 then
      bd1 (some (pI σ k0z 3 (gI σ k0z 2))) fun σ14 =>
      some (v1, σ14)
    else
      bd2 (f_X9_within v4 v1 v2 σ) fun r18 σ16 =>
      if r18 = (0 : Int32) then
        bd1 (some (pI σ16 k0z 3 (gI σ16 k0z 2))) fun σ21 =>
        some (v1, σ21)
      else
        bd1 (some (pI σ16 k0z 2 v3)) fun σ24 =>
        some (v4, σ24)
def F_X7_readNumber_33 (k0z : Nat) (p1 : Int32) (p2 : Int32) (p3 : Int32) (rec1 : Int32 → Int32 → Mem → Option (Int32 × Mem)) : Int32 → Int32 → Mem → Option (Int32 × Mem) := fun v4 v5 σ =>
  if p3 ≤ v5 then
    F_X7_readNumber_74 k0z p1 p2 p3 v4 σ
  else
    if ((gI σ k0z 2) + (4 : Int32)) ≤ v5 then
      F_X7_readNumber_74 k0z p1 p2 p3 v4 σ
    else
      bd1 (ixo (k0z + 1) v5) fun j27 =>
      rec1 ((v4 * (10 : Int32)) + ((gI σ (k0z + 1) j27) - (48 : Int32))) (v5 + (1 : Int32)) σ
def f_X7_readNumber (k0 : Nat) (a1 : Int32) (a2 : Int32) (σ : Mem) : Option (Int32 × Mem) :=
  if (gI σ k0 3) = (-3 : Int32) then
    bd1 (f_X7_skipBlanks k0 σ) fun σ2 =>
    bd2 (f_X7_endOfRow k0 (48 : Int32) (57 : Int32) σ2) fun r6 σ4 =>
    iterF (F_X7_readNumber_33 k0 a1 a2 r6) (fun _ _ _ => none) FU (0 : Int32) (gI σ4 k0 2) σ4
  else
    some (a1, σ)
abbrev RM_X7_readNumber : Room := { frames := 2, cells := 0, slots := 0, locals := 43 }
set_option maxHeartbeats 4000000 in
set_option maxRecDepth 100000 in
theorem w_X7_readNumber_74 {l : Launch} {G : Gh} {p : Program} {e : Env} {s : State} {m : MethodId} {args : Array Value} {below : List Frame} {meth : Method} {c : Code} (X : Cx G p s m args meth c prog_9_method_11_code RX7 6 (some .int)) {k0z : Nat} (hz0 : kd k0z = 7) {rr : Int32} {σr : Mem} : ∀ (v1 : Int32) (v2 : Int32) (v3 : Int32) (v4 : Int32) (σ : Mem) (H : Heap) (locs : List Loc) (ls : Array Slot), PW G σ H → va_S (AA G) s.heap H locs → lv_has ls 6 [(0, .ref (ga G k0z)), (1, .int v1), (2, .int v2), (3, .int v3), (4, .int v4)] → F_X7_readNumber_74 k0z v1 v2 v3 v4 σ = some (rr, σr) → W p l e RM_X7_readNumber s m args below meth c H locs 0 0 (MQ below (QG G (some (.int rr)) σr) args s 0 0 (AA G)) (F0 m 74 ls []) := by
  have hx := X.hx
  have hb := X.hb
  intro v1 v2 v3 v4 σ H locs ls hP hS hl h
  unfold F_X7_readNumber_74 at h
  refine lv_iload_n (pc := 74) hx hb dX7_readNumber_74 rfl (lv_at hl 3 rfl) ?_
  refine lv_aload_n (pc := 75) hx hb dX7_readNumber_75 rfl (lv_at hl 0 rfl) ?_
  refine gt_X7_19 X hP hz0 dX7_readNumber_76 ?_
  refine lv_icmp_le (pc := 79) (tgt := 106) hx hb dX7_readNumber_79 (by decide) (fun c8 => ?_) (fun c8 => ?_)
  · have h := ipos c8 h
    refine lv_iconst (pc := 106) (v := 0) hx hb dX7_readNumber_106 (by decide) ?_
    refine lv_istore (pc := 107) (lv' := [(5, .int (0 : Int32)), (0, .ref (ga G k0z)), (1, .int v1), (2, .int v2), (3, .int v3), (4, .int v4)]) hx hb dX7_readNumber_107 hl (by decide) rfl (fun ls hl => ?_)
    refine lv_iload (pc := 109) hx hb dX7_readNumber_109 (lv_at hl 0 rfl) ?_
    refine lv_if_ne (pc := 111) (tgt := 124) hx hb dX7_readNumber_111 (by decide) (fun q => absurd q (by decide)) (fun _ => ?_)
    refine lv_aload_n (pc := 114) hx hb dX7_readNumber_114 rfl (lv_at hl 1 rfl) ?_
    refine lv_aload_n (pc := 115) hx hb dX7_readNumber_115 rfl (lv_at hl 1 rfl) ?_
    refine gt_X7_19 X hP hz0 dX7_readNumber_116 ?_
    obtain ⟨σ10, e11, h⟩ := bnd1 h
    refine pt_X7_22 X hP hS hz0 dX7_readNumber_119 (fun H locs hP hS => ?_)
    rw [Option.some.inj e11] at hP
    refine lv_iload_n (pc := 122) hx hb dX7_readNumber_122 rfl (lv_at hl 2 rfl) ?_
    obtain ⟨rfl, rfl⟩ := inj2 h
    exact r_iret X hP hS dX7_readNumber_123
  · have h := ineg c8 h
    refine lv_iload_n (pc := 82) hx hb dX7_readNumber_82 rfl (lv_at hl 3 rfl) ?_
    refine lv_aload_n (pc := 83) hx hb dX7_readNumber_83 rfl (lv_at hl 0 rfl) ?_
    refine gt_X7_19 X hP hz0 dX7_readNumber_84 ?_
    refine lv_iconst (pc := 87) (v := 4) hx hb dX7_readNumber_87 (by decide) ?_
    refine lv_iadd (pc := 88) hx hb dX7_readNumber_88 ?_
    refine lv_icmp_gt (pc := 89) (tgt := 106) hx hb dX7_readNumber_89 (by decide) (fun c12 => ?_) (fun c12 => ?_)
    · have h := ipos c12 h
      refine lv_iconst (pc := 106) (v := 0) hx hb dX7_readNumber_106 (by decide) ?_
      refine lv_istore (pc := 107) (lv' := [(5, .int (0 : Int32)), (0, .ref (ga G k0z)), (1, .int v1), (2, .int v2), (3, .int v3), (4, .int v4)]) hx hb dX7_readNumber_107 hl (by decide) rfl (fun ls hl => ?_)
      refine lv_iload (pc := 109) hx hb dX7_readNumber_109 (lv_at hl 0 rfl) ?_
      refine lv_if_ne (pc := 111) (tgt := 124) hx hb dX7_readNumber_111 (by decide) (fun q => absurd q (by decide)) (fun _ => ?_)
      refine lv_aload_n (pc := 114) hx hb dX7_readNumber_114 rfl (lv_at hl 1 rfl) ?_
      refine lv_aload_n (pc := 115) hx hb dX7_readNumber_115 rfl (lv_at hl 1 rfl) ?_
      refine gt_X7_19 X hP hz0 dX7_readNumber_116 ?_
      obtain ⟨σ14, e15, h⟩ := bnd1 h
      refine pt_X7_22 X hP hS hz0 dX7_readNumber_119 (fun H locs hP hS => ?_)
      rw [Option.some.inj e15] at hP
      refine lv_iload_n (pc := 122) hx hb dX7_readNumber_122 rfl (lv_at hl 2 rfl) ?_
      obtain ⟨rfl, rfl⟩ := inj2 h
      exact r_iret X hP hS dX7_readNumber_123
    · have h := ineg c12 h
      refine lv_iload (pc := 92) hx hb dX7_readNumber_92 (lv_at hl 4 rfl) ?_
      refine lv_iload_n (pc := 94) hx hb dX7_readNumber_94 rfl (lv_at hl 1 rfl) ?_
      refine lv_iload_n (pc := 95) hx hb dX7_readNumber_95 rfl (lv_at hl 2 rfl) ?_
      obtain ⟨r18, σ16, e17, h⟩ := bnd2 h
      refine cl_X7_101 X hP hS (As := [.int v4, .int v1, .int v2]) (rest := []) (c_X9_within l G  e17) ⟨rfl, rfl, Nat.le_of_ble_eq_true rfl, Nat.le_of_ble_eq_true rfl⟩ rfl hl.1 rfl (Nat.le_of_ble_eq_true rfl) ⟨Nat.zero_le _, Nat.zero_le _⟩ (pc := 96) dX7_readNumber_96 (fun H locs hP hS => ?_)
      change W p l e _ s m _ below meth c H locs _ _ _ (F0 m (96 + 3) ls (.int r18 :: []))
      refine lv_if_eq (pc := 99) (tgt := 106) hx hb dX7_readNumber_99 (by decide) (fun c19 => ?_) (fun c19 => ?_)
      · have h := ipos c19 h
        refine lv_iconst (pc := 106) (v := 0) hx hb dX7_readNumber_106 (by decide) ?_
        refine lv_istore (pc := 107) (lv' := [(5, .int (0 : Int32)), (0, .ref (ga G k0z)), (1, .int v1), (2, .int v2), (3, .int v3), (4, .int v4)]) hx hb dX7_readNumber_107 hl (by decide) rfl (fun ls hl => ?_)
        refine lv_iload (pc := 109) hx hb dX7_readNumber_109 (lv_at hl 0 rfl) ?_
        refine lv_if_ne (pc := 111) (tgt := 124) hx hb dX7_readNumber_111 (by decide) (fun q => absurd q (by decide)) (fun _ => ?_)
        refine lv_aload_n (pc := 114) hx hb dX7_readNumber_114 rfl (lv_at hl 1 rfl) ?_
        refine lv_aload_n (pc := 115) hx hb dX7_readNumber_115 rfl (lv_at hl 1 rfl) ?_
        refine gt_X7_19 X hP hz0 dX7_readNumber_116 ?_
        obtain ⟨σ21, e22, h⟩ := bnd1 h
        refine pt_X7_22 X hP hS hz0 dX7_readNumber_119 (fun H locs hP hS => ?_)
        rw [Option.some.inj e22] at hP
        refine lv_iload_n (pc := 122) hx hb dX7_readNumber_122 rfl (lv_at hl 2 rfl) ?_
        obtain ⟨rfl, rfl⟩ := inj2 h
        exact r_iret X hP hS dX7_readNumber_123
      · have h := ineg c19 h
        refine lv_iconst (pc := 102) (v := 1) hx hb dX7_readNumber_102 (by decide) ?_
        refine lv_goto (pc := 103) (tgt := 107) hx hb dX7_readNumber_103 (by decide) ?_
        refine lv_istore (pc := 107) (lv' := [(5, .int (1 : Int32)), (0, .ref (ga G k0z)), (1, .int v1), (2, .int v2), (3, .int v3), (4, .int v4)]) hx hb dX7_readNumber_107 hl (by decide) rfl (fun ls hl => ?_)
        refine lv_iload (pc := 109) hx hb dX7_readNumber_109 (lv_at hl 0 rfl) ?_
        refine lv_if_ne (pc := 111) (tgt := 124) hx hb dX7_readNumber_111 (by decide) (fun _ => ?_) (fun q => absurd q (by decide))
        refine lv_aload_n (pc := 124) hx hb dX7_readNumber_124 rfl (lv_at hl 1 rfl) ?_
        refine lv_iload_n (pc := 125) hx hb dX7_readNumber_125 rfl (lv_at hl 4 rfl) ?_
        obtain ⟨σ24, e25, h⟩ := bnd1 h
        refine pt_X7_19 X hP hS hz0 dX7_readNumber_126 (fun H locs hP hS => ?_)
        rw [Option.some.inj e25] at hP
        refine lv_iload (pc := 129) hx hb dX7_readNumber_129 (lv_at hl 5 rfl) ?_
        obtain ⟨rfl, rfl⟩ := inj2 h
        exact r_iret X hP hS dX7_readNumber_131
set_option maxHeartbeats 4000000 in
set_option maxRecDepth 100000 in
theorem w_X7_readNumber_33 {l : Launch} {G : Gh} {p : Program} {e : Env} {s : State} {m : MethodId} {args : Array Value} {below : List Frame} {meth : Method} {c : Code} (X : Cx G p s m args meth c prog_9_method_11_code RX7 6 (some .int)) {k0z : Nat} {p1 : Int32} {p2 : Int32} {p3 : Int32} (hz0 : kd k0z = 7) {rr : Int32} {σr : Mem} : ∀ (n : Nat) (v4 : Int32) (v5 : Int32) (σ : Mem) (H : Heap) (locs : List Loc) (ls : Array Slot), PW G σ H → va_S (AA G) s.heap H locs → lv_has ls 6 [(0, .ref (ga G k0z)), (1, .int p1), (2, .int p2), (3, .int p3), (4, .int v4), (5, .int v5)] → iterF (F_X7_readNumber_33 k0z p1 p2 p3) (fun _ _ _ => none) n v4 v5 σ = some (rr, σr) → W p l e RM_X7_readNumber s m args below meth c H locs 0 0 (MQ below (QG G (some (.int rr)) σr) args s 0 0 (AA G)) (F0 m 33 ls []) := by
  have hx := X.hx
  have hb := X.hb
  intro n
  induction n with
  | zero => intro v4 v5 σ H locs ls hP hS hl h; exact nnone (α := (Int32 × Mem)) h
  | succ n ih1 =>
    intro v4 v5 σ H locs ls hP hS hl h
    have h : F_X7_readNumber_33 k0z p1 p2 p3 (iterF (F_X7_readNumber_33 k0z p1 p2 p3) (fun _ _ _ => none) n) v4 v5 σ = some _ := h
    unfold F_X7_readNumber_33 at h
    refine lv_iload (pc := 33) hx hb dX7_readNumber_33 (lv_at hl 5 rfl) ?_
    refine lv_iload_n (pc := 35) hx hb dX7_readNumber_35 rfl (lv_at hl 3 rfl) ?_
    refine lv_icmp_ge (pc := 36) (tgt := 74) hx hb dX7_readNumber_36 (by decide) (fun c7 => ?_) (fun c7 => ?_)
    · have h := ipos c7 h
      exact w_X7_readNumber_74 X hz0  _ _ _ _ _ _ _ _ hP hS (lv_sub hl [0, 1, 2, 3, 4] rfl) h
    · have h := ineg c7 h
      refine lv_iload (pc := 39) hx hb dX7_readNumber_39 (lv_at hl 5 rfl) ?_
      refine lv_aload_n (pc := 41) hx hb dX7_readNumber_41 rfl (lv_at hl 0 rfl) ?_
      refine gt_X7_19 X hP hz0 dX7_readNumber_42 ?_
      refine lv_iconst (pc := 45) (v := 4) hx hb dX7_readNumber_45 (by decide) ?_
      refine lv_iadd (pc := 46) hx hb dX7_readNumber_46 ?_
      refine lv_icmp_ge (pc := 47) (tgt := 74) hx hb dX7_readNumber_47 (by decide) (fun c26 => ?_) (fun c26 => ?_)
      · have h := ipos c26 h
        exact w_X7_readNumber_74 X hz0  _ _ _ _ _ _ _ _ hP hS (lv_sub hl [0, 1, 2, 3, 4] rfl) h
      · have h := ineg c26 h
        refine lv_iload (pc := 50) hx hb dX7_readNumber_50 (lv_at hl 4 rfl) ?_
        refine lv_bipush (pc := 52) (v := (10)) hx hb dX7_readNumber_52 (by decide) ?_
        refine lv_imul (pc := 54) hx hb dX7_readNumber_54 ?_
        refine lv_aload_n (pc := 55) hx hb dX7_readNumber_55 rfl (lv_at hl 0 rfl) ?_
        refine gt_X7_11 X hP hz0 dX7_readNumber_56 ?_
        refine lv_iload (pc := 59) hx hb dX7_readNumber_59 (lv_at hl 5 rfl) ?_
        obtain ⟨j27, hj28, h⟩ := bnd1 h
        refine r_bald (pc := 61) X hP (kf_7_bytes hz0).1 hj28 dX7_readNumber_61 ?_
        refine lv_bipush (pc := 62) (v := (48)) hx hb dX7_readNumber_62 (by decide) ?_
        refine lv_isub (pc := 64) hx hb dX7_readNumber_64 ?_
        refine lv_iadd (pc := 65) hx hb dX7_readNumber_65 ?_
        refine lv_istore (pc := 66) (lv' := [(4, .int ((v4 * (10 : Int32)) + ((gI σ (k0z + 1) j27) - (48 : Int32)))), (0, .ref (ga G k0z)), (1, .int p1), (2, .int p2), (3, .int p3), (5, .int v5)]) hx hb dX7_readNumber_66 hl (by decide) rfl (fun ls hl => ?_)
        refine lv_iinc (pc := 68) (v := (v5 + (1 : Int32))) (lv' := [(5, .int (v5 + (1 : Int32))), (4, .int ((v4 * (10 : Int32)) + ((gI σ (k0z + 1) j27) - (48 : Int32)))), (0, .ref (ga G k0z)), (1, .int p1), (2, .int p2), (3, .int p3)]) hx hb dX7_readNumber_68 hl (k := 5) rfl (congrArg (fun z => v5 + z) (by decide)) (by decide) rfl (fun ls hl => ?_)
        refine lv_goto (pc := 71) (tgt := 33) hx hb dX7_readNumber_71 (by decide) ?_
        exact ih1 _ _ _ _ _ _ hP hS (lv_sub hl [2, 3, 4, 5, 1, 0] rfl) h
set_option maxHeartbeats 4000000 in
set_option maxRecDepth 100000 in
theorem c_X7_readNumber (l : Launch) (G : Gh) {k0 : Nat} {a1 : Int32} {a2 : Int32} {σ : Mem} {rr : Int32} {σr : Mem} (hk0 : kd k0 = 7) (h : f_X7_readNumber k0 a1 a2 σ = some (rr, σr)) : Met l yX7_readNumber [Cond.code yX7_readNumber prog_9_method_11_code 6 (some .int)] RM_X7_readNumber (va_Pc [.ref (ga G k0), .int a1, .int a2] (Pre G σ)) (QG G (some (.int rr)) σr) 0 0 (AA G) := by
  refine ct_of (by decide) (fun p e s m below meth c X hP => ?_)
  have hx := X.hx
  have hb := X.hb
  have hS : va_S (AA G) s.heap s.heap [] := va_S.rf
  have hl := lv_entry ([.ref (ga G k0), .int a1, .int a2]) (n := 6) (Nat.le_of_ble_eq_true rfl)
  rw [lg_entry_eq]
  generalize (lg_sl ([.ref (ga G k0), .int a1, .int a2]) ++ List.replicate (6 - (lg_sl ([.ref (ga G k0), .int a1, .int a2])).length) Slot.unset).toArray = ls at hl ⊢
  have hl : lv_has ls 6 [(0, .ref (ga G k0)), (1, .int a1), (2, .int a2)] := hl
  unfold f_X7_readNumber at h
  refine lv_aload_n (pc := 0) hx hb dX7_readNumber_0 rfl (lv_at hl 0 rfl) ?_
  refine gt_X7_22 X hP hk0 dX7_readNumber_1 ?_
  refine lv_bipush (pc := 4) (v := (-3)) hx hb dX7_readNumber_4 (by decide) ?_
  refine lv_icmp_eq (pc := 6) (tgt := 11) hx hb dX7_readNumber_6 (by decide) (fun c1 => ?_) (fun c1 => ?_)
  · have h := ipos c1 h
    refine lv_aload_n (pc := 11) hx hb dX7_readNumber_11 rfl (lv_at hl 0 rfl) ?_
    obtain ⟨σ2, e3, h⟩ := bnd1 h
    refine cl_X7_25 X hP hS hk0 (As := []) (rest := []) (c_X7_skipBlanks l G hk0 e3) ⟨rfl, rfl, Nat.le_of_ble_eq_true rfl, Nat.le_of_ble_eq_true rfl⟩ rfl hl.1 rfl (Nat.le_of_ble_eq_true rfl) ⟨Nat.zero_le _, Nat.zero_le _⟩ (pc := 12) dX7_readNumber_12 (fun H locs hP hS => ?_)
    change W p l e _ s m _ below meth c H locs _ _ _ (F0 m (12 + 3) ls [])
    refine lv_aload_n (pc := 15) hx hb dX7_readNumber_15 rfl (lv_at hl 0 rfl) ?_
    refine lv_bipush (pc := 16) (v := (48)) hx hb dX7_readNumber_16 (by decide) ?_
    refine lv_bipush (pc := 18) (v := (57)) hx hb dX7_readNumber_18 (by decide) ?_
    obtain ⟨r6, σ4, e5, h⟩ := bnd2 h
    refine cl_X7_32 X hP hS hk0 (As := [.int (48 : Int32), .int (57 : Int32)]) (rest := []) (c_X7_endOfRow l G hk0 e5) ⟨rfl, rfl, Nat.le_of_ble_eq_true rfl, Nat.le_of_ble_eq_true rfl⟩ rfl hl.1 rfl (Nat.le_of_ble_eq_true rfl) ⟨Nat.zero_le _, Nat.zero_le _⟩ (pc := 20) dX7_readNumber_20 (fun H locs hP hS => ?_)
    change W p l e _ s m _ below meth c H locs _ _ _ (F0 m (20 + 3) ls (.int r6 :: []))
    refine lv_istore_n (pc := 23) (lv' := [(3, .int r6), (0, .ref (ga G k0)), (1, .int a1), (2, .int a2)]) hx hb dX7_readNumber_23 rfl hl (by decide) rfl (fun ls hl => ?_)
    refine lv_iconst (pc := 24) (v := 0) hx hb dX7_readNumber_24 (by decide) ?_
    refine lv_istore (pc := 25) (lv' := [(4, .int (0 : Int32)), (3, .int r6), (0, .ref (ga G k0)), (1, .int a1), (2, .int a2)]) hx hb dX7_readNumber_25 hl (by decide) rfl (fun ls hl => ?_)
    refine lv_aload_n (pc := 27) hx hb dX7_readNumber_27 rfl (lv_at hl 2 rfl) ?_
    refine gt_X7_19 X hP hk0 dX7_readNumber_28 ?_
    refine lv_istore (pc := 31) (lv' := [(5, .int (gI σ4 k0 2)), (4, .int (0 : Int32)), (3, .int r6), (0, .ref (ga G k0)), (1, .int a1), (2, .int a2)]) hx hb dX7_readNumber_31 hl (by decide) rfl (fun ls hl => ?_)
    exact w_X7_readNumber_33 X hk0  FU _ _ _ _ _ _ hP hS (lv_sub hl [3, 4, 5, 2, 1, 0] rfl) h
  · have h := ineg c1 h
    refine lv_iload_n (pc := 9) hx hb dX7_readNumber_9 rfl (lv_at hl 1 rfl) ?_
    obtain ⟨rfl, rfl⟩ := inj2 h
    exact r_iret X hP hS dX7_readNumber_10
def f_X7_readEndMark (k0 : Nat) (σ : Mem) : Option Mem :=
  if (gI σ k0 3) = (-3 : Int32) then
    bd1 (f_X7_skipBlanks k0 σ) fun σ2 =>
    if (gI σ2 k0 1) ≤ (gI σ2 k0 2) then
      bd1 (some (pI σ2 k0 3 (gI σ2 k0 2))) fun σ5 =>
      some σ5
    else
      bd1 (ixo (k0 + 1) (gI σ2 k0 2)) fun j7 =>
      if (gI σ2 (k0 + 1) j7) = (59 : Int32) then
        bd1 (some (pI σ2 k0 2 ((gI σ2 k0 2) + (1 : Int32)))) fun σ12 =>
        some σ12
      else
        bd1 (some (pI σ2 k0 3 (gI σ2 k0 2))) fun σ10 =>
        some σ10
  else
    some σ
abbrev RM_X7_readEndMark : Room := { frames := 2, cells := 0, slots := 0, locals := 43 }
set_option maxHeartbeats 4000000 in
set_option maxRecDepth 100000 in
theorem c_X7_readEndMark (l : Launch) (G : Gh) {k0 : Nat} {σ : Mem} {σr : Mem} (hk0 : kd k0 = 7) (h : f_X7_readEndMark k0 σ = some σr) : Met l yX7_readEndMark [Cond.code yX7_readEndMark prog_9_method_12_code 1 none] RM_X7_readEndMark (va_Pc [.ref (ga G k0)] (Pre G σ)) (QG G none σr) 0 0 (AA G) := by
  refine ct_of (by decide) (fun p e s m below meth c X hP => ?_)
  have hx := X.hx
  have hb := X.hb
  have hS : va_S (AA G) s.heap s.heap [] := va_S.rf
  have hl := lv_entry ([.ref (ga G k0)]) (n := 1) (Nat.le_of_ble_eq_true rfl)
  rw [lg_entry_eq]
  generalize (lg_sl ([.ref (ga G k0)]) ++ List.replicate (1 - (lg_sl ([.ref (ga G k0)])).length) Slot.unset).toArray = ls at hl ⊢
  have hl : lv_has ls 1 [(0, .ref (ga G k0))] := hl
  unfold f_X7_readEndMark at h
  refine lv_aload_n (pc := 0) hx hb dX7_readEndMark_0 rfl (lv_at hl 0 rfl) ?_
  refine gt_X7_22 X hP hk0 dX7_readEndMark_1 ?_
  refine lv_bipush (pc := 4) (v := (-3)) hx hb dX7_readEndMark_4 (by decide) ?_
  refine lv_icmp_eq (pc := 6) (tgt := 10) hx hb dX7_readEndMark_6 (by decide) (fun c1 => ?_) (fun c1 => ?_)
  · have h := ipos c1 h
    refine lv_aload_n (pc := 10) hx hb dX7_readEndMark_10 rfl (lv_at hl 0 rfl) ?_
    obtain ⟨σ2, e3, h⟩ := bnd1 h
    refine cl_X7_25 X hP hS hk0 (As := []) (rest := []) (c_X7_skipBlanks l G hk0 e3) ⟨rfl, rfl, Nat.le_of_ble_eq_true rfl, Nat.le_of_ble_eq_true rfl⟩ rfl hl.1 rfl (Nat.le_of_ble_eq_true rfl) ⟨Nat.zero_le _, Nat.zero_le _⟩ (pc := 11) dX7_readEndMark_11 (fun H locs hP hS => ?_)
    change W p l e _ s m _ below meth c H locs _ _ _ (F0 m (11 + 3) ls [])
    refine lv_aload_n (pc := 14) hx hb dX7_readEndMark_14 rfl (lv_at hl 0 rfl) ?_
    refine gt_X7_19 X hP hk0 dX7_readEndMark_15 ?_
    refine lv_aload_n (pc := 18) hx hb dX7_readEndMark_18 rfl (lv_at hl 0 rfl) ?_
    refine gt_X7_15 X hP hk0 dX7_readEndMark_19 ?_
    refine lv_icmp_ge (pc := 22) (tgt := 52) hx hb dX7_readEndMark_22 (by decide) (fun c4 => ?_) (fun c4 => ?_)
    · have h := ipos c4 h
      refine lv_aload_n (pc := 52) hx hb dX7_readEndMark_52 rfl (lv_at hl 0 rfl) ?_
      refine lv_aload_n (pc := 53) hx hb dX7_readEndMark_53 rfl (lv_at hl 0 rfl) ?_
      refine gt_X7_19 X hP hk0 dX7_readEndMark_54 ?_
      obtain ⟨σ5, e6, h⟩ := bnd1 h
      refine pt_X7_22 X hP hS hk0 dX7_readEndMark_57 (fun H locs hP hS => ?_)
      rw [Option.some.inj e6] at hP
      obtain rfl := Option.some.inj h
      exact r_vret X hP hS dX7_readEndMark_60
    · have h := ineg c4 h
      refine lv_aload_n (pc := 25) hx hb dX7_readEndMark_25 rfl (lv_at hl 0 rfl) ?_
      refine gt_X7_11 X hP hk0 dX7_readEndMark_26 ?_
      refine lv_aload_n (pc := 29) hx hb dX7_readEndMark_29 rfl (lv_at hl 0 rfl) ?_
      refine gt_X7_19 X hP hk0 dX7_readEndMark_30 ?_
      obtain ⟨j7, hj8, h⟩ := bnd1 h
      refine r_bald (pc := 33) X hP (kf_7_bytes hk0).1 hj8 dX7_readEndMark_33 ?_
      refine lv_bipush (pc := 34) (v := (59)) hx hb dX7_readEndMark_34 (by decide) ?_
      refine lv_icmp_ne (pc := 36) (tgt := 52) hx hb dX7_readEndMark_36 (by decide) (fun c9 => ?_) (fun c9 => ?_)
      · have h := ineg c9 h
        refine lv_aload_n (pc := 52) hx hb dX7_readEndMark_52 rfl (lv_at hl 0 rfl) ?_
        refine lv_aload_n (pc := 53) hx hb dX7_readEndMark_53 rfl (lv_at hl 0 rfl) ?_
        refine gt_X7_19 X hP hk0 dX7_readEndMark_54 ?_
        obtain ⟨σ10, e11, h⟩ := bnd1 h
        refine pt_X7_22 X hP hS hk0 dX7_readEndMark_57 (fun H locs hP hS => ?_)
        rw [Option.some.inj e11] at hP
        obtain rfl := Option.some.inj h
        exact r_vret X hP hS dX7_readEndMark_60
      · have h := ipos c9 h
        refine lv_aload_n (pc := 39) hx hb dX7_readEndMark_39 rfl (lv_at hl 0 rfl) ?_
        refine lv_dup (pc := 40) hx hb dX7_readEndMark_40 rfl ?_
        refine gt_X7_19 X hP hk0 dX7_readEndMark_41 ?_
        refine lv_iconst (pc := 44) (v := 1) hx hb dX7_readEndMark_44 (by decide) ?_
        refine lv_iadd (pc := 45) hx hb dX7_readEndMark_45 ?_
        obtain ⟨σ12, e13, h⟩ := bnd1 h
        refine pt_X7_19 X hP hS hk0 dX7_readEndMark_46 (fun H locs hP hS => ?_)
        rw [Option.some.inj e13] at hP
        refine lv_goto (pc := 49) (tgt := 60) hx hb dX7_readEndMark_49 (by decide) ?_
        obtain rfl := Option.some.inj h
        exact r_vret X hP hS dX7_readEndMark_60
  · have h := ineg c1 h
    obtain rfl := Option.some.inj h
    exact r_vret X hP hS dX7_readEndMark_9
def f_X7_readDraught (k0 : Nat) (a1 : Nat) (σ : Mem) : Option Mem :=
  bd2 (f_X7_readNumber k0 (0 : Int32) (11 : Int32) σ) fun r3 σ1 =>
  bd2 (f_X7_readNumber k0 (0 : Int32) (3 : Int32) σ1) fun r6 σ4 =>
  bd1 (f_X7_readEndMark k0 σ4) fun σ7 =>
  if (gI σ7 k0 3) = (-3 : Int32) then
    bd1 (ixo (a1 + 3) r3) fun j10 =>
    bd1 (some (pI σ7 (a1 + 3) j10 r6)) fun σ12 =>
    some σ12
  else
    some σ7
abbrev RM_X7_readDraught : Room := { frames := 3, cells := 0, slots := 0, locals := 68 }
set_option maxHeartbeats 4000000 in
set_option maxRecDepth 100000 in
theorem c_X7_readDraught (l : Launch) (G : Gh) {k0 : Nat} {a1 : Nat} {σ : Mem} {σr : Mem} (hk0 : kd k0 = 7) (hk1 : kd a1 = 2) (h : f_X7_readDraught k0 a1 σ = some σr) : Met l yX7_readDraught [Cond.code yX7_readDraught prog_9_method_8_code 4 none] RM_X7_readDraught (va_Pc [.ref (ga G k0), .ref (ga G a1)] (Pre G σ)) (QG G none σr) 0 0 (AA G) := by
  refine ct_of (by decide) (fun p e s m below meth c X hP => ?_)
  have hx := X.hx
  have hb := X.hb
  have hS : va_S (AA G) s.heap s.heap [] := va_S.rf
  have hl := lv_entry ([.ref (ga G k0), .ref (ga G a1)]) (n := 4) (Nat.le_of_ble_eq_true rfl)
  rw [lg_entry_eq]
  generalize (lg_sl ([.ref (ga G k0), .ref (ga G a1)]) ++ List.replicate (4 - (lg_sl ([.ref (ga G k0), .ref (ga G a1)])).length) Slot.unset).toArray = ls at hl ⊢
  have hl : lv_has ls 4 [(0, .ref (ga G k0)), (1, .ref (ga G a1))] := hl
  unfold f_X7_readDraught at h
  refine lv_aload_n (pc := 0) hx hb dX7_readDraught_0 rfl (lv_at hl 0 rfl) ?_
  refine lv_iconst (pc := 1) (v := 0) hx hb dX7_readDraught_1 (by decide) ?_
  refine lv_bipush (pc := 2) (v := (11)) hx hb dX7_readDraught_2 (by decide) ?_
  obtain ⟨r3, σ1, e2, h⟩ := bnd2 h
  refine cl_X7_69 X hP hS hk0 (As := [.int (0 : Int32), .int (11 : Int32)]) (rest := []) (c_X7_readNumber l G hk0 e2) ⟨rfl, rfl, Nat.le_of_ble_eq_true rfl, Nat.le_of_ble_eq_true rfl⟩ rfl hl.1 rfl (Nat.le_of_ble_eq_true rfl) ⟨Nat.zero_le _, Nat.zero_le _⟩ (pc := 4) dX7_readDraught_4 (fun H locs hP hS => ?_)
  change W p l e _ s m _ below meth c H locs _ _ _ (F0 m (4 + 3) ls (.int r3 :: []))
  refine lv_istore_n (pc := 7) (lv' := [(2, .int r3), (0, .ref (ga G k0)), (1, .ref (ga G a1))]) hx hb dX7_readDraught_7 rfl hl (by decide) rfl (fun ls hl => ?_)
  refine lv_aload_n (pc := 8) hx hb dX7_readDraught_8 rfl (lv_at hl 1 rfl) ?_
  refine lv_iconst (pc := 9) (v := 0) hx hb dX7_readDraught_9 (by decide) ?_
  refine lv_iconst (pc := 10) (v := 3) hx hb dX7_readDraught_10 (by decide) ?_
  obtain ⟨r6, σ4, e5, h⟩ := bnd2 h
  refine cl_X7_69 X hP hS hk0 (As := [.int (0 : Int32), .int (3 : Int32)]) (rest := []) (c_X7_readNumber l G hk0 e5) ⟨rfl, rfl, Nat.le_of_ble_eq_true rfl, Nat.le_of_ble_eq_true rfl⟩ rfl hl.1 rfl (Nat.le_of_ble_eq_true rfl) ⟨Nat.zero_le _, Nat.zero_le _⟩ (pc := 11) dX7_readDraught_11 (fun H locs hP hS => ?_)
  change W p l e _ s m _ below meth c H locs _ _ _ (F0 m (11 + 3) ls (.int r6 :: []))
  refine lv_istore_n (pc := 14) (lv' := [(3, .int r6), (2, .int r3), (0, .ref (ga G k0)), (1, .ref (ga G a1))]) hx hb dX7_readDraught_14 rfl hl (by decide) rfl (fun ls hl => ?_)
  refine lv_aload_n (pc := 15) hx hb dX7_readDraught_15 rfl (lv_at hl 2 rfl) ?_
  obtain ⟨σ7, e8, h⟩ := bnd1 h
  refine cl_X7_78 X hP hS hk0 (As := []) (rest := []) (c_X7_readEndMark l G hk0 e8) ⟨rfl, rfl, Nat.le_of_ble_eq_true rfl, Nat.le_of_ble_eq_true rfl⟩ rfl hl.1 rfl (Nat.le_of_ble_eq_true rfl) ⟨Nat.zero_le _, Nat.zero_le _⟩ (pc := 16) dX7_readDraught_16 (fun H locs hP hS => ?_)
  change W p l e _ s m _ below meth c H locs _ _ _ (F0 m (16 + 3) ls [])
  refine lv_aload_n (pc := 19) hx hb dX7_readDraught_19 rfl (lv_at hl 2 rfl) ?_
  refine gt_X7_22 X hP hk0 dX7_readDraught_20 ?_
  refine lv_bipush (pc := 23) (v := (-3)) hx hb dX7_readDraught_23 (by decide) ?_
  refine lv_icmp_ne (pc := 25) (tgt := 35) hx hb dX7_readDraught_25 (by decide) (fun c9 => ?_) (fun c9 => ?_)
  · have h := ineg c9 h
    obtain rfl := Option.some.inj h
    exact r_vret X hP hS dX7_readDraught_35
  · have h := ipos c9 h
    refine lv_aload_n (pc := 28) hx hb dX7_readDraught_28 rfl (lv_at hl 3 rfl) ?_
    refine gt_X7_95 X hP hk1 dX7_readDraught_29 ?_
    refine lv_iload_n (pc := 32) hx hb dX7_readDraught_32 rfl (lv_at hl 1 rfl) ?_
    refine lv_iload_n (pc := 33) hx hb dX7_readDraught_33 rfl (lv_at hl 0 rfl) ?_
    obtain ⟨j10, hj11, h⟩ := bnd1 h
    obtain ⟨σ12, e13, h⟩ := bnd1 h
    refine r_iast (pc := 34) X hP hS (kf_2_draughts hk1).1 hj11 dX7_readDraught_34 (fun H locs hP hS => ?_)
    rw [Option.some.inj e13] at hP
    obtain rfl := Option.some.inj h
    exact r_vret X hP hS dX7_readDraught_35
def f_X7_readStep (k0 : Nat) (a1 : Nat) (σ : Mem) : Option Mem :=
  bd2 (f_X7_readNumber k0 (1 : Int32) (20 : Int32) σ) fun r3 σ1 =>
  bd1 (f_X7_readEndMark k0 σ1) fun σ4 =>
  if (gI σ4 k0 3) = (-3 : Int32) then
    bd1 (some (pI σ4 a1 5 r3)) fun σ7 =>
    some σ7
  else
    some σ4
abbrev RM_X7_readStep : Room := { frames := 3, cells := 0, slots := 0, locals := 68 }
set_option maxHeartbeats 4000000 in
set_option maxRecDepth 100000 in
theorem c_X7_readStep (l : Launch) (G : Gh) {k0 : Nat} {a1 : Nat} {σ : Mem} {σr : Mem} (hk0 : kd k0 = 7) (hk1 : kd a1 = 2) (h : f_X7_readStep k0 a1 σ = some σr) : Met l yX7_readStep [Cond.code yX7_readStep prog_9_method_9_code 3 none] RM_X7_readStep (va_Pc [.ref (ga G k0), .ref (ga G a1)] (Pre G σ)) (QG G none σr) 0 0 (AA G) := by
  refine ct_of (by decide) (fun p e s m below meth c X hP => ?_)
  have hx := X.hx
  have hb := X.hb
  have hS : va_S (AA G) s.heap s.heap [] := va_S.rf
  have hl := lv_entry ([.ref (ga G k0), .ref (ga G a1)]) (n := 3) (Nat.le_of_ble_eq_true rfl)
  rw [lg_entry_eq]
  generalize (lg_sl ([.ref (ga G k0), .ref (ga G a1)]) ++ List.replicate (3 - (lg_sl ([.ref (ga G k0), .ref (ga G a1)])).length) Slot.unset).toArray = ls at hl ⊢
  have hl : lv_has ls 3 [(0, .ref (ga G k0)), (1, .ref (ga G a1))] := hl
  unfold f_X7_readStep at h
  refine lv_aload_n (pc := 0) hx hb dX7_readStep_0 rfl (lv_at hl 0 rfl) ?_
  refine lv_iconst (pc := 1) (v := 1) hx hb dX7_readStep_1 (by decide) ?_
  refine lv_bipush (pc := 2) (v := (20)) hx hb dX7_readStep_2 (by decide) ?_
  obtain ⟨r3, σ1, e2, h⟩ := bnd2 h
  refine cl_X7_69 X hP hS hk0 (As := [.int (1 : Int32), .int (20 : Int32)]) (rest := []) (c_X7_readNumber l G hk0 e2) ⟨rfl, rfl, Nat.le_of_ble_eq_true rfl, Nat.le_of_ble_eq_true rfl⟩ rfl hl.1 rfl (Nat.le_of_ble_eq_true rfl) ⟨Nat.zero_le _, Nat.zero_le _⟩ (pc := 4) dX7_readStep_4 (fun H locs hP hS => ?_)
  change W p l e _ s m _ below meth c H locs _ _ _ (F0 m (4 + 3) ls (.int r3 :: []))
  refine lv_istore_n (pc := 7) (lv' := [(2, .int r3), (0, .ref (ga G k0)), (1, .ref (ga G a1))]) hx hb dX7_readStep_7 rfl hl (by decide) rfl (fun ls hl => ?_)
  refine lv_aload_n (pc := 8) hx hb dX7_readStep_8 rfl (lv_at hl 1 rfl) ?_
  obtain ⟨σ4, e5, h⟩ := bnd1 h
  refine cl_X7_78 X hP hS hk0 (As := []) (rest := []) (c_X7_readEndMark l G hk0 e5) ⟨rfl, rfl, Nat.le_of_ble_eq_true rfl, Nat.le_of_ble_eq_true rfl⟩ rfl hl.1 rfl (Nat.le_of_ble_eq_true rfl) ⟨Nat.zero_le _, Nat.zero_le _⟩ (pc := 9) dX7_readStep_9 (fun H locs hP hS => ?_)
  change W p l e _ s m _ below meth c H locs _ _ _ (F0 m (9 + 3) ls [])
  refine lv_aload_n (pc := 12) hx hb dX7_readStep_12 rfl (lv_at hl 1 rfl) ?_
  refine gt_X7_22 X hP hk0 dX7_readStep_13 ?_
  refine lv_bipush (pc := 16) (v := (-3)) hx hb dX7_readStep_16 (by decide) ?_
  refine lv_icmp_ne (pc := 18) (tgt := 26) hx hb dX7_readStep_18 (by decide) (fun c6 => ?_) (fun c6 => ?_)
  · have h := ineg c6 h
    obtain rfl := Option.some.inj h
    exact r_vret X hP hS dX7_readStep_26
  · have h := ipos c6 h
    refine lv_aload_n (pc := 21) hx hb dX7_readStep_21 rfl (lv_at hl 2 rfl) ?_
    refine lv_iload_n (pc := 22) hx hb dX7_readStep_22 rfl (lv_at hl 0 rfl) ?_
    obtain ⟨σ7, e8, h⟩ := bnd1 h
    refine pt_X7_99 X hP hS hk1 dX7_readStep_23 (fun H locs hP hS => ?_)
    rw [Option.some.inj e8] at hP
    obtain rfl := Option.some.inj h
    exact r_vret X hP hS dX7_readStep_26
