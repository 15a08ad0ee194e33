def f_X7_clear (k0 : Nat) (σ : Mem) : Option Mem :=
  bd1 (some (pI σ k0 1 (0 : Int32))) fun σ1 =>
  some σ1
abbrev RM_X7_clear : Room := { frames := 0, cells := 0, slots := 0, locals := 0 }
set_option maxHeartbeats 4000000 in
set_option maxRecDepth 100000 in
theorem c_X7_clear (l : Launch) (G : Gh) {k0 : Nat} {σ : Mem} {σr : Mem} (hk0 : kd k0 = 7) (h : f_X7_clear k0 σ = some σr) : Met l yX7_clear [Cond.code yX7_clear prog_9_method_2_code 1 none] RM_X7_clear (va_Pc [.ref (ga G k0)] (Pre G σ)) (QG G none σr) 0 0 (AA G) := by
  refine ct_of (by decide) (fun p e s m below meth c X hP => ?_)
  have hx := X.hx
  have hb := X.hb
  have hS : va_S (AA G) s.heap s.heap [] := va_S.rf
  have hl := lv_entry ([.ref (ga G k0)]) (n := 1) (Nat.le_of_ble_eq_true rfl)
  rw [lg_entry_eq]
  generalize (lg_sl ([.ref (ga G k0)]) ++ List.replicate (1 - (lg_sl ([.ref (ga G k0)])).length) Slot.unset).toArray = ls at hl ⊢
  have hl : lv_has ls 1 [(0, .ref (ga G k0))] := hl
  unfold f_X7_clear at h
  refine lv_aload_n (pc := 0) hx hb dX7_clear_0 rfl (lv_at hl 0 rfl) ?_
  refine lv_iconst (pc := 1) (v := 0) hx hb dX7_clear_1 (by decide) ?_
  obtain ⟨σ1, e2, h⟩ := bnd1 h
  refine pt_X7_15 X hP hS hk0 dX7_clear_2 (fun H locs hP hS => ?_)
  rw [Option.some.inj e2] at hP
  obtain rfl := Option.some.inj h
  exact r_vret X hP hS dX7_clear_5
def F_X7_takes_18 (k0z : Nat) (p1 : Int64) (p3 : Int32) (rec1 : Int32 → Mem → Option (Int32 × Mem)) : Int32 → Mem → Option (Int32 × Mem) := fun v4 σ =>
  if p3 ≤ v4 then
    bd1 (some (pI σ k0z 1 ((gI σ k0z 1) + p3))) fun σ3 =>
    some ((gI σ3 k0z 1), σ3)
  else
    bd1 (ixo (k0z + 1) ((gI σ k0z 1) + v4)) fun j5 =>
    bd1 (some (pI σ (k0z + 1) j5 (vp_nar .byte (p1 >>> (((8 : Int32) * v4).toInt64 &&& 63)).toInt32.toInt8.toInt32))) fun σ7 =>
    rec1 (v4 + (1 : Int32)) σ7
def f_X7_takes (k0 : Nat) (a1 : Int64) (a3 : Int32) (σ : Mem) : Option (Int32 × Mem) :=
  if ((gI σ k0 1) + a3) ≤ (200 : Int32) then
    iterF (F_X7_takes_18 k0 a1 a3) (fun _ _ => none) FU (0 : Int32) σ
  else
    some ((-2 : Int32), σ)
abbrev RM_X7_takes : Room := { frames := 0, cells := 0, slots := 0, locals := 0 }
set_option maxHeartbeats 4000000 in
set_option maxRecDepth 100000 in
theorem w_X7_takes_18 {l : Launch} {G : Gh} {p : Program} {e : Env} {s : State} {m : MethodId} {args : Array Value} {below : List Frame} {meth : Method} {c : Code} (X : Cx G p s m args meth c prog_9_method_3_code RX7 5 (some .int)) {k0z : Nat} {p1 : Int64} {p3 : Int32} (hz0 : kd k0z = 7) {rr : Int32} {σr : Mem} : ∀ (n : Nat) (v4 : Int32) (σ : Mem) (H : Heap) (locs : List Loc) (ls : Array Slot), PW G σ H → va_S (AA G) s.heap H locs → lv_has ls 5 [(0, .ref (ga G k0z)), (1, .long p1), (3, .int p3), (4, .int v4)] → iterF (F_X7_takes_18 k0z p1 p3) (fun _ _ => none) n v4 σ = some (rr, σr) → W p l e RM_X7_takes s m args below meth c H locs 0 0 (MQ below (QG G (some (.int rr)) σr) args s 0 0 (AA G)) (F0 m 18 ls []) := by
  have hx := X.hx
  have hb := X.hb
  intro n
  induction n with
  | zero => intro v4 σ H locs ls hP hS hl h; exact nnone (α := (Int32 × Mem)) h
  | succ n ih1 =>
    intro v4 σ H locs ls hP hS hl h
    have h : F_X7_takes_18 k0z p1 p3 (iterF (F_X7_takes_18 k0z p1 p3) (fun _ _ => none) n) v4 σ = some _ := h
    unfold F_X7_takes_18 at h
    refine lv_iload (pc := 18) hx hb dX7_takes_18 (lv_at hl 3 rfl) ?_
    refine lv_iload_n (pc := 20) hx hb dX7_takes_20 rfl (lv_at hl 2 rfl) ?_
    refine lv_icmp_ge (pc := 21) (tgt := 51) hx hb dX7_takes_21 (by decide) (fun c2 => ?_) (fun c2 => ?_)
    · have h := ipos c2 h
      refine lv_aload_n (pc := 51) hx hb dX7_takes_51 rfl (lv_at hl 0 rfl) ?_
      refine lv_dup (pc := 52) hx hb dX7_takes_52 rfl ?_
      refine gt_X7_15 X hP hz0 dX7_takes_53 ?_
      refine lv_iload_n (pc := 56) hx hb dX7_takes_56 rfl (lv_at hl 2 rfl) ?_
      refine lv_iadd (pc := 57) hx hb dX7_takes_57 ?_
      obtain ⟨σ3, e4, h⟩ := bnd1 h
      refine pt_X7_15 X hP hS hz0 dX7_takes_58 (fun H locs hP hS => ?_)
      rw [Option.some.inj e4] at hP
      refine lv_aload_n (pc := 61) hx hb dX7_takes_61 rfl (lv_at hl 0 rfl) ?_
      refine gt_X7_15 X hP hz0 dX7_takes_62 ?_
      obtain ⟨rfl, rfl⟩ := inj2 h
      exact r_iret X hP hS dX7_takes_65
    · have h := ineg c2 h
      refine lv_aload_n (pc := 24) hx hb dX7_takes_24 rfl (lv_at hl 0 rfl) ?_
      refine gt_X7_11 X hP hz0 dX7_takes_25 ?_
      refine lv_aload_n (pc := 28) hx hb dX7_takes_28 rfl (lv_at hl 0 rfl) ?_
      refine gt_X7_15 X hP hz0 dX7_takes_29 ?_
      refine lv_iload (pc := 32) hx hb dX7_takes_32 (lv_at hl 3 rfl) ?_
      refine lv_iadd (pc := 34) hx hb dX7_takes_34 ?_
      refine lv_lload_n (pc := 35) hx hb dX7_takes_35 rfl (lv_at hl 1 rfl) ?_
      refine lv_bipush (pc := 36) (v := (8)) hx hb dX7_takes_36 (by decide) ?_
      refine lv_iload (pc := 38) hx hb dX7_takes_38 (lv_at hl 3 rfl) ?_
      refine lv_imul (pc := 40) hx hb dX7_takes_40 ?_
      refine lv_lshr (pc := 41) (v := (p1 >>> (((8 : Int32) * v4).toInt64 &&& 63))) hx hb dX7_takes_41 rfl ?_
      refine lv_l2i (pc := 42) (v := (p1 >>> (((8 : Int32) * v4).toInt64 &&& 63)).toInt32) hx hb dX7_takes_42 rfl ?_
      refine lv_i2b (pc := 43) (v := (p1 >>> (((8 : Int32) * v4).toInt64 &&& 63)).toInt32.toInt8.toInt32) hx hb dX7_takes_43 rfl ?_
      obtain ⟨j5, hj6, h⟩ := bnd1 h
      obtain ⟨σ7, e8, h⟩ := bnd1 h
      refine r_bast (pc := 44) X hP hS (kf_7_bytes hz0).1 hj6 dX7_takes_44 (fun H locs hP hS => ?_)
      rw [Option.some.inj e8] at hP
      refine lv_iinc (pc := 45) (v := (v4 + (1 : Int32))) (lv' := [(4, .int (v4 + (1 : Int32))), (0, .ref (ga G k0z)), (1, .long p1), (3, .int p3)]) hx hb dX7_takes_45 hl (k := 3) rfl (congrArg (fun z => v4 + z) (by decide)) (by decide) rfl (fun ls hl => ?_)
      refine lv_goto (pc := 48) (tgt := 18) hx hb dX7_takes_48 (by decide) ?_
      exact ih1 _ _ _ _ _ hP hS (lv_sub hl [1, 2, 3, 0] rfl) h
set_option maxHeartbeats 4000000 in
set_option maxRecDepth 100000 in
theorem c_X7_takes (l : Launch) (G : Gh) {k0 : Nat} {a1 : Int64} {a3 : Int32} {σ : Mem} {rr : Int32} {σr : Mem} (hk0 : kd k0 = 7) (h : f_X7_takes k0 a1 a3 σ = some (rr, σr)) : Met l yX7_takes [Cond.code yX7_takes prog_9_method_3_code 5 (some .int)] RM_X7_takes (va_Pc [.ref (ga G k0), .long a1, .int a3] (Pre G σ)) (QG G (some (.int rr)) σr) 0 0 (AA G) := by
  refine ct_of (by decide) (fun p e s m below meth c X hP => ?_)
  have hx := X.hx
  have hb := X.hb
  have hS : va_S (AA G) s.heap s.heap [] := va_S.rf
  have hl := lv_entry ([.ref (ga G k0), .long a1, .int a3]) (n := 5) (Nat.le_of_ble_eq_true rfl)
  rw [lg_entry_eq]
  generalize (lg_sl ([.ref (ga G k0), .long a1, .int a3]) ++ List.replicate (5 - (lg_sl ([.ref (ga G k0), .long a1, .int a3])).length) Slot.unset).toArray = ls at hl ⊢
  have hl : lv_has ls 5 [(0, .ref (ga G k0)), (1, .long a1), (3, .int a3)] := hl
  unfold f_X7_takes at h
  refine lv_aload_n (pc := 0) hx hb dX7_takes_0 rfl (lv_at hl 0 rfl) ?_
  refine gt_X7_15 X hP hk0 dX7_takes_1 ?_
  refine lv_iload_n (pc := 4) hx hb dX7_takes_4 rfl (lv_at hl 2 rfl) ?_
  refine lv_iadd (pc := 5) hx hb dX7_takes_5 ?_
  refine lv_sipush (pc := 6) (v := (200)) hx hb dX7_takes_6 (by decide) ?_
  refine lv_icmp_le (pc := 9) (tgt := 15) hx hb dX7_takes_9 (by decide) (fun c1 => ?_) (fun c1 => ?_)
  · have h := ipos c1 h
    refine lv_iconst (pc := 15) (v := 0) hx hb dX7_takes_15 (by decide) ?_
    refine lv_istore (pc := 16) (lv' := [(4, .int (0 : Int32)), (0, .ref (ga G k0)), (1, .long a1), (3, .int a3)]) hx hb dX7_takes_16 hl (by decide) rfl (fun ls hl => ?_)
    exact w_X7_takes_18 X  hk0  FU _ _ _ _ _ hP hS (lv_sub hl [1, 2, 3, 0] rfl) h
  · have h := ineg c1 h
    refine lv_bipush (pc := 12) (v := (-2)) hx hb dX7_takes_12 (by decide) ?_
    obtain ⟨rfl, rfl⟩ := inj2 h
    exact r_iret X hP hS dX7_takes_14
def F_X7_endOfRow_5 (k0z : Nat) (p1 : Int32) (p2 : Int32) (rec1 : Int32 → Mem → Option (Int32 × Mem)) : Int32 → Mem → Option (Int32 × Mem) := fun v3 σ =>
  if (gI σ k0z 1) ≤ v3 then
    some (v3, σ)
  else
    bd1 (ixo (k0z + 1) v3) fun j2 =>
    if (gI σ (k0z + 1) j2) < p1 then
      some (v3, σ)
    else
      bd1 (ixo (k0z + 1) v3) fun j5 =>
      if p2 < (gI σ (k0z + 1) j5) then
        some (v3, σ)
      else
        rec1 (v3 + (1 : Int32)) σ
def f_X7_endOfRow (k0 : Nat) (a1 : Int32) (a2 : Int32) (σ : Mem) : Option (Int32 × Mem) :=
  iterF (F_X7_endOfRow_5 k0 a1 a2) (fun _ _ => none) FU (gI σ k0 2) σ
abbrev RM_X7_endOfRow : Room := { frames := 0, cells := 0, slots := 0, locals := 0 }
set_option maxHeartbeats 4000000 in
set_option maxRecDepth 100000 in
theorem w_X7_endOfRow_5 {l : Launch} {G : Gh} {p : Program} {e : Env} {s : State} {m : MethodId} {args : Array Value} {below : List Frame} {meth : Method} {c : Code} (X : Cx G p s m args meth c prog_9_method_14_code RX7 4 (some .int)) {k0z : Nat} {p1 : Int32} {p2 : Int32} (hz0 : kd k0z = 7) {rr : Int32} {σr : Mem} : ∀ (n : Nat) (v3 : Int32) (σ : Mem) (H : Heap) (locs : List Loc) (ls : Array Slot), PW G σ H → va_S (AA G) s.heap H locs → lv_has ls 4 [(0, .ref (ga G k0z)), (1, .int p1), (2, .int p2), (3, .int v3)] → iterF (F_X7_endOfRow_5 k0z p1 p2) (fun _ _ => none) n v3 σ = some (rr, σr) → W p l e RM_X7_endOfRow s m args below meth c H locs 0 0 (MQ below (QG G (some (.int rr)) σr) args s 0 0 (AA G)) (F0 m 5 ls []) := by
  have hx := X.hx
  have hb := X.hb
  intro n
  induction n with
  | zero => intro v3 σ H locs ls hP hS hl h; exact nnone (α := (Int32 × Mem)) h
  | succ n ih1 =>
    intro v3 σ H locs ls hP hS hl h
    have h : F_X7_endOfRow_5 k0z p1 p2 (iterF (F_X7_endOfRow_5 k0z p1 p2) (fun _ _ => none) n) v3 σ = some _ := h
    unfold F_X7_endOfRow_5 at h
    refine lv_iload_n (pc := 5) hx hb dX7_endOfRow_5 rfl (lv_at hl 3 rfl) ?_
    refine lv_aload_n (pc := 6) hx hb dX7_endOfRow_6 rfl (lv_at hl 0 rfl) ?_
    refine gt_X7_15 X hP hz0 dX7_endOfRow_7 ?_
    refine lv_icmp_ge (pc := 10) (tgt := 39) hx hb dX7_endOfRow_10 (by decide) (fun c1 => ?_) (fun c1 => ?_)
    · have h := ipos c1 h
      refine lv_iload_n (pc := 39) hx hb dX7_endOfRow_39 rfl (lv_at hl 3 rfl) ?_
      obtain ⟨rfl, rfl⟩ := inj2 h
      exact r_iret X hP hS dX7_endOfRow_40
    · have h := ineg c1 h
      refine lv_aload_n (pc := 13) hx hb dX7_endOfRow_13 rfl (lv_at hl 0 rfl) ?_
      refine gt_X7_11 X hP hz0 dX7_endOfRow_14 ?_
      refine lv_iload_n (pc := 17) hx hb dX7_endOfRow_17 rfl (lv_at hl 3 rfl) ?_
      obtain ⟨j2, hj3, h⟩ := bnd1 h
      refine r_bald (pc := 18) X hP (kf_7_bytes hz0).1 hj3 dX7_endOfRow_18 ?_
      refine lv_iload_n (pc := 19) hx hb dX7_endOfRow_19 rfl (lv_at hl 1 rfl) ?_
      refine lv_icmp_lt (pc := 20) (tgt := 39) hx hb dX7_endOfRow_20 (by decide) (fun c4 => ?_) (fun c4 => ?_)
      · have h := ipos c4 h
        refine lv_iload_n (pc := 39) hx hb dX7_endOfRow_39 rfl (lv_at hl 3 rfl) ?_
        obtain ⟨rfl, rfl⟩ := inj2 h
        exact r_iret X hP hS dX7_endOfRow_40
      · have h := ineg c4 h
        refine lv_aload_n (pc := 23) hx hb dX7_endOfRow_23 rfl (lv_at hl 0 rfl) ?_
        refine gt_X7_11 X hP hz0 dX7_endOfRow_24 ?_
        refine lv_iload_n (pc := 27) hx hb dX7_endOfRow_27 rfl (lv_at hl 3 rfl) ?_
        obtain ⟨j5, hj6, h⟩ := bnd1 h
        refine r_bald (pc := 28) X hP (kf_7_bytes hz0).1 hj6 dX7_endOfRow_28 ?_
        refine lv_iload_n (pc := 29) hx hb dX7_endOfRow_29 rfl (lv_at hl 2 rfl) ?_
        refine lv_icmp_gt (pc := 30) (tgt := 39) hx hb dX7_endOfRow_30 (by decide) (fun c7 => ?_) (fun c7 => ?_)
        · have h := ipos c7 h
          refine lv_iload_n (pc := 39) hx hb dX7_endOfRow_39 rfl (lv_at hl 3 rfl) ?_
          obtain ⟨rfl, rfl⟩ := inj2 h
          exact r_iret X hP hS dX7_endOfRow_40
        · have h := ineg c7 h
          refine lv_iinc (pc := 33) (v := (v3 + (1 : Int32))) (lv' := [(3, .int (v3 + (1 : Int32))), (0, .ref (ga G k0z)), (1, .int p1), (2, .int p2)]) hx hb dX7_endOfRow_33 hl (k := 3) rfl (congrArg (fun z => v3 + z) (by decide)) (by decide) rfl (fun ls hl => ?_)
          refine lv_goto (pc := 36) (tgt := 5) hx hb dX7_endOfRow_36 (by decide) ?_
          exact ih1 _ _ _ _ _ hP hS (lv_sub hl [1, 2, 3, 0] rfl) h
set_option maxHeartbeats 4000000 in
set_option maxRecDepth 100000 in
theorem c_X7_endOfRow (l : Launch) (G : Gh) {k0 : Nat} {a1 : Int32} {a2 : Int32} {σ : Mem} {rr : Int32} {σr : Mem} (hk0 : kd k0 = 7) (h : f_X7_endOfRow k0 a1 a2 σ = some (rr, σr)) : Met l yX7_endOfRow [Cond.code yX7_endOfRow prog_9_method_14_code 4 (some .int)] RM_X7_endOfRow (va_Pc [.ref (ga G k0), .int a1, .int a2] (Pre G σ)) (QG G (some (.int rr)) σr) 0 0 (AA G) := by
  refine ct_of (by decide) (fun p e s m below meth c X hP => ?_)
  have hx := X.hx
  have hb := X.hb
  have hS : va_S (AA G) s.heap s.heap [] := va_S.rf
  have hl := lv_entry ([.ref (ga G k0), .int a1, .int a2]) (n := 4) (Nat.le_of_ble_eq_true rfl)
  rw [lg_entry_eq]
  generalize (lg_sl ([.ref (ga G k0), .int a1, .int a2]) ++ List.replicate (4 - (lg_sl ([.ref (ga G k0), .int a1, .int a2])).length) Slot.unset).toArray = ls at hl ⊢
  have hl : lv_has ls 4 [(0, .ref (ga G k0)), (1, .int a1), (2, .int a2)] := hl
  unfold f_X7_endOfRow at h
  refine lv_aload_n (pc := 0) hx hb dX7_endOfRow_0 rfl (lv_at hl 0 rfl) ?_
  refine gt_X7_19 X hP hk0 dX7_endOfRow_1 ?_
  refine lv_istore_n (pc := 4) (lv' := [(3, .int (gI σ k0 2)), (0, .ref (ga G k0)), (1, .int a1), (2, .int a2)]) hx hb dX7_endOfRow_4 rfl hl (by decide) rfl (fun ls hl => ?_)
  exact w_X7_endOfRow_5 X  hk0  FU _ _ _ _ _ hP hS (lv_sub hl [1, 2, 3, 0] rfl) h
def f_X7_skipBlanks (k0 : Nat) (σ : Mem) : Option Mem :=
  bd2 (f_X7_endOfRow k0 (32 : Int32) (32 : Int32) σ) fun r3 σ1 =>
  bd1 (some (pI σ1 k0 2 r3)) fun σ4 =>
  some σ4
abbrev RM_X7_skipBlanks : Room := { frames := 1, cells := 0, slots := 0, locals := 23 }
set_option maxHeartbeats 4000000 in
set_option maxRecDepth 100000 in
theorem c_X7_skipBlanks (l : Launch) (G : Gh) {k0 : Nat} {σ : Mem} {σr : Mem} (hk0 : kd k0 = 7) (h : f_X7_skipBlanks k0 σ = some σr) : Met l yX7_skipBlanks [Cond.code yX7_skipBlanks prog_9_method_13_code 1 none] RM_X7_skipBlanks (va_Pc [.ref (ga G k0)] (Pre G σ)) (QG G none σr) 0 0 (AA G) := by
  refine ct_of (by decide) (fun p e s m below meth c X hP => ?_)
  have hx := X.hx
  have hb := X.hb
  have hS : va_S (AA G) s.heap s.heap [] := va_S.rf
  have hl := lv_entry ([.ref (ga G k0)]) (n := 1) (Nat.le_of_ble_eq_true rfl)
  rw [lg_entry_eq]
  generalize (lg_sl ([.ref (ga G k0)]) ++ List.replicate (1 - (lg_sl ([.ref (ga G k0)])).length) Slot.unset).toArray = ls at hl ⊢
  have hl : lv_has ls 1 [(0, .ref (ga G k0))] := hl
  unfold f_X7_skipBlanks at h
  refine lv_aload_n (pc := 0) hx hb dX7_skipBlanks_0 rfl (lv_at hl 0 rfl) ?_
  refine lv_aload_n (pc := 1) hx hb dX7_skipBlanks_1 rfl (lv_at hl 0 rfl) ?_
  refine lv_bipush (pc := 2) (v := (32)) hx hb dX7_skipBlanks_2 (by decide) ?_
  refine lv_bipush (pc := 4) (v := (32)) hx hb dX7_skipBlanks_4 (by decide) ?_
  obtain ⟨r3, σ1, e2, h⟩ := bnd2 h
  refine cl_X7_32 X hP hS hk0 (As := [.int (32 : Int32), .int (32 : Int32)]) (rest := [.ref (ga G k0)]) (c_X7_endOfRow l G hk0 e2) ⟨rfl, rfl, Nat.le_of_ble_eq_true rfl, Nat.le_of_ble_eq_true rfl⟩ rfl hl.1 rfl (Nat.le_of_ble_eq_true rfl) ⟨Nat.zero_le _, Nat.zero_le _⟩ (pc := 6) dX7_skipBlanks_6 (fun H locs hP hS => ?_)
  change W p l e _ s m _ below meth c H locs _ _ _ (F0 m (6 + 3) ls (.int r3 :: [.ref (ga G k0)]))
  obtain ⟨σ4, e5, h⟩ := bnd1 h
  refine pt_X7_19 X hP hS hk0 dX7_skipBlanks_9 (fun H locs hP hS => ?_)
  rw [Option.some.inj e5] at hP
  obtain rfl := Option.some.inj h
  exact r_vret X hP hS dX7_skipBlanks_12
def f_X7_nameOfKind (a0 : Int32) (σ : Mem) : Option (Nat × Mem) :=
  if a0 = (1 : Int32) then
    some (0, σ)
  else
  if a0 = (2 : Int32) then
    some (1, σ)
  else
  if a0 = (3 : Int32) then
    some (2, σ)
  else
  if a0 = (4 : Int32) then
    some (3, σ)
  else
  if a0 = (5 : Int32) then
    some (4, σ)
  else
  some (5, σ)
abbrev RM_X7_nameOfKind : Room := { frames := 0, cells := 0, slots := 0, locals := 0 }
set_option maxHeartbeats 4000000 in
set_option maxRecDepth 100000 in
theorem c_X7_nameOfKind (l : Launch) (G : Gh) {a0 : Int32} {σ : Mem} {rr : Nat} {σr : Mem} (h : f_X7_nameOfKind a0 σ = some (rr, σr)) : Met l yX7_nameOfKind [Cond.code yX7_nameOfKind prog_9_method_17_code 1 (some (.object "java/lang/String"))] RM_X7_nameOfKind (va_Pc [.int a0] (Pre G σ)) (QG G (some (.ref (G.2.2.2.1 rr))) σr) 0 0 (AA G) := by
  refine ct_of (by decide) (fun p e s m below meth c X hP => ?_)
  have hx := X.hx
  have hb := X.hb
  have hS : va_S (AA G) s.heap s.heap [] := va_S.rf
  have hl := lv_entry ([.int a0]) (n := 1) (Nat.le_of_ble_eq_true rfl)
  rw [lg_entry_eq]
  generalize (lg_sl ([.int a0]) ++ List.replicate (1 - (lg_sl ([.int a0])).length) Slot.unset).toArray = ls at hl ⊢
  have hl : lv_has ls 1 [(0, .int a0)] := hl
  unfold f_X7_nameOfKind at h
  refine lv_iload_n (pc := 0) hx hb dX7_nameOfKind_0 rfl (lv_at hl 0 rfl) ?_
  by_cases c1 : a0 = (1 : Int32)
  · have h := ipos c1 h
    refine r_tabIn X (pc := 1) (tgt := 36) c1 dX7_nameOfKind_1 (by decide) (by decide) rfl (by decide) ?_
    refine va_ldcS (pc := 36) hx hb X.hown (X.hstr.2.1 0 (by decide)) dX7_nameOfKind_36 ?_
    obtain ⟨rfl, rfl⟩ := inj2 h
    exact r_aret (v := .ref (G.2.2.2.1 0)) X hP hS (Or.inr ⟨_, rfl⟩) dX7_nameOfKind_38
  have h := ineg c1 h
  by_cases c2 : a0 = (2 : Int32)
  · have h := ipos c2 h
    refine r_tabIn X (pc := 1) (tgt := 39) c2 dX7_nameOfKind_1 (by decide) (by decide) rfl (by decide) ?_
    refine va_ldcS (pc := 39) hx hb X.hown (X.hstr.2.1 1 (by decide)) dX7_nameOfKind_39 ?_
    obtain ⟨rfl, rfl⟩ := inj2 h
    exact r_aret (v := .ref (G.2.2.2.1 1)) X hP hS (Or.inr ⟨_, rfl⟩) dX7_nameOfKind_41
  have h := ineg c2 h
  by_cases c3 : a0 = (3 : Int32)
  · have h := ipos c3 h
    refine r_tabIn X (pc := 1) (tgt := 42) c3 dX7_nameOfKind_1 (by decide) (by decide) rfl (by decide) ?_
    refine va_ldcS (pc := 42) hx hb X.hown (X.hstr.2.1 2 (by decide)) dX7_nameOfKind_42 ?_
    obtain ⟨rfl, rfl⟩ := inj2 h
    exact r_aret (v := .ref (G.2.2.2.1 2)) X hP hS (Or.inr ⟨_, rfl⟩) dX7_nameOfKind_44
  have h := ineg c3 h
  by_cases c4 : a0 = (4 : Int32)
  · have h := ipos c4 h
    refine r_tabIn X (pc := 1) (tgt := 45) c4 dX7_nameOfKind_1 (by decide) (by decide) rfl (by decide) ?_
    refine va_ldcS (pc := 45) hx hb X.hown (X.hstr.2.1 3 (by decide)) dX7_nameOfKind_45 ?_
    obtain ⟨rfl, rfl⟩ := inj2 h
    exact r_aret (v := .ref (G.2.2.2.1 3)) X hP hS (Or.inr ⟨_, rfl⟩) dX7_nameOfKind_47
  have h := ineg c4 h
  by_cases c5 : a0 = (5 : Int32)
  · have h := ipos c5 h
    refine r_tabIn X (pc := 1) (tgt := 48) c5 dX7_nameOfKind_1 (by decide) (by decide) rfl (by decide) ?_
    refine va_ldcS (pc := 48) hx hb X.hown (X.hstr.2.1 4 (by decide)) dX7_nameOfKind_48 ?_
    obtain ⟨rfl, rfl⟩ := inj2 h
    exact r_aret (v := .ref (G.2.2.2.1 4)) X hP hS (Or.inr ⟨_, rfl⟩) dX7_nameOfKind_50
  have h := ineg c5 h
  refine lv_tableOut (pc := 1) (tgt := 51) hx hb dX7_nameOfKind_1 (by have := lv_neT c1 (a := 1) (by decide); have := lv_neT c2 (a := 2) (by decide); have := lv_neT c3 (a := 3) (by decide); have := lv_neT c4 (a := 4) (by decide); have := lv_neT c5 (a := 5) (by decide); omega) (by decide) ?_
  refine va_ldcS (pc := 51) hx hb X.hown (X.hstr.2.1 5 (by decide)) dX7_nameOfKind_51 ?_
  obtain ⟨rfl, rfl⟩ := inj2 h
  exact r_aret (v := .ref (G.2.2.2.1 5)) X hP hS (Or.inr ⟨_, rfl⟩) dX7_nameOfKind_53
def f_J0_coder_7d493 (k0 : Nat) (σ : Mem) : Option (Int32 × Mem) :=
  grd (vp_nar .byte (0 : Int32) = (0 : Int32)) <|
  some ((0 : Int32), σ)
abbrev RM_J0_coder_7d493 : Room := { frames := 0, cells := 0, slots := 0, locals := 0 }
set_option maxHeartbeats 4000000 in
set_option maxRecDepth 100000 in
theorem c_J0_coder_7d493 (l : Launch) (G : Gh) {k0 : Nat} {σ : Mem} {rr : Int32} {σr : Mem} (hk0 : k0 < 12) (h : f_J0_coder_7d493 k0 σ = some (rr, σr)) : Met l yJ0_coder_7d493 [Cond.code yJ0_coder_7d493 prog_14_method_152_code 1 (some .byte)] RM_J0_coder_7d493 (va_Pc [.ref (G.2.2.2.1 k0)] (Pre G σ)) (QG G (some (.int rr)) σr) 0 0 (AA G) := by
  refine ct_ofF (by decide +kernel) (fun p e s m below meth c X hP => ?_)
  have hx := X.hx
  have hb := X.hb
  have hS : va_S (AA G) s.heap s.heap [] := va_S.rf
  have hl := lv_entry ([.ref (G.2.2.2.1 k0)]) (n := 1) (Nat.le_of_ble_eq_true rfl)
  rw [lg_entry_eq]
  generalize (lg_sl ([.ref (G.2.2.2.1 k0)]) ++ List.replicate (1 - (lg_sl ([.ref (G.2.2.2.1 k0)])).length) Slot.unset).toArray = ls at hl ⊢
  have hl : lv_has ls 1 [(0, .ref (G.2.2.2.1 k0))] := hl
  unfold f_J0_coder_7d493 at h
  refine r_scmp (pc := 0) X hS (X.tb tw_382 rfl) dJ0_coder_7d493_0 ?_
  refine lv_if_eq (pc := 3) (tgt := 13) hx hb dJ0_coder_7d493_3 (by decide) (fun q => absurd q (by decide)) (fun _ => ?_)
  refine lv_aload_n (pc := 6) hx hb dJ0_coder_7d493_6 rfl (lv_at hl 0 rfl) ?_
  refine r_scod (pc := 7) X hS hk0 (X.tb tw_1614 rfl) dJ0_coder_7d493_7 ?_
  refine lv_goto (pc := 10) (tgt := 14) hx hb dJ0_coder_7d493_10 (by decide) ?_
  obtain ⟨g2, h⟩ := grd_inv h
  obtain ⟨rfl, rfl⟩ := inj2 h
  exact r_nret X hP hS (congrArg Value.int g2) dJ0_coder_7d493_14
def f_J0_length_8abf5 (k0 : Nat) (σ : Mem) : Option (Int32 × Mem) :=
  bd2 (f_J0_coder_7d493 k0 σ) fun r3 σ1 =>
  grd (r3 = (0 : Int32)) <|
  some (((Int32.ofNat (sLen k0)) >>> ((0 : Int32) &&& 31)), σ1)
abbrev RM_J0_length_8abf5 : Room := { frames := 1, cells := 0, slots := 0, locals := 20 }
set_option maxHeartbeats 4000000 in
set_option maxRecDepth 100000 in
theorem c_J0_length_8abf5 (l : Launch) (G : Gh) {k0 : Nat} {σ : Mem} {rr : Int32} {σr : Mem} (hk0 : k0 < 12) (h : f_J0_length_8abf5 k0 σ = some (rr, σr)) : Met l yJ0_length_8abf5 [Cond.code yJ0_length_8abf5 prog_14_method_54_code 1 (some .int)] RM_J0_length_8abf5 (va_Pc [.ref (G.2.2.2.1 k0)] (Pre G σ)) (QG G (some (.int rr)) σr) 0 0 (AA G) := by
  refine ct_ofF (by decide +kernel) (fun p e s m below meth c X hP => ?_)
  have hx := X.hx
  have hb := X.hb
  have hS : va_S (AA G) s.heap s.heap [] := va_S.rf
  have hl := lv_entry ([.ref (G.2.2.2.1 k0)]) (n := 1) (Nat.le_of_ble_eq_true rfl)
  rw [lg_entry_eq]
  generalize (lg_sl ([.ref (G.2.2.2.1 k0)]) ++ List.replicate (1 - (lg_sl ([.ref (G.2.2.2.1 k0)])).length) Slot.unset).toArray = ls at hl ⊢
  have hl : lv_has ls 1 [(0, .ref (G.2.2.2.1 k0))] := hl
  unfold f_J0_length_8abf5 at h
  refine lv_aload_n (pc := 0) hx hb dJ0_length_8abf5_0 rfl (lv_at hl 0 rfl) ?_
  refine r_sval (pc := 1) X hS hk0 (X.tb tw_1613 rfl) dJ0_length_8abf5_1 ?_
  refine r_slen (pc := 4) X hS hk0 dJ0_length_8abf5_4 ?_
  refine lv_aload_n (pc := 5) hx hb dJ0_length_8abf5_5 rfl (lv_at hl 0 rfl) ?_
  obtain ⟨r3, σ1, e2, h⟩ := bnd2 h
  obtain ⟨g4, h⟩ := grd_inv h
  rw [g4] at e2
  refine cl_J0_335 X hP hS hk0 (As := []) (rest := [.int (Int32.ofNat (sLen k0))]) (c_J0_coder_7d493 l G hk0 e2) ⟨rfl, rfl, Nat.le_of_ble_eq_true rfl, Nat.le_of_ble_eq_true rfl⟩ rfl hl.1 rfl (Nat.le_of_ble_eq_true rfl) ⟨Nat.zero_le _, Nat.zero_le _⟩ (pc := 6) dJ0_length_8abf5_6 (fun H locs hP hS => ?_)
  change W p l e _ s m _ below meth c H locs _ _ _ (F0 m (6 + 3) ls (.int (0 : Int32) :: [.int (Int32.ofNat (sLen k0))]))
  refine lv_ishr (pc := 9) hx hb dJ0_length_8abf5_9 ?_
  obtain ⟨rfl, rfl⟩ := inj2 h
  exact r_iret X hP hS dJ0_length_8abf5_10
def f_J0_isLatin1_aae02 (k0 : Nat) (σ : Mem) : Option (Int32 × Mem) :=
  some ((1 : Int32), σ)
abbrev RM_J0_isLatin1_aae02 : Room := { frames := 0, cells := 0, slots := 0, locals := 0 }
set_option maxHeartbeats 4000000 in
set_option maxRecDepth 100000 in
theorem c_J0_isLatin1_aae02 (l : Launch) (G : Gh) {k0 : Nat} {σ : Mem} {rr : Int32} {σr : Mem} (hk0 : k0 < 12) (h : f_J0_isLatin1_aae02 k0 σ = some (rr, σr)) : Met l yJ0_isLatin1_aae02 [Cond.code yJ0_isLatin1_aae02 prog_14_method_154_code 1 (some .boolean)] RM_J0_isLatin1_aae02 (va_Pc [.ref (G.2.2.2.1 k0)] (Pre G σ)) (QG G (some (.int rr)) σr) 0 0 (AA G) := by
  refine ct_ofF (by decide +kernel) (fun p e s m below meth c X hP => ?_)
  have hx := X.hx
  have hb := X.hb
  have hS : va_S (AA G) s.heap s.heap [] := va_S.rf
  have hl := lv_entry ([.ref (G.2.2.2.1 k0)]) (n := 1) (Nat.le_of_ble_eq_true rfl)
  rw [lg_entry_eq]
  generalize (lg_sl ([.ref (G.2.2.2.1 k0)]) ++ List.replicate (1 - (lg_sl ([.ref (G.2.2.2.1 k0)])).length) Slot.unset).toArray = ls at hl ⊢
  have hl : lv_has ls 1 [(0, .ref (G.2.2.2.1 k0))] := hl
  unfold f_J0_isLatin1_aae02 at h
  refine r_scmp (pc := 0) X hS (X.tb tw_382 rfl) dJ0_isLatin1_aae02_0 ?_
  refine lv_if_eq (pc := 3) (tgt := 17) hx hb dJ0_isLatin1_aae02_3 (by decide) (fun q => absurd q (by decide)) (fun _ => ?_)
  refine lv_aload_n (pc := 6) hx hb dJ0_isLatin1_aae02_6 rfl (lv_at hl 0 rfl) ?_
  refine r_scod (pc := 7) X hS hk0 (X.tb tw_1614 rfl) dJ0_isLatin1_aae02_7 ?_
  refine lv_if_ne (pc := 10) (tgt := 17) hx hb dJ0_isLatin1_aae02_10 (by decide) (fun q => absurd q (by decide)) (fun _ => ?_)
  refine lv_iconst (pc := 13) (v := 1) hx hb dJ0_isLatin1_aae02_13 (by decide) ?_
  refine lv_goto (pc := 14) (tgt := 18) hx hb dJ0_isLatin1_aae02_14 (by decide) ?_
  obtain ⟨rfl, rfl⟩ := inj2 h
  exact r_zret X hP hS (by decide) dJ0_isLatin1_aae02_18
def f_J3_checkIndex_8e157 (a0 : Int32) (a1 : Int32) (σ : Mem) : Option (Int32 × Mem) :=
  if a0 < (0 : Int32) then
    none
  else
    if a0 < a1 then
      some (a0, σ)
    else
      none
abbrev RM_J3_checkIndex_8e157 : Room := { frames := 0, cells := 0, slots := 0, locals := 0 }
set_option maxHeartbeats 4000000 in
set_option maxRecDepth 100000 in
theorem c_J3_checkIndex_8e157 (l : Launch) (G : Gh) {a0 : Int32} {a1 : Int32} {σ : Mem} {rr : Int32} {σr : Mem} (h : f_J3_checkIndex_8e157 a0 a1 σ = some (rr, σr)) : Met l yJ3_checkIndex_8e157 [Cond.code yJ3_checkIndex_8e157 prog_18_method_11_code 3 (some .int)] RM_J3_checkIndex_8e157 (va_Pc [.int a0, .int a1, (va_rf G.2.2.2.2.2)] (Pre G σ)) (QG G (some (.int rr)) σr) 0 0 (AA G) := by
  refine ct_ofF (by decide +kernel) (fun p e s m below meth c X hP => ?_)
  have hx := X.hx
  have hb := X.hb
  have hS : va_S (AA G) s.heap s.heap [] := va_S.rf
  have hl := lv_entry ([.int a0, .int a1, (va_rf G.2.2.2.2.2)]) (n := 3) (by cases G.2.2.2.2.2 <;> exact Nat.le_of_ble_eq_true rfl)
  rw [lg_entry_eq]
  generalize (lg_sl ([.int a0, .int a1, (va_rf G.2.2.2.2.2)]) ++ List.replicate (3 - (lg_sl ([.int a0, .int a1, (va_rf G.2.2.2.2.2)])).length) Slot.unset).toArray = ls at hl ⊢
  have hl : lv_has ls 3 [(0, .int a0), (1, .int a1), (2, (va_rf G.2.2.2.2.2))] := hl
  unfold f_J3_checkIndex_8e157 at h
  refine lv_iload_n (pc := 0) hx hb dJ3_checkIndex_8e157_0 rfl (lv_at hl 0 rfl) ?_
  refine lv_if_lt (pc := 1) (tgt := 9) hx hb dJ3_checkIndex_8e157_1 (by decide) (fun c1 => ?_) (fun c1 => ?_)
  · have h := ipos c1 h
    exact nnone h
  · have h := ineg c1 h
    refine lv_iload_n (pc := 4) hx hb dJ3_checkIndex_8e157_4 rfl (lv_at hl 0 rfl) ?_
    refine lv_iload_n (pc := 5) hx hb dJ3_checkIndex_8e157_5 rfl (lv_at hl 1 rfl) ?_
    refine lv_icmp_lt (pc := 6) (tgt := 16) hx hb dJ3_checkIndex_8e157_6 (by decide) (fun c2 => ?_) (fun c2 => ?_)
    · have h := ipos c2 h
      refine lv_iload_n (pc := 16) hx hb dJ3_checkIndex_8e157_16 rfl (lv_at hl 0 rfl) ?_
      obtain ⟨rfl, rfl⟩ := inj2 h
      exact r_iret X hP hS dJ3_checkIndex_8e157_17
    · have h := ineg c2 h
      exact nnone h
def f_J0_checkIndex_df160 (a0 : Int32) (a1 : Int32) (σ : Mem) : Option Mem :=
  bd2 (f_J3_checkIndex_8e157 a0 a1 σ) fun r3 σ1 =>
  some σ1
abbrev RM_J0_checkIndex_df160 : Room := { frames := 1, cells := 0, slots := 0, locals := 22 }
set_option maxHeartbeats 4000000 in
set_option maxRecDepth 100000 in
theorem c_J0_checkIndex_df160 (l : Launch) (G : Gh) {a0 : Int32} {a1 : Int32} {σ : Mem} {σr : Mem} (h : f_J0_checkIndex_df160 a0 a1 σ = some σr) : Met l yJ0_checkIndex_df160 [Cond.code yJ0_checkIndex_df160 prog_14_method_155_code 2 none] RM_J0_checkIndex_df160 (va_Pc [.int a0, .int a1] (Pre G σ)) (QG G none σr) 0 0 (AA G) := by
  refine ct_ofF (by decide +kernel) (fun p e s m below meth c X hP => ?_)
  have hx := X.hx
  have hb := X.hb
  have hS : va_S (AA G) s.heap s.heap [] := va_S.rf
  have hl := lv_entry ([.int a0, .int a1]) (n := 2) (Nat.le_of_ble_eq_true rfl)
  rw [lg_entry_eq]
  generalize (lg_sl ([.int a0, .int a1]) ++ List.replicate (2 - (lg_sl ([.int a0, .int a1])).length) Slot.unset).toArray = ls at hl ⊢
  have hl : lv_has ls 2 [(0, .int a0), (1, .int a1)] := hl
  unfold f_J0_checkIndex_df160 at h
  refine lv_iload_n (pc := 0) hx hb dJ0_checkIndex_df160_0 rfl (lv_at hl 0 rfl) ?_
  refine lv_iload_n (pc := 1) hx hb dJ0_checkIndex_df160_1 rfl (lv_at hl 1 rfl) ?_
  refine r_sfmt (pc := 2) X hS (X.tb tw_398 rfl) dJ0_checkIndex_df160_2 ?_
  obtain ⟨r3, σ1, e2, h⟩ := bnd2 h
  refine cl_J0_1059 X hP hS (As := [.int a0, .int a1, (va_rf G.2.2.2.2.2)]) (rest := []) (c_J3_checkIndex_8e157 l G  e2) ⟨rfl, rfl, Nat.le_of_ble_eq_true rfl, Nat.le_of_ble_eq_true rfl⟩ rfl hl.1 rfl (Nat.le_of_ble_eq_true rfl) ⟨Nat.zero_le _, Nat.zero_le _⟩ (pc := 5) dJ0_checkIndex_df160_5 (fun H locs hP hS => ?_)
  change W p l e _ s m _ below meth c H locs _ _ _ (F0 m (5 + 3) ls (.int r3 :: []))
  refine lv_pop (pc := 8) hx hb dJ0_checkIndex_df160_8 rfl ?_
  obtain rfl := Option.some.inj h
  exact r_vret X hP hS dJ0_checkIndex_df160_9
def f_J1_charAt_3b067 (a0 : Nat) (a1 : Int32) (σ : Mem) : Option (Int32 × Mem) :=
  bd1 (f_J0_checkIndex_df160 a1 (Int32.ofNat (sLen a0)) σ) fun σ1 =>
  bd1 (sxo a0 a1) fun j3 =>
  grd (vp_nar .char (((sByt a0 j3) &&& (255 : Int32)).toUInt32 % 65536).toInt32 = (((sByt a0 j3) &&& (255 : Int32)).toUInt32 % 65536).toInt32) <|
  some ((((sByt a0 j3) &&& (255 : Int32)).toUInt32 % 65536).toInt32, σ1)
abbrev RM_J1_charAt_3b067 : Room := { frames := 2, cells := 0, slots := 0, locals := 43 }
set_option maxHeartbeats 4000000 in
set_option maxRecDepth 100000 in
theorem c_J1_charAt_3b067 (l : Launch) (G : Gh) {a0 : Nat} {a1 : Int32} {σ : Mem} {rr : Int32} {σr : Mem} (hk0 : a0 < 12) (h : f_J1_charAt_3b067 a0 a1 σ = some (rr, σr)) : Met l yJ1_charAt_3b067 [Cond.code yJ1_charAt_3b067 prog_15_method_2_code 2 (some .char)] RM_J1_charAt_3b067 (va_Pc [.ref (G.2.2.2.2.1 a0), .int a1] (Pre G σ)) (QG G (some (.int rr)) σr) 0 0 (AA G) := by
  refine ct_ofF (by decide +kernel) (fun p e s m below meth c X hP => ?_)
  have hx := X.hx
  have hb := X.hb
  have hS : va_S (AA G) s.heap s.heap [] := va_S.rf
  have hl := lv_entry ([.ref (G.2.2.2.2.1 a0), .int a1]) (n := 2) (Nat.le_of_ble_eq_true rfl)
  rw [lg_entry_eq]
  generalize (lg_sl ([.ref (G.2.2.2.2.1 a0), .int a1]) ++ List.replicate (2 - (lg_sl ([.ref (G.2.2.2.2.1 a0), .int a1])).length) Slot.unset).toArray = ls at hl ⊢
  have hl : lv_has ls 2 [(0, .ref (G.2.2.2.2.1 a0)), (1, .int a1)] := hl
  unfold f_J1_charAt_3b067 at h
  refine lv_iload_n (pc := 0) hx hb dJ1_charAt_3b067_0 rfl (lv_at hl 1 rfl) ?_
  refine lv_aload_n (pc := 1) hx hb dJ1_charAt_3b067_1 rfl (lv_at hl 0 rfl) ?_
  refine r_slen (pc := 2) X hS hk0 dJ1_charAt_3b067_2 ?_
  obtain ⟨σ1, e2, h⟩ := bnd1 h
  refine cl_J1_9 X hP hS (As := [.int a1, .int (Int32.ofNat (sLen a0))]) (rest := []) (c_J0_checkIndex_df160 l G  e2) ⟨rfl, rfl, Nat.le_of_ble_eq_true rfl, Nat.le_of_ble_eq_true rfl⟩ rfl hl.1 rfl (Nat.le_of_ble_eq_true rfl) ⟨Nat.zero_le _, Nat.zero_le _⟩ (pc := 3) dJ1_charAt_3b067_3 (fun H locs hP hS => ?_)
  change W p l e _ s m _ below meth c H locs _ _ _ (F0 m (3 + 3) ls [])
  refine lv_aload_n (pc := 6) hx hb dJ1_charAt_3b067_6 rfl (lv_at hl 0 rfl) ?_
  refine lv_iload_n (pc := 7) hx hb dJ1_charAt_3b067_7 rfl (lv_at hl 1 rfl) ?_
  obtain ⟨j3, hj4, h⟩ := bnd1 h
  refine r_sbald (pc := 8) X hS hk0 hj4 dJ1_charAt_3b067_8 ?_
  refine lv_sipush (pc := 9) (v := (255)) hx hb dJ1_charAt_3b067_9 (by decide) ?_
  refine lv_iand (pc := 12) hx hb dJ1_charAt_3b067_12 ?_
  refine lv_i2c (pc := 13) (v := (((sByt a0 j3) &&& (255 : Int32)).toUInt32 % 65536).toInt32) hx hb dJ1_charAt_3b067_13 rfl ?_
  obtain ⟨g5, h⟩ := grd_inv h
  obtain ⟨rfl, rfl⟩ := inj2 h
  exact r_nret X hP hS (congrArg Value.int g5) dJ1_charAt_3b067_14
def f_J0_charAt_5068e (k0 : Nat) (a1 : Int32) (σ : Mem) : Option (Int32 × Mem) :=
  bd2 (f_J0_isLatin1_aae02 k0 σ) fun r3 σ1 =>
  grd (r3 = (1 : Int32)) <|
  bd2 (f_J1_charAt_3b067 k0 a1 σ1) fun r8 σ6 =>
  grd (vp_nar .char r8 = r8) <|
  some (r8, σ6)
abbrev RM_J0_charAt_5068e : Room := { frames := 3, cells := 0, slots := 0, locals := 64 }
set_option maxHeartbeats 4000000 in
set_option maxRecDepth 100000 in
theorem c_J0_charAt_5068e (l : Launch) (G : Gh) {k0 : Nat} {a1 : Int32} {σ : Mem} {rr : Int32} {σr : Mem} (hk0 : k0 < 12) (h : f_J0_charAt_5068e k0 a1 σ = some (rr, σr)) : Met l yJ0_charAt_5068e [Cond.code yJ0_charAt_5068e prog_14_method_56_code 2 (some .char)] RM_J0_charAt_5068e (va_Pc [.ref (G.2.2.2.1 k0), .int a1] (Pre G σ)) (QG G (some (.int rr)) σr) 0 0 (AA G) := by
  refine ct_ofF (by decide +kernel) (fun p e s m below meth c X hP => ?_)
  have hx := X.hx
  have hb := X.hb
  have hS : va_S (AA G) s.heap s.heap [] := va_S.rf
  have hl := lv_entry ([.ref (G.2.2.2.1 k0), .int a1]) (n := 2) (Nat.le_of_ble_eq_true rfl)
  rw [lg_entry_eq]
  generalize (lg_sl ([.ref (G.2.2.2.1 k0), .int a1]) ++ List.replicate (2 - (lg_sl ([.ref (G.2.2.2.1 k0), .int a1])).length) Slot.unset).toArray = ls at hl ⊢
  have hl : lv_has ls 2 [(0, .ref (G.2.2.2.1 k0)), (1, .int a1)] := hl
  unfold f_J0_charAt_5068e at h
  refine lv_aload_n (pc := 0) hx hb dJ0_charAt_5068e_0 rfl (lv_at hl 0 rfl) ?_
  obtain ⟨r3, σ1, e2, h⟩ := bnd2 h
  obtain ⟨g4, h⟩ := grd_inv h
  rw [g4] at e2
  refine cl_J0_492 X hP hS hk0 (As := []) (rest := []) (c_J0_isLatin1_aae02 l G hk0 e2) ⟨rfl, rfl, Nat.le_of_ble_eq_true rfl, Nat.le_of_ble_eq_true rfl⟩ rfl hl.1 rfl (Nat.le_of_ble_eq_true rfl) ⟨Nat.zero_le _, Nat.zero_le _⟩ (pc := 1) dJ0_charAt_5068e_1 (fun H locs hP hS => ?_)
  change W p l e _ s m _ below meth c H locs _ _ _ (F0 m (1 + 3) ls (.int (1 : Int32) :: []))
  refine lv_if_eq (pc := 4) (tgt := 16) hx hb dJ0_charAt_5068e_4 (by decide) (fun q => absurd q (by decide)) (fun _ => ?_)
  refine lv_aload_n (pc := 7) hx hb dJ0_charAt_5068e_7 rfl (lv_at hl 0 rfl) ?_
  refine r_sval (pc := 8) X hS hk0 (X.tb tw_1613 rfl) dJ0_charAt_5068e_8 ?_
  refine lv_iload_n (pc := 11) hx hb dJ0_charAt_5068e_11 rfl (lv_at hl 1 rfl) ?_
  obtain ⟨r8, σ6, e7, h⟩ := bnd2 h
  refine cl_J0_495 X hP hS (As := [.ref (G.2.2.2.2.1 k0), .int a1]) (rest := []) (c_J1_charAt_3b067 l G hk0 e7) ⟨rfl, rfl, Nat.le_of_ble_eq_true rfl, Nat.le_of_ble_eq_true rfl⟩ rfl hl.1 rfl (Nat.le_of_ble_eq_true rfl) ⟨Nat.zero_le _, Nat.zero_le _⟩ (pc := 12) dJ0_charAt_5068e_12 (fun H locs hP hS => ?_)
  change W p l e _ s m _ below meth c H locs _ _ _ (F0 m (12 + 3) ls (.int r8 :: []))
  obtain ⟨g9, h⟩ := grd_inv h
  obtain ⟨rfl, rfl⟩ := inj2 h
  exact r_nret X hP hS (congrArg Value.int g9) dJ0_charAt_5068e_15
def F_X7_isName_15 (k0z : Nat) (p1 : Int32) (p2 : Int32) (k3z : Nat) (rec1 : Int32 → Mem → Option (Int32 × Mem)) : Int32 → Mem → Option (Int32 × Mem) := fun v4 σ =>
  if p2 ≤ v4 then
    some ((1 : Int32), σ)
  else
    bd1 (ixo (k0z + 1) v4) fun j6 =>
    bd2 (f_J0_charAt_5068e k3z (v4 - p1) σ) fun r10 σ8 =>
    if (gI σ (k0z + 1) j6) = r10 then
      rec1 (v4 + (1 : Int32)) σ8
    else
      some ((0 : Int32), σ8)
def f_X7_isName (k0 : Nat) (a1 : Int32) (a2 : Int32) (a3 : Nat) (σ : Mem) : Option (Int32 × Mem) :=
  bd2 (f_J0_length_8abf5 a3 σ) fun r3 σ1 =>
  if (a2 - a1) = r3 then
    iterF (F_X7_isName_15 k0 a1 a2 a3) (fun _ _ => none) FU a1 σ1
  else
    some ((0 : Int32), σ1)
abbrev RM_X7_isName : Room := { frames := 4, cells := 0, slots := 0, locals := 85 }
set_option maxHeartbeats 4000000 in
set_option maxRecDepth 100000 in
theorem w_X7_isName_15 {l : Launch} {G : Gh} {p : Program} {e : Env} {s : State} {m : MethodId} {args : Array Value} {below : List Frame} {meth : Method} {c : Code} (X : Cx G p s m args meth c prog_9_method_15_code RX7 5 (some .boolean)) {k0z : Nat} {p1 : Int32} {p2 : Int32} {k3z : Nat} (hz0 : kd k0z = 7) (hz3 : k3z < 12) {rr : Int32} {σr : Mem} : ∀ (n : Nat) (v4 : Int32) (σ : Mem) (H : Heap) (locs : List Loc) (ls : Array Slot), PW G σ H → va_S (AA G) s.heap H locs → lv_has ls 5 [(0, .ref (ga G k0z)), (1, .int p1), (2, .int p2), (3, .ref (G.2.2.2.1 k3z)), (4, .int v4)] → iterF (F_X7_isName_15 k0z p1 p2 k3z) (fun _ _ => none) n v4 σ = some (rr, σr) → W p l e RM_X7_isName s m args below meth c H locs 0 0 (MQ below (QG G (some (.int rr)) σr) args s 0 0 (AA G)) (F0 m 15 ls []) := by
  have hx := X.hx
  have hb := X.hb
  intro n
  induction n with
  | zero => intro v4 σ H locs ls hP hS hl h; exact nnone (α := (Int32 × Mem)) h
  | succ n ih1 =>
    intro v4 σ H locs ls hP hS hl h
    have h : F_X7_isName_15 k0z p1 p2 k3z (iterF (F_X7_isName_15 k0z p1 p2 k3z) (fun _ _ => none) n) v4 σ = some _ := h
    unfold F_X7_isName_15 at h
    refine lv_iload (pc := 15) hx hb dX7_isName_15 (lv_at hl 4 rfl) ?_
    refine lv_iload_n (pc := 17) hx hb dX7_isName_17 rfl (lv_at hl 2 rfl) ?_
    refine lv_icmp_ge (pc := 18) (tgt := 47) hx hb dX7_isName_18 (by decide) (fun c5 => ?_) (fun c5 => ?_)
    · have h := ipos c5 h
      refine lv_iconst (pc := 47) (v := 1) hx hb dX7_isName_47 (by decide) ?_
      obtain ⟨rfl, rfl⟩ := inj2 h
      exact r_zret X hP hS (by decide) dX7_isName_48
    · have h := ineg c5 h
      refine lv_aload_n (pc := 21) hx hb dX7_isName_21 rfl (lv_at hl 0 rfl) ?_
      refine gt_X7_11 X hP hz0 dX7_isName_22 ?_
      refine lv_iload (pc := 25) hx hb dX7_isName_25 (lv_at hl 4 rfl) ?_
      obtain ⟨j6, hj7, h⟩ := bnd1 h
      refine r_bald (pc := 27) X hP (kf_7_bytes hz0).1 hj7 dX7_isName_27 ?_
      refine lv_aload_n (pc := 28) hx hb dX7_isName_28 rfl (lv_at hl 3 rfl) ?_
      refine lv_iload (pc := 29) hx hb dX7_isName_29 (lv_at hl 4 rfl) ?_
      refine lv_iload_n (pc := 31) hx hb dX7_isName_31 rfl (lv_at hl 1 rfl) ?_
      refine lv_isub (pc := 32) hx hb dX7_isName_32 ?_
      obtain ⟨r10, σ8, e9, h⟩ := bnd2 h
      refine cl_X7_111 X hP hS hz3 (As := [.int (v4 - p1)]) (rest := [.int (gI σ (k0z + 1) j6)]) (c_J0_charAt_5068e l G hz3 e9) ⟨rfl, rfl, Nat.le_of_ble_eq_true rfl, Nat.le_of_ble_eq_true rfl⟩ rfl hl.1 rfl (Nat.le_of_ble_eq_true rfl) ⟨Nat.zero_le _, Nat.zero_le _⟩ (pc := 33) dX7_isName_33 (fun H locs hP hS => ?_)
      change W p l e _ s m _ below meth c H locs _ _ _ (F0 m (33 + 3) ls (.int r10 :: [.int (gI σ (k0z + 1) j6)]))
      refine lv_icmp_eq (pc := 36) (tgt := 41) hx hb dX7_isName_36 (by decide) (fun c11 => ?_) (fun c11 => ?_)
      · have h := ipos c11 h
        refine lv_iinc (pc := 41) (v := (v4 + (1 : Int32))) (lv' := [(4, .int (v4 + (1 : Int32))), (0, .ref (ga G k0z)), (1, .int p1), (2, .int p2), (3, .ref (G.2.2.2.1 k3z))]) hx hb dX7_isName_41 hl (k := 4) rfl (congrArg (fun z => v4 + z) (by decide)) (by decide) rfl (fun ls hl => ?_)
        refine lv_goto (pc := 44) (tgt := 15) hx hb dX7_isName_44 (by decide) ?_
        exact ih1 _ _ _ _ _ hP hS (lv_sub hl [1, 2, 3, 4, 0] rfl) h
      · have h := ineg c11 h
        refine lv_iconst (pc := 39) (v := 0) hx hb dX7_isName_39 (by decide) ?_
        obtain ⟨rfl, rfl⟩ := inj2 h
        exact r_zret X hP hS (by decide) dX7_isName_40
set_option maxHeartbeats 4000000 in
set_option maxRecDepth 100000 in
theorem c_X7_isName (l : Launch) (G : Gh) {k0 : Nat} {a1 : Int32} {a2 : Int32} {a3 : Nat} {σ : Mem} {rr : Int32} {σr : Mem} (hk0 : kd k0 = 7) (hk3 : a3 < 12) (h : f_X7_isName k0 a1 a2 a3 σ = some (rr, σr)) : Met l yX7_isName [Cond.code yX7_isName prog_9_method_15_code 5 (some .boolean)] RM_X7_isName (va_Pc [.ref (ga G k0), .int a1, .int a2, .ref (G.2.2.2.1 a3)] (Pre G σ)) (QG G (some (.int rr)) σr) 0 0 (AA G) := by
  refine ct_of (by decide) (fun p e s m below meth c X hP => ?_)
  have hx := X.hx
  have hb := X.hb
  have hS : va_S (AA G) s.heap s.heap [] := va_S.rf
  have hl := lv_entry ([.ref (ga G k0), .int a1, .int a2, .ref (G.2.2.2.1 a3)]) (n := 5) (Nat.le_of_ble_eq_true rfl)
  rw [lg_entry_eq]
  generalize (lg_sl ([.ref (ga G k0), .int a1, .int a2, .ref (G.2.2.2.1 a3)]) ++ List.replicate (5 - (lg_sl ([.ref (ga G k0), .int a1, .int a2, .ref (G.2.2.2.1 a3)])).length) Slot.unset).toArray = ls at hl ⊢
  have hl : lv_has ls 5 [(0, .ref (ga G k0)), (1, .int a1), (2, .int a2), (3, .ref (G.2.2.2.1 a3))] := hl
  unfold f_X7_isName at h
  refine lv_iload_n (pc := 0) hx hb dX7_isName_0 rfl (lv_at hl 2 rfl) ?_
  refine lv_iload_n (pc := 1) hx hb dX7_isName_1 rfl (lv_at hl 1 rfl) ?_
  refine lv_isub (pc := 2) hx hb dX7_isName_2 ?_
  refine lv_aload_n (pc := 3) hx hb dX7_isName_3 rfl (lv_at hl 3 rfl) ?_
  obtain ⟨r3, σ1, e2, h⟩ := bnd2 h
  refine cl_X7_105 X hP hS hk3 (As := []) (rest := [.int (a2 - a1)]) (c_J0_length_8abf5 l G hk3 e2) ⟨rfl, rfl, Nat.le_of_ble_eq_true rfl, Nat.le_of_ble_eq_true rfl⟩ rfl hl.1 rfl (Nat.le_of_ble_eq_true rfl) ⟨Nat.zero_le _, Nat.zero_le _⟩ (pc := 4) dX7_isName_4 (fun H locs hP hS => ?_)
  change W p l e _ s m _ below meth c H locs _ _ _ (F0 m (4 + 3) ls (.int r3 :: [.int (a2 - a1)]))
  refine lv_icmp_eq (pc := 7) (tgt := 12) hx hb dX7_isName_7 (by decide) (fun c4 => ?_) (fun c4 => ?_)
  · have h := ipos c4 h
    refine lv_iload_n (pc := 12) hx hb dX7_isName_12 rfl (lv_at hl 1 rfl) ?_
    refine lv_istore (pc := 13) (lv' := [(4, .int a1), (0, .ref (ga G k0)), (1, .int a1), (2, .int a2), (3, .ref (G.2.2.2.1 a3))]) hx hb dX7_isName_13 hl (by decide) rfl (fun ls hl => ?_)
    exact w_X7_isName_15 X  hk0 hk3  FU _ _ _ _ _ hP hS (lv_sub hl [1, 2, 3, 4, 0] rfl) h
  · have h := ineg c4 h
    refine lv_iconst (pc := 10) (v := 0) hx hb dX7_isName_10 (by decide) ?_
    obtain ⟨rfl, rfl⟩ := inj2 h
    exact r_zret X hP hS (by decide) dX7_isName_11
def F_X7_kindNamed_2 (k0z : Nat) (p1 : Int32) (p2 : Int32) (rec1 : Int32 → Mem → Option (Int32 × Mem)) : Int32 → Mem → Option (Int32 × Mem) := fun v3 σ =>
  if (6 : Int32) ≤ v3 then
    some ((-3 : Int32), σ)
  else
    bd2 (f_X7_nameOfKind v3 σ) fun r4 σ2 =>
    grd (r4 < 12) <|
    bd2 (f_X7_isName k0z p1 p2 r4 σ2) fun r8 σ6 =>
    if r8 = (0 : Int32) then
      rec1 (v3 + (1 : Int32)) σ6
    else
      some (v3, σ6)
def f_X7_kindNamed (k0 : Nat) (a1 : Int32) (a2 : Int32) (σ : Mem) : Option (Int32 × Mem) :=
  iterF (F_X7_kindNamed_2 k0 a1 a2) (fun _ _ => none) FU (0 : Int32) σ
abbrev RM_X7_kindNamed : Room := { frames := 5, cells := 0, slots := 0, locals := 109 }
set_option maxHeartbeats 4000000 in
set_option maxRecDepth 100000 in
theorem w_X7_kindNamed_2 {l : Launch} {G : Gh} {p : Program} {e : Env} {s : State} {m : MethodId} {args : Array Value} {below : List Frame} {meth : Method} {c : Code} (X : Cx G p s m args meth c prog_9_method_16_code RX7 4 (some .int)) {k0z : Nat} {p1 : Int32} {p2 : Int32} (hz0 : kd k0z = 7) {rr : Int32} {σr : Mem} : ∀ (n : Nat) (v3 : Int32) (σ : Mem) (H : Heap) (locs : List Loc) (ls : Array Slot), PW G σ H → va_S (AA G) s.heap H locs → lv_has ls 4 [(0, .ref (ga G k0z)), (1, .int p1), (2, .int p2), (3, .int v3)] → iterF (F_X7_kindNamed_2 k0z p1 p2) (fun _ _ => none) n v3 σ = some (rr, σr) → W p l e RM_X7_kindNamed s m args below meth c H locs 0 0 (MQ below (QG G (some (.int rr)) σr) args s 0 0 (AA G)) (F0 m 2 ls []) := by
  have hx := X.hx
  have hb := X.hb
  intro n
  induction n with
  | zero => intro v3 σ H locs ls hP hS hl h; exact nnone (α := (Int32 × Mem)) h
  | succ n ih1 =>
    intro v3 σ H locs ls hP hS hl h
    have h : F_X7_kindNamed_2 k0z p1 p2 (iterF (F_X7_kindNamed_2 k0z p1 p2) (fun _ _ => none) n) v3 σ = some _ := h
    unfold F_X7_kindNamed_2 at h
    refine lv_iload_n (pc := 2) hx hb dX7_kindNamed_2 rfl (lv_at hl 3 rfl) ?_
    refine lv_bipush (pc := 3) (v := (6)) hx hb dX7_kindNamed_3 (by decide) ?_
    refine lv_icmp_ge (pc := 5) (tgt := 29) hx hb dX7_kindNamed_5 (by decide) (fun c1 => ?_) (fun c1 => ?_)
    · have h := ipos c1 h
      refine lv_bipush (pc := 29) (v := (-3)) hx hb dX7_kindNamed_29 (by decide) ?_
      obtain ⟨rfl, rfl⟩ := inj2 h
      exact r_iret X hP hS dX7_kindNamed_31
    · have h := ineg c1 h
      refine lv_aload_n (pc := 8) hx hb dX7_kindNamed_8 rfl (lv_at hl 0 rfl) ?_
      refine lv_iload_n (pc := 9) hx hb dX7_kindNamed_9 rfl (lv_at hl 1 rfl) ?_
      refine lv_iload_n (pc := 10) hx hb dX7_kindNamed_10 rfl (lv_at hl 2 rfl) ?_
      refine lv_iload_n (pc := 11) hx hb dX7_kindNamed_11 rfl (lv_at hl 3 rfl) ?_
      obtain ⟨r4, σ2, e3, h⟩ := bnd2 h
      obtain ⟨g5, h⟩ := grd_inv h
      refine cl_X7_115 X hP hS (As := [.int v3]) (rest := [.int p2, .int p1, .ref (ga G k0z)]) (c_X7_nameOfKind l G  e3) ⟨rfl, rfl, Nat.le_of_ble_eq_true rfl, Nat.le_of_ble_eq_true rfl⟩ rfl hl.1 rfl (Nat.le_of_ble_eq_true rfl) ⟨Nat.zero_le _, Nat.zero_le _⟩ (pc := 12) dX7_kindNamed_12 (fun H locs hP hS => ?_)
      change W p l e _ s m _ below meth c H locs _ _ _ (F0 m (12 + 3) ls (.ref (G.2.2.2.1 r4) :: [.int p2, .int p1, .ref (ga G k0z)]))
      obtain ⟨r8, σ6, e7, h⟩ := bnd2 h
      refine cl_X7_42 X hP hS hz0 (As := [.int p1, .int p2, .ref (G.2.2.2.1 r4)]) (rest := []) (c_X7_isName l G hz0 g5 e7) ⟨rfl, rfl, Nat.le_of_ble_eq_true rfl, Nat.le_of_ble_eq_true rfl⟩ rfl hl.1 rfl (Nat.le_of_ble_eq_true rfl) ⟨Nat.zero_le _, Nat.zero_le _⟩ (pc := 15) dX7_kindNamed_15 (fun H locs hP hS => ?_)
      change W p l e _ s m _ below meth c H locs _ _ _ (F0 m (15 + 3) ls (.int r8 :: []))
      refine lv_if_eq (pc := 18) (tgt := 23) hx hb dX7_kindNamed_18 (by decide) (fun c9 => ?_) (fun c9 => ?_)
      · have h := ipos c9 h
        refine lv_iinc (pc := 23) (v := (v3 + (1 : Int32))) (lv' := [(3, .int (v3 + (1 : Int32))), (0, .ref (ga G k0z)), (1, .int p1), (2, .int p2)]) hx hb dX7_kindNamed_23 hl (k := 3) rfl (congrArg (fun z => v3 + z) (by decide)) (by decide) rfl (fun ls hl => ?_)
        refine lv_goto (pc := 26) (tgt := 2) hx hb dX7_kindNamed_26 (by decide) ?_
        exact ih1 _ _ _ _ _ hP hS (lv_sub hl [1, 2, 3, 0] rfl) h
      · have h := ineg c9 h
        refine lv_iload_n (pc := 21) hx hb dX7_kindNamed_21 rfl (lv_at hl 3 rfl) ?_
        obtain ⟨rfl, rfl⟩ := inj2 h
        exact r_iret X hP hS dX7_kindNamed_22
set_option maxHeartbeats 4000000 in
set_option maxRecDepth 100000 in
theorem c_X7_kindNamed (l : Launch) (G : Gh) {k0 : Nat} {a1 : Int32} {a2 : Int32} {σ : Mem} {rr : Int32} {σr : Mem} (hk0 : kd k0 = 7) (h : f_X7_kindNamed k0 a1 a2 σ = some (rr, σr)) : Met l yX7_kindNamed [Cond.code yX7_kindNamed prog_9_method_16_code 4 (some .int)] RM_X7_kindNamed (va_Pc [.ref (ga G k0), .int a1, .int a2] (Pre G σ)) (QG G (some (.int rr)) σr) 0 0 (AA G) := by
  refine ct_of (by decide) (fun p e s m below meth c X hP => ?_)
  have hx := X.hx
  have hb := X.hb
  have hS : va_S (AA G) s.heap s.heap [] := va_S.rf
  have hl := lv_entry ([.ref (ga G k0), .int a1, .int a2]) (n := 4) (Nat.le_of_ble_eq_true rfl)
  rw [lg_entry_eq]
  generalize (lg_sl ([.ref (ga G k0), .int a1, .int a2]) ++ List.replicate (4 - (lg_sl ([.ref (ga G k0), .int a1, .int a2])).length) Slot.unset).toArray = ls at hl ⊢
  have hl : lv_has ls 4 [(0, .ref (ga G k0)), (1, .int a1), (2, .int a2)] := hl
  unfold f_X7_kindNamed at h
  refine lv_iconst (pc := 0) (v := 0) hx hb dX7_kindNamed_0 (by decide) ?_
  refine lv_istore_n (pc := 1) (lv' := [(3, .int (0 : Int32)), (0, .ref (ga G k0)), (1, .int a1), (2, .int a2)]) hx hb dX7_kindNamed_1 rfl hl (by decide) rfl (fun ls hl => ?_)
  exact w_X7_kindNamed_2 X  hk0  FU _ _ _ _ _ hP hS (lv_sub hl [1, 2, 3, 0] rfl) h
def F_X7_readNumber_74 (k0z : Nat) (v1 : Int32) (v2 : Int32) (v3 : Int32) (v4 : Int32) (σ : Mem) : Option (Int32 × Mem) :=
  if v3 ≤ (gI σ k0z 2) then
    bd1 (some (pI σ k0z 3 (gI σ k0z 2))) fun σ10 =>
    some (v1, σ10)
  else
    if ((gI σ k0z 2) + (4 : Int32)) < v3 then
      bd1 (some (pI σ k0z 3 (gI σ k0z 2))) fun σ14 =>
      some (v1, σ14)
    else
      bd2 (f_X9_within v4 v1 v2 σ) fun r18 σ16 =>
      if r18 = (0 : Int32) then
        bd1 (some (pI σ16 k0z 3 (gI σ16 k0z 2))) fun σ21 =>
        some (v1, σ21)
      else
        bd1 (some (pI σ16 k0z 2 v3)) fun σ24 =>
        some (v4, σ24)
def F_X7_readNumber_33 (k0z : Nat) (p1 : Int32) (p2 : Int32) (p3 : Int32) (rec1 : Int32 → Int32 → Mem → Option (Int32 × Mem)) : Int32 → Int32 → Mem → Option (Int32 × Mem) := fun v4 v5 σ =>
  if p3 ≤ v5 then
    F_X7_readNumber_74 k0z p1 p2 p3 v4 σ
  else
    if ((gI σ k0z 2) + (4 : Int32)) ≤ v5 then
      F_X7_readNumber_74 k0z p1 p2 p3 v4 σ
    else
      bd1 (ixo (k0z + 1) v5) fun j27 =>
      rec1 ((v4 * (10 : Int32)) + ((gI σ (k0z + 1) j27) - (48 : Int32))) (v5 + (1 : Int32)) σ
def f_X7_readNumber (k0 : Nat) (a1 : Int32) (a2 : Int32) (σ : Mem) : Option (Int32 × Mem) :=
  if (gI σ k0 3) = (-3 : Int32) then
    bd1 (f_X7_skipBlanks k0 σ) fun σ2 =>
    bd2 (f_X7_endOfRow k0 (48 : Int32) (57 : Int32) σ2) fun r6 σ4 =>
    iterF (F_X7_readNumber_33 k0 a1 a2 r6) (fun _ _ _ => none) FU (0 : Int32) (gI σ4 k0 2) σ4
  else
    some (a1, σ)
abbrev RM_X7_readNumber : Room := { frames := 2, cells := 0, slots := 0, locals := 43 }
set_option maxHeartbeats 4000000 in
set_option maxRecDepth 100000 in
theorem w_X7_readNumber_74 {l : Launch} {G : Gh} {p : Program} {e : Env} {s : State} {m : MethodId} {args : Array Value} {below : List Frame} {meth : Method} {c : Code} (X : Cx G p s m args meth c prog_9_method_11_code RX7 6 (some .int)) {k0z : Nat} (hz0 : kd k0z = 7) {rr : Int32} {σr : Mem} : ∀ (v1 : Int32) (v2 : Int32) (v3 : Int32) (v4 : Int32) (σ : Mem) (H : Heap) (locs : List Loc) (ls : Array Slot), PW G σ H → va_S (AA G) s.heap H locs → lv_has ls 6 [(0, .ref (ga G k0z)), (1, .int v1), (2, .int v2), (3, .int v3), (4, .int v4)] → F_X7_readNumber_74 k0z v1 v2 v3 v4 σ = some (rr, σr) → W p l e RM_X7_readNumber s m args below meth c H locs 0 0 (MQ below (QG G (some (.int rr)) σr) args s 0 0 (AA G)) (F0 m 74 ls []) := by
  have hx := X.hx
  have hb := X.hb
  intro v1 v2 v3 v4 σ H locs ls hP hS hl h
  unfold F_X7_readNumber_74 at h
  refine lv_iload_n (pc := 74) hx hb dX7_readNumber_74 rfl (lv_at hl 3 rfl) ?_
  refine lv_aload_n (pc := 75) hx hb dX7_readNumber_75 rfl (lv_at hl 0 rfl) ?_
  refine gt_X7_19 X hP hz0 dX7_readNumber_76 ?_
  refine lv_icmp_le (pc := 79) (tgt := 106) hx hb dX7_readNumber_79 (by decide) (fun c8 => ?_) (fun c8 => ?_)
  · have h := ipos c8 h
    refine lv_iconst (pc := 106) (v := 0) hx hb dX7_readNumber_106 (by decide) ?_
    refine lv_istore (pc := 107) (lv' := [(5, .int (0 : Int32)), (0, .ref (ga G k0z)), (1, .int v1), (2, .int v2), (3, .int v3), (4, .int v4)]) hx hb dX7_readNumber_107 hl (by decide) rfl (fun ls hl => ?_)
    refine lv_iload (pc := 109) hx hb dX7_readNumber_109 (lv_at hl 0 rfl) ?_
    refine lv_if_ne (pc := 111) (tgt := 124) hx hb dX7_readNumber_111 (by decide) (fun q => absurd q (by decide)) (fun _ => ?_)
    refine lv_aload_n (pc := 114) hx hb dX7_readNumber_114 rfl (lv_at hl 1 rfl) ?_
    refine lv_aload_n (pc := 115) hx hb dX7_readNumber_115 rfl (lv_at hl 1 rfl) ?_
    refine gt_X7_19 X hP hz0 dX7_readNumber_116 ?_
    obtain ⟨σ10, e11, h⟩ := bnd1 h
    refine pt_X7_22 X hP hS hz0 dX7_readNumber_119 (fun H locs hP hS => ?_)
    rw [Option.some.inj e11] at hP
    refine lv_iload_n (pc := 122) hx hb dX7_readNumber_122 rfl (lv_at hl 2 rfl) ?_
    obtain ⟨rfl, rfl⟩ := inj2 h
    exact r_iret X hP hS dX7_readNumber_123
  · have h := ineg c8 h
    refine lv_iload_n (pc := 82) hx hb dX7_readNumber_82 rfl (lv_at hl 3 rfl) ?_
    refine lv_aload_n (pc := 83) hx hb dX7_readNumber_83 rfl (lv_at hl 0 rfl) ?_
    refine gt_X7_19 X hP hz0 dX7_readNumber_84 ?_
    refine lv_iconst (pc := 87) (v := 4) hx hb dX7_readNumber_87 (by decide) ?_
    refine lv_iadd (pc := 88) hx hb dX7_readNumber_88 ?_
    refine lv_icmp_gt (pc := 89) (tgt := 106) hx hb dX7_readNumber_89 (by decide) (fun c12 => ?_) (fun c12 => ?_)
    · have h := ipos c12 h
      refine lv_iconst (pc := 106) (v := 0) hx hb dX7_readNumber_106 (by decide) ?_
      refine lv_istore (pc := 107) (lv' := [(5, .int (0 : Int32)), (0, .ref (ga G k0z)), (1, .int v1), (2, .int v2), (3, .int v3), (4, .int v4)]) hx hb dX7_readNumber_107 hl (by decide) rfl (fun ls hl => ?_)
      refine lv_iload (pc := 109) hx hb dX7_readNumber_109 (lv_at hl 0 rfl) ?_
      refine lv_if_ne (pc := 111) (tgt := 124) hx hb dX7_readNumber_111 (by decide) (fun q => absurd q (by decide)) (fun _ => ?_)
      refine lv_aload_n (pc := 114) hx hb dX7_readNumber_114 rfl (lv_at hl 1 rfl) ?_
      refine lv_aload_n (pc := 115) hx hb dX7_readNumber_115 rfl (lv_at hl 1 rfl) ?_
      refine gt_X7_19 X hP hz0 dX7_readNumber_116 ?_
      obtain ⟨σ14, e15, h⟩ := bnd1 h
      refine pt_X7_22 X hP hS hz0 dX7_readNumber_119 (fun H locs hP hS => ?_)
      rw [Option.some.inj e15] at hP
      refine lv_iload_n (pc := 122) hx hb dX7_readNumber_122 rfl (lv_at hl 2 rfl) ?_
      obtain ⟨rfl, rfl⟩ := inj2 h
      exact r_iret X hP hS dX7_readNumber_123
    · have h := ineg c12 h
      refine lv_iload (pc := 92) hx hb dX7_readNumber_92 (lv_at hl 4 rfl) ?_
      refine lv_iload_n (pc := 94) hx hb dX7_readNumber_94 rfl (lv_at hl 1 rfl) ?_
      refine lv_iload_n (pc := 95) hx hb dX7_readNumber_95 rfl (lv_at hl 2 rfl) ?_
      obtain ⟨r18, σ16, e17, h⟩ := bnd2 h
      refine cl_X7_101 X hP hS (As := [.int v4, .int v1, .int v2]) (rest := []) (c_X9_within l G  e17) ⟨rfl, rfl, Nat.le_of_ble_eq_true rfl, Nat.le_of_ble_eq_true rfl⟩ rfl hl.1 rfl (Nat.le_of_ble_eq_true rfl) ⟨Nat.zero_le _, Nat.zero_le _⟩ (pc := 96) dX7_readNumber_96 (fun H locs hP hS => ?_)
      change W p l e _ s m _ below meth c H locs _ _ _ (F0 m (96 + 3) ls (.int r18 :: []))
      refine lv_if_eq (pc := 99) (tgt := 106) hx hb dX7_readNumber_99 (by decide) (fun c19 => ?_) (fun c19 => ?_)
      · have h := ipos c19 h
        refine lv_iconst (pc := 106) (v := 0) hx hb dX7_readNumber_106 (by decide) ?_
        refine lv_istore (pc := 107) (lv' := [(5, .int (0 : Int32)), (0, .ref (ga G k0z)), (1, .int v1), (2, .int v2), (3, .int v3), (4, .int v4)]) hx hb dX7_readNumber_107 hl (by decide) rfl (fun ls hl => ?_)
        refine lv_iload (pc := 109) hx hb dX7_readNumber_109 (lv_at hl 0 rfl) ?_
        refine lv_if_ne (pc := 111) (tgt := 124) hx hb dX7_readNumber_111 (by decide) (fun q => absurd q (by decide)) (fun _ => ?_)
        refine lv_aload_n (pc := 114) hx hb dX7_readNumber_114 rfl (lv_at hl 1 rfl) ?_
        refine lv_aload_n (pc := 115) hx hb dX7_readNumber_115 rfl (lv_at hl 1 rfl) ?_
        refine gt_X7_19 X hP hz0 dX7_readNumber_116 ?_
        obtain ⟨σ21, e22, h⟩ := bnd1 h
        refine pt_X7_22 X hP hS hz0 dX7_readNumber_119 (fun H locs hP hS => ?_)
        rw [Option.some.inj e22] at hP
        refine lv_iload_n (pc := 122) hx hb dX7_readNumber_122 rfl (lv_at hl 2 rfl) ?_
        obtain ⟨rfl, rfl⟩ := inj2 h
        exact r_iret X hP hS dX7_readNumber_123
      · have h := ineg c19 h
        refine lv_iconst (pc := 102) (v := 1) hx hb dX7_readNumber_102 (by decide) ?_
        refine lv_goto (pc := 103) (tgt := 107) hx hb dX7_readNumber_103 (by decide) ?_
        refine lv_istore (pc := 107) (lv' := [(5, .int (1 : Int32)), (0, .ref (ga G k0z)), (1, .int v1), (2, .int v2), (3, .int v3), (4, .int v4)]) hx hb dX7_readNumber_107 hl (by decide) rfl (fun ls hl => ?_)
        refine lv_iload (pc := 109) hx hb dX7_readNumber_109 (lv_at hl 0 rfl) ?_
        refine lv_if_ne (pc := 111) (tgt := 124) hx hb dX7_readNumber_111 (by decide) (fun _ => ?_) (fun q => absurd q (by decide))
        refine lv_aload_n (pc := 124) hx hb dX7_readNumber_124 rfl (lv_at hl 1 rfl) ?_
        refine lv_iload_n (pc := 125) hx hb dX7_readNumber_125 rfl (lv_at hl 4 rfl) ?_
        obtain ⟨σ24, e25, h⟩ := bnd1 h
        refine pt_X7_19 X hP hS hz0 dX7_readNumber_126 (fun H locs hP hS => ?_)
        rw [Option.some.inj e25] at hP
        refine lv_iload (pc := 129) hx hb dX7_readNumber_129 (lv_at hl 5 rfl) ?_
        obtain ⟨rfl, rfl⟩ := inj2 h
        exact r_iret X hP hS dX7_readNumber_131
set_option maxHeartbeats 4000000 in
set_option maxRecDepth 100000 in
theorem w_X7_readNumber_33 {l : Launch} {G : Gh} {p : Program} {e : Env} {s : State} {m : MethodId} {args : Array Value} {below : List Frame} {meth : Method} {c : Code} (X : Cx G p s m args meth c prog_9_method_11_code RX7 6 (some .int)) {k0z : Nat} {p1 : Int32} {p2 : Int32} {p3 : Int32} (hz0 : kd k0z = 7) {rr : Int32} {σr : Mem} : ∀ (n : Nat) (v4 : Int32) (v5 : Int32) (σ : Mem) (H : Heap) (locs : List Loc) (ls : Array Slot), PW G σ H → va_S (AA G) s.heap H locs → lv_has ls 6 [(0, .ref (ga G k0z)), (1, .int p1), (2, .int p2), (3, .int p3), (4, .int v4), (5, .int v5)] → iterF (F_X7_readNumber_33 k0z p1 p2 p3) (fun _ _ _ => none) n v4 v5 σ = some (rr, σr) → W p l e RM_X7_readNumber s m args below meth c H locs 0 0 (MQ below (QG G (some (.int rr)) σr) args s 0 0 (AA G)) (F0 m 33 ls []) := by
  have hx := X.hx
  have hb := X.hb
  intro n
  induction n with
  | zero => intro v4 v5 σ H locs ls hP hS hl h; exact nnone (α := (Int32 × Mem)) h
  | succ n ih1 =>
    intro v4 v5 σ H locs ls hP hS hl h
    have h : F_X7_readNumber_33 k0z p1 p2 p3 (iterF (F_X7_readNumber_33 k0z p1 p2 p3) (fun _ _ _ => none) n) v4 v5 σ = some _ := h
    unfold F_X7_readNumber_33 at h
    refine lv_iload (pc := 33) hx hb dX7_readNumber_33 (lv_at hl 5 rfl) ?_
    refine lv_iload_n (pc := 35) hx hb dX7_readNumber_35 rfl (lv_at hl 3 rfl) ?_
    refine lv_icmp_ge (pc := 36) (tgt := 74) hx hb dX7_readNumber_36 (by decide) (fun c7 => ?_) (fun c7 => ?_)
    · have h := ipos c7 h
      exact w_X7_readNumber_74 X  hz0  _ _ _ _ _ _ _ _ hP hS (lv_sub hl [0, 1, 2, 3, 4] rfl) h
    · have h := ineg c7 h
      refine lv_iload (pc := 39) hx hb dX7_readNumber_39 (lv_at hl 5 rfl) ?_
      refine lv_aload_n (pc := 41) hx hb dX7_readNumber_41 rfl (lv_at hl 0 rfl) ?_
      refine gt_X7_19 X hP hz0 dX7_readNumber_42 ?_
      refine lv_iconst (pc := 45) (v := 4) hx hb dX7_readNumber_45 (by decide) ?_
      refine lv_iadd (pc := 46) hx hb dX7_readNumber_46 ?_
      refine lv_icmp_ge (pc := 47) (tgt := 74) hx hb dX7_readNumber_47 (by decide) (fun c26 => ?_) (fun c26 => ?_)
      · have h := ipos c26 h
        exact w_X7_readNumber_74 X  hz0  _ _ _ _ _ _ _ _ hP hS (lv_sub hl [0, 1, 2, 3, 4] rfl) h
      · have h := ineg c26 h
        refine lv_iload (pc := 50) hx hb dX7_readNumber_50 (lv_at hl 4 rfl) ?_
        refine lv_bipush (pc := 52) (v := (10)) hx hb dX7_readNumber_52 (by decide) ?_
        refine lv_imul (pc := 54) hx hb dX7_readNumber_54 ?_
        refine lv_aload_n (pc := 55) hx hb dX7_readNumber_55 rfl (lv_at hl 0 rfl) ?_
        refine gt_X7_11 X hP hz0 dX7_readNumber_56 ?_
        refine lv_iload (pc := 59) hx hb dX7_readNumber_59 (lv_at hl 5 rfl) ?_
        obtain ⟨j27, hj28, h⟩ := bnd1 h
        refine r_bald (pc := 61) X hP (kf_7_bytes hz0).1 hj28 dX7_readNumber_61 ?_
        refine lv_bipush (pc := 62) (v := (48)) hx hb dX7_readNumber_62 (by decide) ?_
        refine lv_isub (pc := 64) hx hb dX7_readNumber_64 ?_
        refine lv_iadd (pc := 65) hx hb dX7_readNumber_65 ?_
        refine lv_istore (pc := 66) (lv' := [(4, .int ((v4 * (10 : Int32)) + ((gI σ (k0z + 1) j27) - (48 : Int32)))), (0, .ref (ga G k0z)), (1, .int p1), (2, .int p2), (3, .int p3), (5, .int v5)]) hx hb dX7_readNumber_66 hl (by decide) rfl (fun ls hl => ?_)
        refine lv_iinc (pc := 68) (v := (v5 + (1 : Int32))) (lv' := [(5, .int (v5 + (1 : Int32))), (4, .int ((v4 * (10 : Int32)) + ((gI σ (k0z + 1) j27) - (48 : Int32)))), (0, .ref (ga G k0z)), (1, .int p1), (2, .int p2), (3, .int p3)]) hx hb dX7_readNumber_68 hl (k := 5) rfl (congrArg (fun z => v5 + z) (by decide)) (by decide) rfl (fun ls hl => ?_)
        refine lv_goto (pc := 71) (tgt := 33) hx hb dX7_readNumber_71 (by decide) ?_
        exact ih1 _ _ _ _ _ _ hP hS (lv_sub hl [2, 3, 4, 5, 1, 0] rfl) h
set_option maxHeartbeats 4000000 in
set_option maxRecDepth 100000 in
theorem c_X7_readNumber (l : Launch) (G : Gh) {k0 : Nat} {a1 : Int32} {a2 : Int32} {σ : Mem} {rr : Int32} {σr : Mem} (hk0 : kd k0 = 7) (h : f_X7_readNumber k0 a1 a2 σ = some (rr, σr)) : Met l yX7_readNumber [Cond.code yX7_readNumber prog_9_method_11_code 6 (some .int)] RM_X7_readNumber (va_Pc [.ref (ga G k0), .int a1, .int a2] (Pre G σ)) (QG G (some (.int rr)) σr) 0 0 (AA G) := by
  refine ct_of (by decide) (fun p e s m below meth c X hP => ?_)
  have hx := X.hx
  have hb := X.hb
  have hS : va_S (AA G) s.heap s.heap [] := va_S.rf
  have hl := lv_entry ([.ref (ga G k0), .int a1, .int a2]) (n := 6) (Nat.le_of_ble_eq_true rfl)
  rw [lg_entry_eq]
  generalize (lg_sl ([.ref (ga G k0), .int a1, .int a2]) ++ List.replicate (6 - (lg_sl ([.ref (ga G k0), .int a1, .int a2])).length) Slot.unset).toArray = ls at hl ⊢
  have hl : lv_has ls 6 [(0, .ref (ga G k0)), (1, .int a1), (2, .int a2)] := hl
  unfold f_X7_readNumber at h
  refine lv_aload_n (pc := 0) hx hb dX7_readNumber_0 rfl (lv_at hl 0 rfl) ?_
  refine gt_X7_22 X hP hk0 dX7_readNumber_1 ?_
  refine lv_bipush (pc := 4) (v := (-3)) hx hb dX7_readNumber_4 (by decide) ?_
  refine lv_icmp_eq (pc := 6) (tgt := 11) hx hb dX7_readNumber_6 (by decide) (fun c1 => ?_) (fun c1 => ?_)
  · have h := ipos c1 h
    refine lv_aload_n (pc := 11) hx hb dX7_readNumber_11 rfl (lv_at hl 0 rfl) ?_
    obtain ⟨σ2, e3, h⟩ := bnd1 h
    refine cl_X7_25 X hP hS hk0 (As := []) (rest := []) (c_X7_skipBlanks l G hk0 e3) ⟨rfl, rfl, Nat.le_of_ble_eq_true rfl, Nat.le_of_ble_eq_true rfl⟩ rfl hl.1 rfl (Nat.le_of_ble_eq_true rfl) ⟨Nat.zero_le _, Nat.zero_le _⟩ (pc := 12) dX7_readNumber_12 (fun H locs hP hS => ?_)
    change W p l e _ s m _ below meth c H locs _ _ _ (F0 m (12 + 3) ls [])
    refine lv_aload_n (pc := 15) hx hb dX7_readNumber_15 rfl (lv_at hl 0 rfl) ?_
    refine lv_bipush (pc := 16) (v := (48)) hx hb dX7_readNumber_16 (by decide) ?_
    refine lv_bipush (pc := 18) (v := (57)) hx hb dX7_readNumber_18 (by decide) ?_
    obtain ⟨r6, σ4, e5, h⟩ := bnd2 h
    refine cl_X7_32 X hP hS hk0 (As := [.int (48 : Int32), .int (57 : Int32)]) (rest := []) (c_X7_endOfRow l G hk0 e5) ⟨rfl, rfl, Nat.le_of_ble_eq_true rfl, Nat.le_of_ble_eq_true rfl⟩ rfl hl.1 rfl (Nat.le_of_ble_eq_true rfl) ⟨Nat.zero_le _, Nat.zero_le _⟩ (pc := 20) dX7_readNumber_20 (fun H locs hP hS => ?_)
    change W p l e _ s m _ below meth c H locs _ _ _ (F0 m (20 + 3) ls (.int r6 :: []))
    refine lv_istore_n (pc := 23) (lv' := [(3, .int r6), (0, .ref (ga G k0)), (1, .int a1), (2, .int a2)]) hx hb dX7_readNumber_23 rfl hl (by decide) rfl (fun ls hl => ?_)
    refine lv_iconst (pc := 24) (v := 0) hx hb dX7_readNumber_24 (by decide) ?_
    refine lv_istore (pc := 25) (lv' := [(4, .int (0 : Int32)), (3, .int r6), (0, .ref (ga G k0)), (1, .int a1), (2, .int a2)]) hx hb dX7_readNumber_25 hl (by decide) rfl (fun ls hl => ?_)
    refine lv_aload_n (pc := 27) hx hb dX7_readNumber_27 rfl (lv_at hl 2 rfl) ?_
    refine gt_X7_19 X hP hk0 dX7_readNumber_28 ?_
    refine lv_istore (pc := 31) (lv' := [(5, .int (gI σ4 k0 2)), (4, .int (0 : Int32)), (3, .int r6), (0, .ref (ga G k0)), (1, .int a1), (2, .int a2)]) hx hb dX7_readNumber_31 hl (by decide) rfl (fun ls hl => ?_)
    exact w_X7_readNumber_33 X  hk0  FU _ _ _ _ _ _ hP hS (lv_sub hl [3, 4, 5, 2, 1, 0] rfl) h
  · have h := ineg c1 h
    refine lv_iload_n (pc := 9) hx hb dX7_readNumber_9 rfl (lv_at hl 1 rfl) ?_
    obtain ⟨rfl, rfl⟩ := inj2 h
    exact r_iret X hP hS dX7_readNumber_10
def f_X7_readEndMark (k0 : Nat) (σ : Mem) : Option Mem :=
  if (gI σ k0 3) = (-3 : Int32) then
    bd1 (f_X7_skipBlanks k0 σ) fun σ2 =>
    if (gI σ2 k0 1) ≤ (gI σ2 k0 2) then
      bd1 (some (pI σ2 k0 3 (gI σ2 k0 2))) fun σ5 =>
      some σ5
    else
      bd1 (ixo (k0 + 1) (gI σ2 k0 2)) fun j7 =>
      if (gI σ2 (k0 + 1) j7) = (59 : Int32) then
        bd1 (some (pI σ2 k0 2 ((gI σ2 k0 2) + (1 : Int32)))) fun σ12 =>
        some σ12
      else
        bd1 (some (pI σ2 k0 3 (gI σ2 k0 2))) fun σ10 =>
        some σ10
  else
    some σ
abbrev RM_X7_readEndMark : Room := { frames := 2, cells := 0, slots := 0, locals := 43 }
set_option maxHeartbeats 4000000 in
set_option maxRecDepth 100000 in
theorem c_X7_readEndMark (l : Launch) (G : Gh) {k0 : Nat} {σ : Mem} {σr : Mem} (hk0 : kd k0 = 7) (h : f_X7_readEndMark k0 σ = some σr) : Met l yX7_readEndMark [Cond.code yX7_readEndMark prog_9_method_12_code 1 none] RM_X7_readEndMark (va_Pc [.ref (ga G k0)] (Pre G σ)) (QG G none σr) 0 0 (AA G) := by
  refine ct_of (by decide) (fun p e s m below meth c X hP => ?_)
  have hx := X.hx
  have hb := X.hb
  have hS : va_S (AA G) s.heap s.heap [] := va_S.rf
  have hl := lv_entry ([.ref (ga G k0)]) (n := 1) (Nat.le_of_ble_eq_true rfl)
  rw [lg_entry_eq]
  generalize (lg_sl ([.ref (ga G k0)]) ++ List.replicate (1 - (lg_sl ([.ref (ga G k0)])).length) Slot.unset).toArray = ls at hl ⊢
  have hl : lv_has ls 1 [(0, .ref (ga G k0))] := hl
  unfold f_X7_readEndMark at h
  refine lv_aload_n (pc := 0) hx hb dX7_readEndMark_0 rfl (lv_at hl 0 rfl) ?_
  refine gt_X7_22 X hP hk0 dX7_readEndMark_1 ?_
  refine lv_bipush (pc := 4) (v := (-3)) hx hb dX7_readEndMark_4 (by decide) ?_
  refine lv_icmp_eq (pc := 6) (tgt := 10) hx hb dX7_readEndMark_6 (by decide) (fun c1 => ?_) (fun c1 => ?_)
  · have h := ipos c1 h
    refine lv_aload_n (pc := 10) hx hb dX7_readEndMark_10 rfl (lv_at hl 0 rfl) ?_
    obtain ⟨σ2, e3, h⟩ := bnd1 h
    refine cl_X7_25 X hP hS hk0 (As := []) (rest := []) (c_X7_skipBlanks l G hk0 e3) ⟨rfl, rfl, Nat.le_of_ble_eq_true rfl, Nat.le_of_ble_eq_true rfl⟩ rfl hl.1 rfl (Nat.le_of_ble_eq_true rfl) ⟨Nat.zero_le _, Nat.zero_le _⟩ (pc := 11) dX7_readEndMark_11 (fun H locs hP hS => ?_)
    change W p l e _ s m _ below meth c H locs _ _ _ (F0 m (11 + 3) ls [])
    refine lv_aload_n (pc := 14) hx hb dX7_readEndMark_14 rfl (lv_at hl 0 rfl) ?_
    refine gt_X7_19 X hP hk0 dX7_readEndMark_15 ?_
    refine lv_aload_n (pc := 18) hx hb dX7_readEndMark_18 rfl (lv_at hl 0 rfl) ?_
    refine gt_X7_15 X hP hk0 dX7_readEndMark_19 ?_
    refine lv_icmp_ge (pc := 22) (tgt := 52) hx hb dX7_readEndMark_22 (by decide) (fun c4 => ?_) (fun c4 => ?_)
    · have h := ipos c4 h
      refine lv_aload_n (pc := 52) hx hb dX7_readEndMark_52 rfl (lv_at hl 0 rfl) ?_
      refine lv_aload_n (pc := 53) hx hb dX7_readEndMark_53 rfl (lv_at hl 0 rfl) ?_
      refine gt_X7_19 X hP hk0 dX7_readEndMark_54 ?_
      obtain ⟨σ5, e6, h⟩ := bnd1 h
      refine pt_X7_22 X hP hS hk0 dX7_readEndMark_57 (fun H locs hP hS => ?_)
      rw [Option.some.inj e6] at hP
      obtain rfl := Option.some.inj h
      exact r_vret X hP hS dX7_readEndMark_60
    · have h := ineg c4 h
      refine lv_aload_n (pc := 25) hx hb dX7_readEndMark_25 rfl (lv_at hl 0 rfl) ?_
      refine gt_X7_11 X hP hk0 dX7_readEndMark_26 ?_
      refine lv_aload_n (pc := 29) hx hb dX7_readEndMark_29 rfl (lv_at hl 0 rfl) ?_
      refine gt_X7_19 X hP hk0 dX7_readEndMark_30 ?_
      obtain ⟨j7, hj8, h⟩ := bnd1 h
      refine r_bald (pc := 33) X hP (kf_7_bytes hk0).1 hj8 dX7_readEndMark_33 ?_
      refine lv_bipush (pc := 34) (v := (59)) hx hb dX7_readEndMark_34 (by decide) ?_
      refine lv_icmp_ne (pc := 36) (tgt := 52) hx hb dX7_readEndMark_36 (by decide) (fun c9 => ?_) (fun c9 => ?_)
      · have h := ineg c9 h
        refine lv_aload_n (pc := 52) hx hb dX7_readEndMark_52 rfl (lv_at hl 0 rfl) ?_
        refine lv_aload_n (pc := 53) hx hb dX7_readEndMark_53 rfl (lv_at hl 0 rfl) ?_
        refine gt_X7_19 X hP hk0 dX7_readEndMark_54 ?_
        obtain ⟨σ10, e11, h⟩ := bnd1 h
        refine pt_X7_22 X hP hS hk0 dX7_readEndMark_57 (fun H locs hP hS => ?_)
        rw [Option.some.inj e11] at hP
        obtain rfl := Option.some.inj h
        exact r_vret X hP hS dX7_readEndMark_60
      · have h := ipos c9 h
        refine lv_aload_n (pc := 39) hx hb dX7_readEndMark_39 rfl (lv_at hl 0 rfl) ?_
        refine lv_dup (pc := 40) hx hb dX7_readEndMark_40 rfl ?_
        refine gt_X7_19 X hP hk0 dX7_readEndMark_41 ?_
        refine lv_iconst (pc := 44) (v := 1) hx hb dX7_readEndMark_44 (by decide) ?_
        refine lv_iadd (pc := 45) hx hb dX7_readEndMark_45 ?_
        obtain ⟨σ12, e13, h⟩ := bnd1 h
        refine pt_X7_19 X hP hS hk0 dX7_readEndMark_46 (fun H locs hP hS => ?_)
        rw [Option.some.inj e13] at hP
        refine lv_goto (pc := 49) (tgt := 60) hx hb dX7_readEndMark_49 (by decide) ?_
        obtain rfl := Option.some.inj h
        exact r_vret X hP hS dX7_readEndMark_60
  · have h := ineg c1 h
    obtain rfl := Option.some.inj h
    exact r_vret X hP hS dX7_readEndMark_9
def f_X7_readStep (k0 : Nat) (a1 : Nat) (σ : Mem) : Option Mem :=
  bd2 (f_X7_readNumber k0 (1 : Int32) (20 : Int32) σ) fun r3 σ1 =>
  bd1 (f_X7_readEndMark k0 σ1) fun σ4 =>
  if (gI σ4 k0 3) = (-3 : Int32) then
    bd1 (some (pI σ4 a1 5 r3)) fun σ7 =>
    some σ7
  else
    some σ4
abbrev RM_X7_readStep : Room := { frames := 3, cells := 0, slots := 0, locals := 68 }
set_option maxHeartbeats 4000000 in
set_option maxRecDepth 100000 in
theorem c_X7_readStep (l : Launch) (G : Gh) {k0 : Nat} {a1 : Nat} {σ : Mem} {σr : Mem} (hk0 : kd k0 = 7) (hk1 : kd a1 = 2) (h : f_X7_readStep k0 a1 σ = some σr) : Met l yX7_readStep [Cond.code yX7_readStep prog_9_method_9_code 3 none] RM_X7_readStep (va_Pc [.ref (ga G k0), .ref (ga G a1)] (Pre G σ)) (QG G none σr) 0 0 (AA G) := by
  refine ct_of (by decide) (fun p e s m below meth c X hP => ?_)
  have hx := X.hx
  have hb := X.hb
  have hS : va_S (AA G) s.heap s.heap [] := va_S.rf
  have hl := lv_entry ([.ref (ga G k0), .ref (ga G a1)]) (n := 3) (Nat.le_of_ble_eq_true rfl)
  rw [lg_entry_eq]
  generalize (lg_sl ([.ref (ga G k0), .ref (ga G a1)]) ++ List.replicate (3 - (lg_sl ([.ref (ga G k0), .ref (ga G a1)])).length) Slot.unset).toArray = ls at hl ⊢
  have hl : lv_has ls 3 [(0, .ref (ga G k0)), (1, .ref (ga G a1))] := hl
  unfold f_X7_readStep at h
  refine lv_aload_n (pc := 0) hx hb dX7_readStep_0 rfl (lv_at hl 0 rfl) ?_
  refine lv_iconst (pc := 1) (v := 1) hx hb dX7_readStep_1 (by decide) ?_
  refine lv_bipush (pc := 2) (v := (20)) hx hb dX7_readStep_2 (by decide) ?_
  obtain ⟨r3, σ1, e2, h⟩ := bnd2 h
  refine cl_X7_69 X hP hS hk0 (As := [.int (1 : Int32), .int (20 : Int32)]) (rest := []) (c_X7_readNumber l G hk0 e2) ⟨rfl, rfl, Nat.le_of_ble_eq_true rfl, Nat.le_of_ble_eq_true rfl⟩ rfl hl.1 rfl (Nat.le_of_ble_eq_true rfl) ⟨Nat.zero_le _, Nat.zero_le _⟩ (pc := 4) dX7_readStep_4 (fun H locs hP hS => ?_)
  change W p l e _ s m _ below meth c H locs _ _ _ (F0 m (4 + 3) ls (.int r3 :: []))
  refine lv_istore_n (pc := 7) (lv' := [(2, .int r3), (0, .ref (ga G k0)), (1, .ref (ga G a1))]) hx hb dX7_readStep_7 rfl hl (by decide) rfl (fun ls hl => ?_)
  refine lv_aload_n (pc := 8) hx hb dX7_readStep_8 rfl (lv_at hl 1 rfl) ?_
  obtain ⟨σ4, e5, h⟩ := bnd1 h
  refine cl_X7_78 X hP hS hk0 (As := []) (rest := []) (c_X7_readEndMark l G hk0 e5) ⟨rfl, rfl, Nat.le_of_ble_eq_true rfl, Nat.le_of_ble_eq_true rfl⟩ rfl hl.1 rfl (Nat.le_of_ble_eq_true rfl) ⟨Nat.zero_le _, Nat.zero_le _⟩ (pc := 9) dX7_readStep_9 (fun H locs hP hS => ?_)
  change W p l e _ s m _ below meth c H locs _ _ _ (F0 m (9 + 3) ls [])
  refine lv_aload_n (pc := 12) hx hb dX7_readStep_12 rfl (lv_at hl 1 rfl) ?_
  refine gt_X7_22 X hP hk0 dX7_readStep_13 ?_
  refine lv_bipush (pc := 16) (v := (-3)) hx hb dX7_readStep_16 (by decide) ?_
  refine lv_icmp_ne (pc := 18) (tgt := 26) hx hb dX7_readStep_18 (by decide) (fun c6 => ?_) (fun c6 => ?_)
  · have h := ineg c6 h
    obtain rfl := Option.some.inj h
    exact r_vret X hP hS dX7_readStep_26
  · have h := ipos c6 h
    refine lv_aload_n (pc := 21) hx hb dX7_readStep_21 rfl (lv_at hl 2 rfl) ?_
    refine lv_iload_n (pc := 22) hx hb dX7_readStep_22 rfl (lv_at hl 0 rfl) ?_
    obtain ⟨σ7, e8, h⟩ := bnd1 h
    refine pt_X7_99 X hP hS hk1 dX7_readStep_23 (fun H locs hP hS => ?_)
    rw [Option.some.inj e8] at hP
    obtain rfl := Option.some.inj h
    exact r_vret X hP hS dX7_readStep_26
def f_X7_readDraught (k0 : Nat) (a1 : Nat) (σ : Mem) : Option Mem :=
  bd2 (f_X7_readNumber k0 (0 : Int32) (11 : Int32) σ) fun r3 σ1 =>
  bd2 (f_X7_readNumber k0 (0 : Int32) (3 : Int32) σ1) fun r6 σ4 =>
  bd1 (f_X7_readEndMark k0 σ4) fun σ7 =>
  if (gI σ7 k0 3) = (-3 : Int32) then
    bd1 (ixo (a1 + 3) r3) fun j10 =>
    bd1 (some (pI σ7 (a1 + 3) j10 r6)) fun σ12 =>
    some σ12
  else
    some σ7
abbrev RM_X7_readDraught : Room := { frames := 3, cells := 0, slots := 0, locals := 68 }
set_option maxHeartbeats 4000000 in
set_option maxRecDepth 100000 in
theorem c_X7_readDraught (l : Launch) (G : Gh) {k0 : Nat} {a1 : Nat} {σ : Mem} {σr : Mem} (hk0 : kd k0 = 7) (hk1 : kd a1 = 2) (h : f_X7_readDraught k0 a1 σ = some σr) : Met l yX7_readDraught [Cond.code yX7_readDraught prog_9_method_8_code 4 none] RM_X7_readDraught (va_Pc [.ref (ga G k0), .ref (ga G a1)] (Pre G σ)) (QG G none σr) 0 0 (AA G) := by
  refine ct_of (by decide) (fun p e s m below meth c X hP => ?_)
  have hx := X.hx
  have hb := X.hb
  have hS : va_S (AA G) s.heap s.heap [] := va_S.rf
  have hl := lv_entry ([.ref (ga G k0), .ref (ga G a1)]) (n := 4) (Nat.le_of_ble_eq_true rfl)
  rw [lg_entry_eq]
  generalize (lg_sl ([.ref (ga G k0), .ref (ga G a1)]) ++ List.replicate (4 - (lg_sl ([.ref (ga G k0), .ref (ga G a1)])).length) Slot.unset).toArray = ls at hl ⊢
  have hl : lv_has ls 4 [(0, .ref (ga G k0)), (1, .ref (ga G a1))] := hl
  unfold f_X7_readDraught at h
  refine lv_aload_n (pc := 0) hx hb dX7_readDraught_0 rfl (lv_at hl 0 rfl) ?_
  refine lv_iconst (pc := 1) (v := 0) hx hb dX7_readDraught_1 (by decide) ?_
  refine lv_bipush (pc := 2) (v := (11)) hx hb dX7_readDraught_2 (by decide) ?_
  obtain ⟨r3, σ1, e2, h⟩ := bnd2 h
  refine cl_X7_69 X hP hS hk0 (As := [.int (0 : Int32), .int (11 : Int32)]) (rest := []) (c_X7_readNumber l G hk0 e2) ⟨rfl, rfl, Nat.le_of_ble_eq_true rfl, Nat.le_of_ble_eq_true rfl⟩ rfl hl.1 rfl (Nat.le_of_ble_eq_true rfl) ⟨Nat.zero_le _, Nat.zero_le _⟩ (pc := 4) dX7_readDraught_4 (fun H locs hP hS => ?_)
  change W p l e _ s m _ below meth c H locs _ _ _ (F0 m (4 + 3) ls (.int r3 :: []))
  refine lv_istore_n (pc := 7) (lv' := [(2, .int r3), (0, .ref (ga G k0)), (1, .ref (ga G a1))]) hx hb dX7_readDraught_7 rfl hl (by decide) rfl (fun ls hl => ?_)
  refine lv_aload_n (pc := 8) hx hb dX7_readDraught_8 rfl (lv_at hl 1 rfl) ?_
  refine lv_iconst (pc := 9) (v := 0) hx hb dX7_readDraught_9 (by decide) ?_
  refine lv_iconst (pc := 10) (v := 3) hx hb dX7_readDraught_10 (by decide) ?_
  obtain ⟨r6, σ4, e5, h⟩ := bnd2 h
  refine cl_X7_69 X hP hS hk0 (As := [.int (0 : Int32), .int (3 : Int32)]) (rest := []) (c_X7_readNumber l G hk0 e5) ⟨rfl, rfl, Nat.le_of_ble_eq_true rfl, Nat.le_of_ble_eq_true rfl⟩ rfl hl.1 rfl (Nat.le_of_ble_eq_true rfl) ⟨Nat.zero_le _, Nat.zero_le _⟩ (pc := 11) dX7_readDraught_11 (fun H locs hP hS => ?_)
  change W p l e _ s m _ below meth c H locs _ _ _ (F0 m (11 + 3) ls (.int r6 :: []))
  refine lv_istore_n (pc := 14) (lv' := [(3, .int r6), (2, .int r3), (0, .ref (ga G k0)), (1, .ref (ga G a1))]) hx hb dX7_readDraught_14 rfl hl (by decide) rfl (fun ls hl => ?_)
  refine lv_aload_n (pc := 15) hx hb dX7_readDraught_15 rfl (lv_at hl 2 rfl) ?_
  obtain ⟨σ7, e8, h⟩ := bnd1 h
  refine cl_X7_78 X hP hS hk0 (As := []) (rest := []) (c_X7_readEndMark l G hk0 e8) ⟨rfl, rfl, Nat.le_of_ble_eq_true rfl, Nat.le_of_ble_eq_true rfl⟩ rfl hl.1 rfl (Nat.le_of_ble_eq_true rfl) ⟨Nat.zero_le _, Nat.zero_le _⟩ (pc := 16) dX7_readDraught_16 (fun H locs hP hS => ?_)
  change W p l e _ s m _ below meth c H locs _ _ _ (F0 m (16 + 3) ls [])
  refine lv_aload_n (pc := 19) hx hb dX7_readDraught_19 rfl (lv_at hl 2 rfl) ?_
  refine gt_X7_22 X hP hk0 dX7_readDraught_20 ?_
  refine lv_bipush (pc := 23) (v := (-3)) hx hb dX7_readDraught_23 (by decide) ?_
  refine lv_icmp_ne (pc := 25) (tgt := 35) hx hb dX7_readDraught_25 (by decide) (fun c9 => ?_) (fun c9 => ?_)
  · have h := ineg c9 h
    obtain rfl := Option.some.inj h
    exact r_vret X hP hS dX7_readDraught_35
  · have h := ipos c9 h
    refine lv_aload_n (pc := 28) hx hb dX7_readDraught_28 rfl (lv_at hl 3 rfl) ?_
    refine gt_X7_95 X hP hk1 dX7_readDraught_29 ?_
    refine lv_iload_n (pc := 32) hx hb dX7_readDraught_32 rfl (lv_at hl 1 rfl) ?_
    refine lv_iload_n (pc := 33) hx hb dX7_readDraught_33 rfl (lv_at hl 0 rfl) ?_
    obtain ⟨j10, hj11, h⟩ := bnd1 h
    obtain ⟨σ12, e13, h⟩ := bnd1 h
    refine r_iast (pc := 34) X hP hS (kf_2_draughts hk1).1 hj11 dX7_readDraught_34 (fun H locs hP hS => ?_)
    rw [Option.some.inj e13] at hP
    obtain rfl := Option.some.inj h
    exact r_vret X hP hS dX7_readDraught_35
def f_X7_readName (k0 : Nat) (a1 : Nat) (σ : Mem) : Option Mem :=
  if (gI σ k0 3) = (-3 : Int32) then
    bd1 (f_X7_skipBlanks k0 σ) fun σ2 =>
    bd2 (f_X7_endOfRow k0 (97 : Int32) (122 : Int32) σ2) fun r6 σ4 =>
    bd2 (f_X7_isName k0 (gI σ4 k0 2) r6 a1 σ4) fun r9 σ7 =>
    if r9 = (0 : Int32) then
      bd1 (some (pI σ7 k0 3 (gI σ7 k0 2))) fun σ11 =>
      some σ11
    else
      bd1 (some (pI σ7 k0 2 r6)) fun σ13 =>
      some σ13
  else
    some σ
abbrev RM_X7_readName : Room := { frames := 5, cells := 0, slots := 0, locals := 109 }
set_option maxHeartbeats 4000000 in
set_option maxRecDepth 100000 in
theorem c_X7_readName (l : Launch) (G : Gh) {k0 : Nat} {a1 : Nat} {σ : Mem} {σr : Mem} (hk0 : kd k0 = 7) (hk1 : a1 < 12) (h : f_X7_readName k0 a1 σ = some σr) : Met l yX7_readName [Cond.code yX7_readName prog_9_method_10_code 3 none] RM_X7_readName (va_Pc [.ref (ga G k0), .ref (G.2.2.2.1 a1)] (Pre G σ)) (QG G none σr) 0 0 (AA G) := by
  refine ct_of (by decide) (fun p e s m below meth c X hP => ?_)
  have hx := X.hx
  have hb := X.hb
  have hS : va_S (AA G) s.heap s.heap [] := va_S.rf
  have hl := lv_entry ([.ref (ga G k0), .ref (G.2.2.2.1 a1)]) (n := 3) (Nat.le_of_ble_eq_true rfl)
  rw [lg_entry_eq]
  generalize (lg_sl ([.ref (ga G k0), .ref (G.2.2.2.1 a1)]) ++ List.replicate (3 - (lg_sl ([.ref (ga G k0), .ref (G.2.2.2.1 a1)])).length) Slot.unset).toArray = ls at hl ⊢
  have hl : lv_has ls 3 [(0, .ref (ga G k0)), (1, .ref (G.2.2.2.1 a1))] := hl
  unfold f_X7_readName at h
  refine lv_aload_n (pc := 0) hx hb dX7_readName_0 rfl (lv_at hl 0 rfl) ?_
  refine gt_X7_22 X hP hk0 dX7_readName_1 ?_
  refine lv_bipush (pc := 4) (v := (-3)) hx hb dX7_readName_4 (by decide) ?_
  refine lv_icmp_eq (pc := 6) (tgt := 10) hx hb dX7_readName_6 (by decide) (fun c1 => ?_) (fun c1 => ?_)
  · have h := ipos c1 h
    refine lv_aload_n (pc := 10) hx hb dX7_readName_10 rfl (lv_at hl 0 rfl) ?_
    obtain ⟨σ2, e3, h⟩ := bnd1 h
    refine cl_X7_25 X hP hS hk0 (As := []) (rest := []) (c_X7_skipBlanks l G hk0 e3) ⟨rfl, rfl, Nat.le_of_ble_eq_true rfl, Nat.le_of_ble_eq_true rfl⟩ rfl hl.1 rfl (Nat.le_of_ble_eq_true rfl) ⟨Nat.zero_le _, Nat.zero_le _⟩ (pc := 11) dX7_readName_11 (fun H locs hP hS => ?_)
    change W p l e _ s m _ below meth c H locs _ _ _ (F0 m (11 + 3) ls [])
    refine lv_aload_n (pc := 14) hx hb dX7_readName_14 rfl (lv_at hl 0 rfl) ?_
    refine lv_bipush (pc := 15) (v := (97)) hx hb dX7_readName_15 (by decide) ?_
    refine lv_bipush (pc := 17) (v := (122)) hx hb dX7_readName_17 (by decide) ?_
    obtain ⟨r6, σ4, e5, h⟩ := bnd2 h
    refine cl_X7_32 X hP hS hk0 (As := [.int (97 : Int32), .int (122 : Int32)]) (rest := []) (c_X7_endOfRow l G hk0 e5) ⟨rfl, rfl, Nat.le_of_ble_eq_true rfl, Nat.le_of_ble_eq_true rfl⟩ rfl hl.1 rfl (Nat.le_of_ble_eq_true rfl) ⟨Nat.zero_le _, Nat.zero_le _⟩ (pc := 19) dX7_readName_19 (fun H locs hP hS => ?_)
    change W p l e _ s m _ below meth c H locs _ _ _ (F0 m (19 + 3) ls (.int r6 :: []))
    refine lv_istore_n (pc := 22) (lv' := [(2, .int r6), (0, .ref (ga G k0)), (1, .ref (G.2.2.2.1 a1))]) hx hb dX7_readName_22 rfl hl (by decide) rfl (fun ls hl => ?_)
    refine lv_aload_n (pc := 23) hx hb dX7_readName_23 rfl (lv_at hl 1 rfl) ?_
    refine lv_aload_n (pc := 24) hx hb dX7_readName_24 rfl (lv_at hl 1 rfl) ?_
    refine gt_X7_19 X hP hk0 dX7_readName_25 ?_
    refine lv_iload_n (pc := 28) hx hb dX7_readName_28 rfl (lv_at hl 0 rfl) ?_
    refine lv_aload_n (pc := 29) hx hb dX7_readName_29 rfl (lv_at hl 2 rfl) ?_
    obtain ⟨r9, σ7, e8, h⟩ := bnd2 h
    refine cl_X7_42 X hP hS hk0 (As := [.int (gI σ4 k0 2), .int r6, .ref (G.2.2.2.1 a1)]) (rest := []) (c_X7_isName l G hk0 hk1 e8) ⟨rfl, rfl, Nat.le_of_ble_eq_true rfl, Nat.le_of_ble_eq_true rfl⟩ rfl hl.1 rfl (Nat.le_of_ble_eq_true rfl) ⟨Nat.zero_le _, Nat.zero_le _⟩ (pc := 30) dX7_readName_30 (fun H locs hP hS => ?_)
    change W p l e _ s m _ below meth c H locs _ _ _ (F0 m (30 + 3) ls (.int r9 :: []))
    refine lv_if_eq (pc := 33) (tgt := 44) hx hb dX7_readName_33 (by decide) (fun c10 => ?_) (fun c10 => ?_)
    · have h := ipos c10 h
      refine lv_aload_n (pc := 44) hx hb dX7_readName_44 rfl (lv_at hl 1 rfl) ?_
      refine lv_aload_n (pc := 45) hx hb dX7_readName_45 rfl (lv_at hl 1 rfl) ?_
      refine gt_X7_19 X hP hk0 dX7_readName_46 ?_
      obtain ⟨σ11, e12, h⟩ := bnd1 h
      refine pt_X7_22 X hP hS hk0 dX7_readName_49 (fun H locs hP hS => ?_)
      rw [Option.some.inj e12] at hP
      obtain rfl := Option.some.inj h
      exact r_vret X hP hS dX7_readName_52
    · have h := ineg c10 h
      refine lv_aload_n (pc := 36) hx hb dX7_readName_36 rfl (lv_at hl 1 rfl) ?_
      refine lv_iload_n (pc := 37) hx hb dX7_readName_37 rfl (lv_at hl 0 rfl) ?_
      obtain ⟨σ13, e14, h⟩ := bnd1 h
      refine pt_X7_19 X hP hS hk0 dX7_readName_38 (fun H locs hP hS => ?_)
      rw [Option.some.inj e14] at hP
      refine lv_goto (pc := 41) (tgt := 52) hx hb dX7_readName_41 (by decide) ?_
      obtain rfl := Option.some.inj h
      exact r_vret X hP hS dX7_readName_52
  · have h := ineg c1 h
    obtain rfl := Option.some.inj h
    exact r_vret X hP hS dX7_readName_9
def f_X7_readBidder (k0 : Nat) (a1 : Nat) (a2 : Int32) (a3 : Int32) (σ : Mem) : Option Mem :=
  if (gI σ a1 3) < (6 : Int32) then
    bd2 (f_X7_readNumber k0 (0 : Int32) (9 : Int32) σ) fun r4 σ2 =>
    bd1 (f_X7_readName k0 8 σ2) fun σ5 =>
    bd2 (f_X7_readNumber k0 (0 : Int32) (999 : Int32) σ5) fun r9 σ7 =>
    bd1 (f_X7_readName k0 9 σ7) fun σ10 =>
    bd2 (f_X7_readNumber k0 (0 : Int32) (9999 : Int32) σ10) fun r14 σ12 =>
    bd1 (f_X7_readEndMark k0 σ12) fun σ15 =>
    if (gI σ15 k0 3) = (-3 : Int32) then
      bd2 (f_X2_addBidder a1 a3 r4 r9 r14 σ15) fun r20 σ18 =>
      some σ18
    else
      some σ15
  else
    bd1 (some (pI σ k0 3 a2)) fun σ21 =>
    some σ21
abbrev RM_X7_readBidder : Room := { frames := 6, cells := 0, slots := 0, locals := 131 }
set_option maxHeartbeats 4000000 in
set_option maxRecDepth 100000 in
theorem c_X7_readBidder (l : Launch) (G : Gh) {k0 : Nat} {a1 : Nat} {a2 : Int32} {a3 : Int32} {σ : Mem} {σr : Mem} (hk0 : kd k0 = 7) (hk1 : kd a1 = 2) (h : f_X7_readBidder k0 a1 a2 a3 σ = some σr) : Met l yX7_readBidder [Cond.code yX7_readBidder prog_9_method_7_code 7 none] RM_X7_readBidder (va_Pc [.ref (ga G k0), .ref (ga G a1), .int a2, .int a3] (Pre G σ)) (QG G none σr) 0 0 (AA G) := by
  refine ct_of (by decide) (fun p e s m below meth c X hP => ?_)
  have hx := X.hx
  have hb := X.hb
  have hS : va_S (AA G) s.heap s.heap [] := va_S.rf
  have hl := lv_entry ([.ref (ga G k0), .ref (ga G a1), .int a2, .int a3]) (n := 7) (Nat.le_of_ble_eq_true rfl)
  rw [lg_entry_eq]
  generalize (lg_sl ([.ref (ga G k0), .ref (ga G a1), .int a2, .int a3]) ++ List.replicate (7 - (lg_sl ([.ref (ga G k0), .ref (ga G a1), .int a2, .int a3])).length) Slot.unset).toArray = ls at hl ⊢
  have hl : lv_has ls 7 [(0, .ref (ga G k0)), (1, .ref (ga G a1)), (2, .int a2), (3, .int a3)] := hl
  unfold f_X7_readBidder at h
  refine lv_aload_n (pc := 0) hx hb dX7_readBidder_0 rfl (lv_at hl 1 rfl) ?_
  refine gt_X7_84 X hP hk1 dX7_readBidder_1 ?_
  refine lv_bipush (pc := 4) (v := (6)) hx hb dX7_readBidder_4 (by decide) ?_
  refine lv_icmp_lt (pc := 6) (tgt := 15) hx hb dX7_readBidder_6 (by decide) (fun c1 => ?_) (fun c1 => ?_)
  · have h := ipos c1 h
    refine lv_aload_n (pc := 15) hx hb dX7_readBidder_15 rfl (lv_at hl 0 rfl) ?_
    refine lv_iconst (pc := 16) (v := 0) hx hb dX7_readBidder_16 (by decide) ?_
    refine lv_bipush (pc := 17) (v := (9)) hx hb dX7_readBidder_17 (by decide) ?_
    obtain ⟨r4, σ2, e3, h⟩ := bnd2 h
    refine cl_X7_69 X hP hS hk0 (As := [.int (0 : Int32), .int (9 : Int32)]) (rest := []) (c_X7_readNumber l G hk0 e3) ⟨rfl, rfl, Nat.le_of_ble_eq_true rfl, Nat.le_of_ble_eq_true rfl⟩ rfl hl.1 rfl (Nat.le_of_ble_eq_true rfl) ⟨Nat.zero_le _, Nat.zero_le _⟩ (pc := 19) dX7_readBidder_19 (fun H locs hP hS => ?_)
    change W p l e _ s m _ below meth c H locs _ _ _ (F0 m (19 + 3) ls (.int r4 :: []))
    refine lv_istore (pc := 22) (lv' := [(4, .int r4), (0, .ref (ga G k0)), (1, .ref (ga G a1)), (2, .int a2), (3, .int a3)]) hx hb dX7_readBidder_22 hl (by decide) rfl (fun ls hl => ?_)
    refine lv_aload_n (pc := 24) hx hb dX7_readBidder_24 rfl (lv_at hl 1 rfl) ?_
    refine va_ldcS (pc := 25) hx hb X.hown (X.hstr.2.1 8 (by decide)) dX7_readBidder_25 ?_
    obtain ⟨σ5, e6, h⟩ := bnd1 h
    refine cl_X7_74 X hP hS hk0 (As := [.ref (G.2.2.2.1 8)]) (rest := []) (c_X7_readName l G hk0 (by decide) e6) ⟨rfl, rfl, Nat.le_of_ble_eq_true rfl, Nat.le_of_ble_eq_true rfl⟩ rfl hl.1 rfl (Nat.le_of_ble_eq_true rfl) ⟨Nat.zero_le _, Nat.zero_le _⟩ (pc := 27) dX7_readBidder_27 (fun H locs hP hS => ?_)
    change W p l e _ s m _ below meth c H locs _ _ _ (F0 m (27 + 3) ls [])
    refine lv_aload_n (pc := 30) hx hb dX7_readBidder_30 rfl (lv_at hl 1 rfl) ?_
    refine lv_iconst (pc := 31) (v := 0) hx hb dX7_readBidder_31 (by decide) ?_
    refine lv_sipush (pc := 32) (v := (999)) hx hb dX7_readBidder_32 (by decide) ?_
    obtain ⟨r9, σ7, e8, h⟩ := bnd2 h
    refine cl_X7_69 X hP hS hk0 (As := [.int (0 : Int32), .int (999 : Int32)]) (rest := []) (c_X7_readNumber l G hk0 e8) ⟨rfl, rfl, Nat.le_of_ble_eq_true rfl, Nat.le_of_ble_eq_true rfl⟩ rfl hl.1 rfl (Nat.le_of_ble_eq_true rfl) ⟨Nat.zero_le _, Nat.zero_le _⟩ (pc := 35) dX7_readBidder_35 (fun H locs hP hS => ?_)
    change W p l e _ s m _ below meth c H locs _ _ _ (F0 m (35 + 3) ls (.int r9 :: []))
    refine lv_istore (pc := 38) (lv' := [(5, .int r9), (4, .int r4), (0, .ref (ga G k0)), (1, .ref (ga G a1)), (2, .int a2), (3, .int a3)]) hx hb dX7_readBidder_38 hl (by decide) rfl (fun ls hl => ?_)
    refine lv_aload_n (pc := 40) hx hb dX7_readBidder_40 rfl (lv_at hl 2 rfl) ?_
    refine va_ldcS (pc := 41) hx hb X.hown (X.hstr.2.1 9 (by decide)) dX7_readBidder_41 ?_
    obtain ⟨σ10, e11, h⟩ := bnd1 h
    refine cl_X7_74 X hP hS hk0 (As := [.ref (G.2.2.2.1 9)]) (rest := []) (c_X7_readName l G hk0 (by decide) e11) ⟨rfl, rfl, Nat.le_of_ble_eq_true rfl, Nat.le_of_ble_eq_true rfl⟩ rfl hl.1 rfl (Nat.le_of_ble_eq_true rfl) ⟨Nat.zero_le _, Nat.zero_le _⟩ (pc := 43) dX7_readBidder_43 (fun H locs hP hS => ?_)
    change W p l e _ s m _ below meth c H locs _ _ _ (F0 m (43 + 3) ls [])
    refine lv_aload_n (pc := 46) hx hb dX7_readBidder_46 rfl (lv_at hl 2 rfl) ?_
    refine lv_iconst (pc := 47) (v := 0) hx hb dX7_readBidder_47 (by decide) ?_
    refine lv_sipush (pc := 48) (v := (9999)) hx hb dX7_readBidder_48 (by decide) ?_
    obtain ⟨r14, σ12, e13, h⟩ := bnd2 h
    refine cl_X7_69 X hP hS hk0 (As := [.int (0 : Int32), .int (9999 : Int32)]) (rest := []) (c_X7_readNumber l G hk0 e13) ⟨rfl, rfl, Nat.le_of_ble_eq_true rfl, Nat.le_of_ble_eq_true rfl⟩ rfl hl.1 rfl (Nat.le_of_ble_eq_true rfl) ⟨Nat.zero_le _, Nat.zero_le _⟩ (pc := 51) dX7_readBidder_51 (fun H locs hP hS => ?_)
    change W p l e _ s m _ below meth c H locs _ _ _ (F0 m (51 + 3) ls (.int r14 :: []))
    refine lv_istore (pc := 54) (lv' := [(6, .int r14), (5, .int r9), (4, .int r4), (0, .ref (ga G k0)), (1, .ref (ga G a1)), (2, .int a2), (3, .int a3)]) hx hb dX7_readBidder_54 hl (by decide) rfl (fun ls hl => ?_)
    refine lv_aload_n (pc := 56) hx hb dX7_readBidder_56 rfl (lv_at hl 3 rfl) ?_
    obtain ⟨σ15, e16, h⟩ := bnd1 h
    refine cl_X7_78 X hP hS hk0 (As := []) (rest := []) (c_X7_readEndMark l G hk0 e16) ⟨rfl, rfl, Nat.le_of_ble_eq_true rfl, Nat.le_of_ble_eq_true rfl⟩ rfl hl.1 rfl (Nat.le_of_ble_eq_true rfl) ⟨Nat.zero_le _, Nat.zero_le _⟩ (pc := 57) dX7_readBidder_57 (fun H locs hP hS => ?_)
    change W p l e _ s m _ below meth c H locs _ _ _ (F0 m (57 + 3) ls [])
    refine lv_aload_n (pc := 60) hx hb dX7_readBidder_60 rfl (lv_at hl 3 rfl) ?_
    refine gt_X7_22 X hP hk0 dX7_readBidder_61 ?_
    refine lv_bipush (pc := 64) (v := (-3)) hx hb dX7_readBidder_64 (by decide) ?_
    refine lv_icmp_ne (pc := 66) (tgt := 81) hx hb dX7_readBidder_66 (by decide) (fun c17 => ?_) (fun c17 => ?_)
    · have h := ineg c17 h
      obtain rfl := Option.some.inj h
      exact r_vret X hP hS dX7_readBidder_81
    · have h := ipos c17 h
      refine lv_aload_n (pc := 69) hx hb dX7_readBidder_69 rfl (lv_at hl 4 rfl) ?_
      refine lv_iload_n (pc := 70) hx hb dX7_readBidder_70 rfl (lv_at hl 6 rfl) ?_
      refine lv_iload (pc := 71) hx hb dX7_readBidder_71 (lv_at hl 2 rfl) ?_
      refine lv_iload (pc := 73) hx hb dX7_readBidder_73 (lv_at hl 1 rfl) ?_
      refine lv_iload (pc := 75) hx hb dX7_readBidder_75 (lv_at hl 0 rfl) ?_
      obtain ⟨r20, σ18, e19, h⟩ := bnd2 h
      refine cl_X7_91 X hP hS hk1 (As := [.int a3, .int r4, .int r9, .int r14]) (rest := []) (c_X2_addBidder l G hk1 e19) ⟨rfl, rfl, Nat.le_of_ble_eq_true rfl, Nat.le_of_ble_eq_true rfl⟩ rfl hl.1 rfl (Nat.le_of_ble_eq_true rfl) ⟨Nat.zero_le _, Nat.zero_le _⟩ (pc := 77) dX7_readBidder_77 (fun H locs hP hS => ?_)
      change W p l e _ s m _ below meth c H locs _ _ _ (F0 m (77 + 3) ls (.int r20 :: []))
      refine lv_pop (pc := 80) hx hb dX7_readBidder_80 rfl ?_
      obtain rfl := Option.some.inj h
      exact r_vret X hP hS dX7_readBidder_81
  · have h := ineg c1 h
    refine lv_aload_n (pc := 9) hx hb dX7_readBidder_9 rfl (lv_at hl 0 rfl) ?_
    refine lv_iload_n (pc := 10) hx hb dX7_readBidder_10 rfl (lv_at hl 2 rfl) ?_
    obtain ⟨σ21, e22, h⟩ := bnd1 h
    refine pt_X7_22 X hP hS hk0 dX7_readBidder_11 (fun H locs hP hS => ?_)
    rw [Option.some.inj e22] at hP
    obtain rfl := Option.some.inj h
    exact r_vret X hP hS dX7_readBidder_14
def f_X7_readLot (k0 : Nat) (a1 : Nat) (a2 : Int32) (σ : Mem) : Option Mem :=
  if (gI σ a1 1) < (5 : Int32) then
    bd2 (f_X7_readNumber k0 (1 : Int32) (60 : Int32) σ) fun r4 σ2 =>
    bd1 (f_X7_readName k0 7 σ2) fun σ5 =>
    bd2 (f_X7_readNumber k0 (1 : Int32) (99 : Int32) σ5) fun r9 σ7 =>
    bd1 (f_X7_readEndMark k0 σ7) fun σ10 =>
    if (gI σ10 k0 3) = (-3 : Int32) then
      bd2 (f_X2_addLot a1 r4 r9 σ10) fun r15 σ13 =>
      some σ13
    else
      some σ10
  else
    bd1 (some (pI σ k0 3 a2)) fun σ16 =>
    some σ16
abbrev RM_X7_readLot : Room := { frames := 6, cells := 0, slots := 0, locals := 131 }
set_option maxHeartbeats 4000000 in
set_option maxRecDepth 100000 in
theorem c_X7_readLot (l : Launch) (G : Gh) {k0 : Nat} {a1 : Nat} {a2 : Int32} {σ : Mem} {σr : Mem} (hk0 : kd k0 = 7) (hk1 : kd a1 = 2) (h : f_X7_readLot k0 a1 a2 σ = some σr) : Met l yX7_readLot [Cond.code yX7_readLot prog_9_method_6_code 5 none] RM_X7_readLot (va_Pc [.ref (ga G k0), .ref (ga G a1), .int a2] (Pre G σ)) (QG G none σr) 0 0 (AA G) := by
  refine ct_of (by decide) (fun p e s m below meth c X hP => ?_)
  have hx := X.hx
  have hb := X.hb
  have hS : va_S (AA G) s.heap s.heap [] := va_S.rf
  have hl := lv_entry ([.ref (ga G k0), .ref (ga G a1), .int a2]) (n := 5) (Nat.le_of_ble_eq_true rfl)
  rw [lg_entry_eq]
  generalize (lg_sl ([.ref (ga G k0), .ref (ga G a1), .int a2]) ++ List.replicate (5 - (lg_sl ([.ref (ga G k0), .ref (ga G a1), .int a2])).length) Slot.unset).toArray = ls at hl ⊢
  have hl : lv_has ls 5 [(0, .ref (ga G k0)), (1, .ref (ga G a1)), (2, .int a2)] := hl
  unfold f_X7_readLot at h
  refine lv_aload_n (pc := 0) hx hb dX7_readLot_0 rfl (lv_at hl 1 rfl) ?_
  refine gt_X7_64 X hP hk1 dX7_readLot_1 ?_
  refine lv_iconst (pc := 4) (v := 5) hx hb dX7_readLot_4 (by decide) ?_
  refine lv_icmp_lt (pc := 5) (tgt := 14) hx hb dX7_readLot_5 (by decide) (fun c1 => ?_) (fun c1 => ?_)
  · have h := ipos c1 h
    refine lv_aload_n (pc := 14) hx hb dX7_readLot_14 rfl (lv_at hl 0 rfl) ?_
    refine lv_iconst (pc := 15) (v := 1) hx hb dX7_readLot_15 (by decide) ?_
    refine lv_bipush (pc := 16) (v := (60)) hx hb dX7_readLot_16 (by decide) ?_
    obtain ⟨r4, σ2, e3, h⟩ := bnd2 h
    refine cl_X7_69 X hP hS hk0 (As := [.int (1 : Int32), .int (60 : Int32)]) (rest := []) (c_X7_readNumber l G hk0 e3) ⟨rfl, rfl, Nat.le_of_ble_eq_true rfl, Nat.le_of_ble_eq_true rfl⟩ rfl hl.1 rfl (Nat.le_of_ble_eq_true rfl) ⟨Nat.zero_le _, Nat.zero_le _⟩ (pc := 18) dX7_readLot_18 (fun H locs hP hS => ?_)
    change W p l e _ s m _ below meth c H locs _ _ _ (F0 m (18 + 3) ls (.int r4 :: []))
    refine lv_istore_n (pc := 21) (lv' := [(3, .int r4), (0, .ref (ga G k0)), (1, .ref (ga G a1)), (2, .int a2)]) hx hb dX7_readLot_21 rfl hl (by decide) rfl (fun ls hl => ?_)
    refine lv_aload_n (pc := 22) hx hb dX7_readLot_22 rfl (lv_at hl 1 rfl) ?_
    refine va_ldcS (pc := 23) hx hb X.hown (X.hstr.2.1 7 (by decide)) dX7_readLot_23 ?_
    obtain ⟨σ5, e6, h⟩ := bnd1 h
    refine cl_X7_74 X hP hS hk0 (As := [.ref (G.2.2.2.1 7)]) (rest := []) (c_X7_readName l G hk0 (by decide) e6) ⟨rfl, rfl, Nat.le_of_ble_eq_true rfl, Nat.le_of_ble_eq_true rfl⟩ rfl hl.1 rfl (Nat.le_of_ble_eq_true rfl) ⟨Nat.zero_le _, Nat.zero_le _⟩ (pc := 25) dX7_readLot_25 (fun H locs hP hS => ?_)
    change W p l e _ s m _ below meth c H locs _ _ _ (F0 m (25 + 3) ls [])
    refine lv_aload_n (pc := 28) hx hb dX7_readLot_28 rfl (lv_at hl 1 rfl) ?_
    refine lv_iconst (pc := 29) (v := 1) hx hb dX7_readLot_29 (by decide) ?_
    refine lv_bipush (pc := 30) (v := (99)) hx hb dX7_readLot_30 (by decide) ?_
    obtain ⟨r9, σ7, e8, h⟩ := bnd2 h
    refine cl_X7_69 X hP hS hk0 (As := [.int (1 : Int32), .int (99 : Int32)]) (rest := []) (c_X7_readNumber l G hk0 e8) ⟨rfl, rfl, Nat.le_of_ble_eq_true rfl, Nat.le_of_ble_eq_true rfl⟩ rfl hl.1 rfl (Nat.le_of_ble_eq_true rfl) ⟨Nat.zero_le _, Nat.zero_le _⟩ (pc := 32) dX7_readLot_32 (fun H locs hP hS => ?_)
    change W p l e _ s m _ below meth c H locs _ _ _ (F0 m (32 + 3) ls (.int r9 :: []))
    refine lv_istore (pc := 35) (lv' := [(4, .int r9), (3, .int r4), (0, .ref (ga G k0)), (1, .ref (ga G a1)), (2, .int a2)]) hx hb dX7_readLot_35 hl (by decide) rfl (fun ls hl => ?_)
    refine lv_aload_n (pc := 37) hx hb dX7_readLot_37 rfl (lv_at hl 2 rfl) ?_
    obtain ⟨σ10, e11, h⟩ := bnd1 h
    refine cl_X7_78 X hP hS hk0 (As := []) (rest := []) (c_X7_readEndMark l G hk0 e11) ⟨rfl, rfl, Nat.le_of_ble_eq_true rfl, Nat.le_of_ble_eq_true rfl⟩ rfl hl.1 rfl (Nat.le_of_ble_eq_true rfl) ⟨Nat.zero_le _, Nat.zero_le _⟩ (pc := 38) dX7_readLot_38 (fun H locs hP hS => ?_)
    change W p l e _ s m _ below meth c H locs _ _ _ (F0 m (38 + 3) ls [])
    refine lv_aload_n (pc := 41) hx hb dX7_readLot_41 rfl (lv_at hl 2 rfl) ?_
    refine gt_X7_22 X hP hk0 dX7_readLot_42 ?_
    refine lv_bipush (pc := 45) (v := (-3)) hx hb dX7_readLot_45 (by decide) ?_
    refine lv_icmp_ne (pc := 47) (tgt := 58) hx hb dX7_readLot_47 (by decide) (fun c12 => ?_) (fun c12 => ?_)
    · have h := ineg c12 h
      obtain rfl := Option.some.inj h
      exact r_vret X hP hS dX7_readLot_58
    · have h := ipos c12 h
      refine lv_aload_n (pc := 50) hx hb dX7_readLot_50 rfl (lv_at hl 3 rfl) ?_
      refine lv_iload_n (pc := 51) hx hb dX7_readLot_51 rfl (lv_at hl 1 rfl) ?_
      refine lv_iload (pc := 52) hx hb dX7_readLot_52 (lv_at hl 0 rfl) ?_
      obtain ⟨r15, σ13, e14, h⟩ := bnd2 h
      refine cl_X7_81 X hP hS hk1 (As := [.int r4, .int r9]) (rest := []) (c_X2_addLot l G hk1 e14) ⟨rfl, rfl, Nat.le_of_ble_eq_true rfl, Nat.le_of_ble_eq_true rfl⟩ rfl hl.1 rfl (Nat.le_of_ble_eq_true rfl) ⟨Nat.zero_le _, Nat.zero_le _⟩ (pc := 54) dX7_readLot_54 (fun H locs hP hS => ?_)
      change W p l e _ s m _ below meth c H locs _ _ _ (F0 m (54 + 3) ls (.int r15 :: []))
      refine lv_pop (pc := 57) hx hb dX7_readLot_57 rfl ?_
      obtain rfl := Option.some.inj h
      exact r_vret X hP hS dX7_readLot_58
  · have h := ineg c1 h
    refine lv_aload_n (pc := 8) hx hb dX7_readLot_8 rfl (lv_at hl 0 rfl) ?_
    refine lv_iload_n (pc := 9) hx hb dX7_readLot_9 rfl (lv_at hl 2 rfl) ?_
    obtain ⟨σ16, e17, h⟩ := bnd1 h
    refine pt_X7_22 X hP hS hk0 dX7_readLot_10 (fun H locs hP hS => ?_)
    rw [Option.some.inj e17] at hP
    obtain rfl := Option.some.inj h
    exact r_vret X hP hS dX7_readLot_13
def f_X7_readEntry (k0 : Nat) (a1 : Nat) (σ : Mem) : Option Mem :=
  bd2 (f_X7_endOfRow k0 (97 : Int32) (122 : Int32) σ) fun r3 σ1 =>
  bd1 (some (pI σ1 k0 2 r3)) fun σ4 =>
  bd2 (f_X7_kindNamed k0 (gI σ k0 2) r3 σ4) fun r8 σ6 =>
  bd2 (f_X7_isName k0 (gI σ k0 2) r3 6 σ6) fun r11 σ9 =>
  if r11 = (0 : Int32) then
    if r8 = (-3 : Int32) then
      bd2 (f_X7_isName k0 (gI σ k0 2) r3 10 σ9) fun r16 σ14 =>
      if r16 = (0 : Int32) then
        bd2 (f_X7_isName k0 (gI σ k0 2) r3 11 σ14) fun r20 σ18 =>
        if r20 = (0 : Int32) then
          bd1 (some (pI σ18 k0 3 (gI σ k0 2))) fun σ22 =>
          some σ22
        else
          bd1 (f_X7_readStep k0 a1 σ18) fun σ24 =>
          some σ24
      else
        bd1 (f_X7_readDraught k0 a1 σ14) fun σ26 =>
        some σ26
    else
      bd1 (f_X7_readBidder k0 a1 (gI σ k0 2) r8 σ9) fun σ28 =>
      some σ28
  else
    bd1 (f_X7_readLot k0 a1 (gI σ k0 2) σ9) fun σ30 =>
    some σ30
abbrev RM_X7_readEntry : Room := { frames := 7, cells := 0, slots := 0, locals := 157 }
set_option maxHeartbeats 4000000 in
set_option maxRecDepth 100000 in
theorem c_X7_readEntry (l : Launch) (G : Gh) {k0 : Nat} {a1 : Nat} {σ : Mem} {σr : Mem} (hk0 : kd k0 = 7) (hk1 : kd a1 = 2) (h : f_X7_readEntry k0 a1 σ = some σr) : Met l yX7_readEntry [Cond.code yX7_readEntry prog_9_method_5_code 5 none] RM_X7_readEntry (va_Pc [.ref (ga G k0), .ref (ga G a1)] (Pre G σ)) (QG G none σr) 0 0 (AA G) := by
  refine ct_of (by decide) (fun p e s m below meth c X hP => ?_)
  have hx := X.hx
  have hb := X.hb
  have hS : va_S (AA G) s.heap s.heap [] := va_S.rf
  have hl := lv_entry ([.ref (ga G k0), .ref (ga G a1)]) (n := 5) (Nat.le_of_ble_eq_true rfl)
  rw [lg_entry_eq]
  generalize (lg_sl ([.ref (ga G k0), .ref (ga G a1)]) ++ List.replicate (5 - (lg_sl ([.ref (ga G k0), .ref (ga G a1)])).length) Slot.unset).toArray = ls at hl ⊢
  have hl : lv_has ls 5 [(0, .ref (ga G k0)), (1, .ref (ga G a1))] := hl
  unfold f_X7_readEntry at h
  refine lv_aload_n (pc := 0) hx hb dX7_readEntry_0 rfl (lv_at hl 0 rfl) ?_
  refine gt_X7_19 X hP hk0 dX7_readEntry_1 ?_
  refine lv_istore_n (pc := 4) (lv' := [(2, .int (gI σ k0 2)), (0, .ref (ga G k0)), (1, .ref (ga G a1))]) hx hb dX7_readEntry_4 rfl hl (by decide) rfl (fun ls hl => ?_)
  refine lv_aload_n (pc := 5) hx hb dX7_readEntry_5 rfl (lv_at hl 1 rfl) ?_
  refine lv_bipush (pc := 6) (v := (97)) hx hb dX7_readEntry_6 (by decide) ?_
  refine lv_bipush (pc := 8) (v := (122)) hx hb dX7_readEntry_8 (by decide) ?_
  obtain ⟨r3, σ1, e2, h⟩ := bnd2 h
  refine cl_X7_32 X hP hS hk0 (As := [.int (97 : Int32), .int (122 : Int32)]) (rest := []) (c_X7_endOfRow l G hk0 e2) ⟨rfl, rfl, Nat.le_of_ble_eq_true rfl, Nat.le_of_ble_eq_true rfl⟩ rfl hl.1 rfl (Nat.le_of_ble_eq_true rfl) ⟨Nat.zero_le _, Nat.zero_le _⟩ (pc := 10) dX7_readEntry_10 (fun H locs hP hS => ?_)
  change W p l e _ s m _ below meth c H locs _ _ _ (F0 m (10 + 3) ls (.int r3 :: []))
  refine lv_istore_n (pc := 13) (lv' := [(3, .int r3), (2, .int (gI σ k0 2)), (0, .ref (ga G k0)), (1, .ref (ga G a1))]) hx hb dX7_readEntry_13 rfl hl (by decide) rfl (fun ls hl => ?_)
  refine lv_aload_n (pc := 14) hx hb dX7_readEntry_14 rfl (lv_at hl 2 rfl) ?_
  refine lv_iload_n (pc := 15) hx hb dX7_readEntry_15 rfl (lv_at hl 0 rfl) ?_
  obtain ⟨σ4, e5, h⟩ := bnd1 h
  refine pt_X7_19 X hP hS hk0 dX7_readEntry_16 (fun H locs hP hS => ?_)
  rw [Option.some.inj e5] at hP
  refine lv_aload_n (pc := 19) hx hb dX7_readEntry_19 rfl (lv_at hl 2 rfl) ?_
  refine lv_iload_n (pc := 20) hx hb dX7_readEntry_20 rfl (lv_at hl 1 rfl) ?_
  refine lv_iload_n (pc := 21) hx hb dX7_readEntry_21 rfl (lv_at hl 0 rfl) ?_
  obtain ⟨r8, σ6, e7, h⟩ := bnd2 h
  refine cl_X7_36 X hP hS hk0 (As := [.int (gI σ k0 2), .int r3]) (rest := []) (c_X7_kindNamed l G hk0 e7) ⟨rfl, rfl, Nat.le_of_ble_eq_true rfl, Nat.le_of_ble_eq_true rfl⟩ rfl hl.1 rfl (Nat.le_of_ble_eq_true rfl) ⟨Nat.zero_le _, Nat.zero_le _⟩ (pc := 22) dX7_readEntry_22 (fun H locs hP hS => ?_)
  change W p l e _ s m _ below meth c H locs _ _ _ (F0 m (22 + 3) ls (.int r8 :: []))
  refine lv_istore (pc := 25) (lv' := [(4, .int r8), (3, .int r3), (2, .int (gI σ k0 2)), (0, .ref (ga G k0)), (1, .ref (ga G a1))]) hx hb dX7_readEntry_25 hl (by decide) rfl (fun ls hl => ?_)
  refine lv_aload_n (pc := 27) hx hb dX7_readEntry_27 rfl (lv_at hl 3 rfl) ?_
  refine lv_iload_n (pc := 28) hx hb dX7_readEntry_28 rfl (lv_at hl 2 rfl) ?_
  refine lv_iload_n (pc := 29) hx hb dX7_readEntry_29 rfl (lv_at hl 1 rfl) ?_
  refine va_ldcS (pc := 30) hx hb X.hown (X.hstr.2.1 6 (by decide)) dX7_readEntry_30 ?_
  obtain ⟨r11, σ9, e10, h⟩ := bnd2 h
  refine cl_X7_42 X hP hS hk0 (As := [.int (gI σ k0 2), .int r3, .ref (G.2.2.2.1 6)]) (rest := []) (c_X7_isName l G hk0 (by decide) e10) ⟨rfl, rfl, Nat.le_of_ble_eq_true rfl, Nat.le_of_ble_eq_true rfl⟩ rfl hl.1 rfl (Nat.le_of_ble_eq_true rfl) ⟨Nat.zero_le _, Nat.zero_le _⟩ (pc := 32) dX7_readEntry_32 (fun H locs hP hS => ?_)
  change W p l e _ s m _ below meth c H locs _ _ _ (F0 m (32 + 3) ls (.int r11 :: []))
  refine lv_if_eq (pc := 35) (tgt := 47) hx hb dX7_readEntry_35 (by decide) (fun c12 => ?_) (fun c12 => ?_)
  · have h := ipos c12 h
    refine lv_iload (pc := 47) hx hb dX7_readEntry_47 (lv_at hl 0 rfl) ?_
    refine lv_bipush (pc := 49) (v := (-3)) hx hb dX7_readEntry_49 (by decide) ?_
    refine lv_icmp_eq (pc := 51) (tgt := 65) hx hb dX7_readEntry_51 (by decide) (fun c13 => ?_) (fun c13 => ?_)
    · have h := ipos c13 h
      refine lv_aload_n (pc := 65) hx hb dX7_readEntry_65 rfl (lv_at hl 3 rfl) ?_
      refine lv_iload_n (pc := 66) hx hb dX7_readEntry_66 rfl (lv_at hl 2 rfl) ?_
      refine lv_iload_n (pc := 67) hx hb dX7_readEntry_67 rfl (lv_at hl 1 rfl) ?_
      refine va_ldcS (pc := 68) hx hb X.hown (X.hstr.2.1 10 (by decide)) dX7_readEntry_68 ?_
      obtain ⟨r16, σ14, e15, h⟩ := bnd2 h
      refine cl_X7_42 X hP hS hk0 (As := [.int (gI σ k0 2), .int r3, .ref (G.2.2.2.1 10)]) (rest := []) (c_X7_isName l G hk0 (by decide) e15) ⟨rfl, rfl, Nat.le_of_ble_eq_true rfl, Nat.le_of_ble_eq_true rfl⟩ rfl hl.1 rfl (Nat.le_of_ble_eq_true rfl) ⟨Nat.zero_le _, Nat.zero_le _⟩ (pc := 70) dX7_readEntry_70 (fun H locs hP hS => ?_)
      change W p l e _ s m _ below meth c H locs _ _ _ (F0 m (70 + 3) ls (.int r16 :: []))
      refine lv_if_eq (pc := 73) (tgt := 84) hx hb dX7_readEntry_73 (by decide) (fun c17 => ?_) (fun c17 => ?_)
      · have h := ipos c17 h
        refine lv_aload_n (pc := 84) hx hb dX7_readEntry_84 rfl (lv_at hl 3 rfl) ?_
        refine lv_iload_n (pc := 85) hx hb dX7_readEntry_85 rfl (lv_at hl 2 rfl) ?_
        refine lv_iload_n (pc := 86) hx hb dX7_readEntry_86 rfl (lv_at hl 1 rfl) ?_
        refine va_ldcS (pc := 87) hx hb X.hown (X.hstr.2.1 11 (by decide)) dX7_readEntry_87 ?_
        obtain ⟨r20, σ18, e19, h⟩ := bnd2 h
        refine cl_X7_42 X hP hS hk0 (As := [.int (gI σ k0 2), .int r3, .ref (G.2.2.2.1 11)]) (rest := []) (c_X7_isName l G hk0 (by decide) e19) ⟨rfl, rfl, Nat.le_of_ble_eq_true rfl, Nat.le_of_ble_eq_true rfl⟩ rfl hl.1 rfl (Nat.le_of_ble_eq_true rfl) ⟨Nat.zero_le _, Nat.zero_le _⟩ (pc := 89) dX7_readEntry_89 (fun H locs hP hS => ?_)
        change W p l e _ s m _ below meth c H locs _ _ _ (F0 m (89 + 3) ls (.int r20 :: []))
        refine lv_if_eq (pc := 92) (tgt := 103) hx hb dX7_readEntry_92 (by decide) (fun c21 => ?_) (fun c21 => ?_)
        · have h := ipos c21 h
          refine lv_aload_n (pc := 103) hx hb dX7_readEntry_103 rfl (lv_at hl 3 rfl) ?_
          refine lv_iload_n (pc := 104) hx hb dX7_readEntry_104 rfl (lv_at hl 2 rfl) ?_
          obtain ⟨σ22, e23, h⟩ := bnd1 h
          refine pt_X7_22 X hP hS hk0 dX7_readEntry_105 (fun H locs hP hS => ?_)
          rw [Option.some.inj e23] at hP
          obtain rfl := Option.some.inj h
          exact r_vret X hP hS dX7_readEntry_108
        · have h := ineg c21 h
          refine lv_aload_n (pc := 95) hx hb dX7_readEntry_95 rfl (lv_at hl 3 rfl) ?_
          refine lv_aload_n (pc := 96) hx hb dX7_readEntry_96 rfl (lv_at hl 4 rfl) ?_
          obtain ⟨σ24, e25, h⟩ := bnd1 h
          refine cl_X7_61 X hP hS hk0 (As := [.ref (ga G a1)]) (rest := []) (c_X7_readStep l G hk0 hk1 e25) ⟨rfl, rfl, Nat.le_of_ble_eq_true rfl, Nat.le_of_ble_eq_true rfl⟩ rfl hl.1 rfl (Nat.le_of_ble_eq_true rfl) ⟨Nat.zero_le _, Nat.zero_le _⟩ (pc := 97) dX7_readEntry_97 (fun H locs hP hS => ?_)
          change W p l e _ s m _ below meth c H locs _ _ _ (F0 m (97 + 3) ls [])
          refine lv_goto (pc := 100) (tgt := 108) hx hb dX7_readEntry_100 (by decide) ?_
          obtain rfl := Option.some.inj h
          exact r_vret X hP hS dX7_readEntry_108
      · have h := ineg c17 h
        refine lv_aload_n (pc := 76) hx hb dX7_readEntry_76 rfl (lv_at hl 3 rfl) ?_
        refine lv_aload_n (pc := 77) hx hb dX7_readEntry_77 rfl (lv_at hl 4 rfl) ?_
        obtain ⟨σ26, e27, h⟩ := bnd1 h
        refine cl_X7_56 X hP hS hk0 (As := [.ref (ga G a1)]) (rest := []) (c_X7_readDraught l G hk0 hk1 e27) ⟨rfl, rfl, Nat.le_of_ble_eq_true rfl, Nat.le_of_ble_eq_true rfl⟩ rfl hl.1 rfl (Nat.le_of_ble_eq_true rfl) ⟨Nat.zero_le _, Nat.zero_le _⟩ (pc := 78) dX7_readEntry_78 (fun H locs hP hS => ?_)
        change W p l e _ s m _ below meth c H locs _ _ _ (F0 m (78 + 3) ls [])
        refine lv_goto (pc := 81) (tgt := 108) hx hb dX7_readEntry_81 (by decide) ?_
        obtain rfl := Option.some.inj h
        exact r_vret X hP hS dX7_readEntry_108
    · have h := ineg c13 h
      refine lv_aload_n (pc := 54) hx hb dX7_readEntry_54 rfl (lv_at hl 3 rfl) ?_
      refine lv_aload_n (pc := 55) hx hb dX7_readEntry_55 rfl (lv_at hl 4 rfl) ?_
      refine lv_iload_n (pc := 56) hx hb dX7_readEntry_56 rfl (lv_at hl 2 rfl) ?_
      refine lv_iload (pc := 57) hx hb dX7_readEntry_57 (lv_at hl 0 rfl) ?_
      obtain ⟨σ28, e29, h⟩ := bnd1 h
      refine cl_X7_50 X hP hS hk0 (As := [.ref (ga G a1), .int (gI σ k0 2), .int r8]) (rest := []) (c_X7_readBidder l G hk0 hk1 e29) ⟨rfl, rfl, Nat.le_of_ble_eq_true rfl, Nat.le_of_ble_eq_true rfl⟩ rfl hl.1 rfl (Nat.le_of_ble_eq_true rfl) ⟨Nat.zero_le _, Nat.zero_le _⟩ (pc := 59) dX7_readEntry_59 (fun H locs hP hS => ?_)
      change W p l e _ s m _ below meth c H locs _ _ _ (F0 m (59 + 3) ls [])
      refine lv_goto (pc := 62) (tgt := 108) hx hb dX7_readEntry_62 (by decide) ?_
      obtain rfl := Option.some.inj h
      exact r_vret X hP hS dX7_readEntry_108
  · have h := ineg c12 h
    refine lv_aload_n (pc := 38) hx hb dX7_readEntry_38 rfl (lv_at hl 3 rfl) ?_
    refine lv_aload_n (pc := 39) hx hb dX7_readEntry_39 rfl (lv_at hl 4 rfl) ?_
    refine lv_iload_n (pc := 40) hx hb dX7_readEntry_40 rfl (lv_at hl 2 rfl) ?_
    obtain ⟨σ30, e31, h⟩ := bnd1 h
    refine cl_X7_46 X hP hS hk0 (As := [.ref (ga G a1), .int (gI σ k0 2)]) (rest := []) (c_X7_readLot l G hk0 hk1 e31) ⟨rfl, rfl, Nat.le_of_ble_eq_true rfl, Nat.le_of_ble_eq_true rfl⟩ rfl hl.1 rfl (Nat.le_of_ble_eq_true rfl) ⟨Nat.zero_le _, Nat.zero_le _⟩ (pc := 41) dX7_readEntry_41 (fun H locs hP hS => ?_)
    change W p l e _ s m _ below meth c H locs _ _ _ (F0 m (41 + 3) ls [])
    refine lv_goto (pc := 44) (tgt := 108) hx hb dX7_readEntry_44 (by decide) ?_
    obtain rfl := Option.some.inj h
    exact r_vret X hP hS dX7_readEntry_108
def F_X7_readInto_17 (k0z : Nat) (k1z : Nat) (rec1 : Int32 → Mem → Option (Int32 × Mem)) : Int32 → Mem → Option (Int32 × Mem) := fun v2 σ =>
  if (gI σ k0z 1) ≤ v2 then
    some ((gI σ k0z 3), σ)
  else
    if (gI σ k0z 1) ≤ (gI σ k0z 2) then
      some ((gI σ k0z 3), σ)
    else
      if (gI σ k0z 3) = (-3 : Int32) then
        bd1 (f_X7_readEntry k0z k1z σ) fun σ10 =>
        bd1 (f_X7_skipBlanks k0z σ10) fun σ12 =>
        rec1 (v2 + (1 : Int32)) σ12
      else
        some ((gI σ k0z 3), σ)
def f_X7_readInto (k0 : Nat) (a1 : Nat) (σ : Mem) : Option (Int32 × Mem) :=
  bd1 (some (pI σ k0 2 (0 : Int32))) fun σ1 =>
  bd1 (some (pI σ1 k0 3 (-3 : Int32))) fun σ3 =>
  bd1 (f_X7_skipBlanks k0 σ3) fun σ5 =>
  iterF (F_X7_readInto_17 k0 a1) (fun _ _ => none) FU (0 : Int32) σ5
abbrev RM_X7_readInto : Room := { frames := 8, cells := 0, slots := 0, locals := 181 }
set_option maxHeartbeats 4000000 in
set_option maxRecDepth 100000 in
theorem w_X7_readInto_17 {l : Launch} {G : Gh} {p : Program} {e : Env} {s : State} {m : MethodId} {args : Array Value} {below : List Frame} {meth : Method} {c : Code} (X : Cx G p s m args meth c prog_9_method_4_code RX7 3 (some .int)) {k0z : Nat} {k1z : Nat} (hz0 : kd k0z = 7) (hz1 : kd k1z = 2) {rr : Int32} {σr : Mem} : ∀ (n : Nat) (v2 : Int32) (σ : Mem) (H : Heap) (locs : List Loc) (ls : Array Slot), PW G σ H → va_S (AA G) s.heap H locs → lv_has ls 3 [(0, .ref (ga G k0z)), (1, .ref (ga G k1z)), (2, .int v2)] → iterF (F_X7_readInto_17 k0z k1z) (fun _ _ => none) n v2 σ = some (rr, σr) → W p l e RM_X7_readInto s m args below meth c H locs 0 0 (MQ below (QG G (some (.int rr)) σr) args s 0 0 (AA G)) (F0 m 17 ls []) := by
  have hx := X.hx
  have hb := X.hb
  intro n
  induction n with
  | zero => intro v2 σ H locs ls hP hS hl h; exact nnone (α := (Int32 × Mem)) h
  | succ n ih1 =>
    intro v2 σ H locs ls hP hS hl h
    have h : F_X7_readInto_17 k0z k1z (iterF (F_X7_readInto_17 k0z k1z) (fun _ _ => none) n) v2 σ = some _ := h
    unfold F_X7_readInto_17 at h
    refine lv_iload_n (pc := 17) hx hb dX7_readInto_17 rfl (lv_at hl 2 rfl) ?_
    refine lv_aload_n (pc := 18) hx hb dX7_readInto_18 rfl (lv_at hl 0 rfl) ?_
    refine gt_X7_15 X hP hz0 dX7_readInto_19 ?_
    refine lv_icmp_ge (pc := 22) (tgt := 60) hx hb dX7_readInto_22 (by decide) (fun c7 => ?_) (fun c7 => ?_)
    · have h := ipos c7 h
      refine lv_aload_n (pc := 60) hx hb dX7_readInto_60 rfl (lv_at hl 0 rfl) ?_
      refine gt_X7_22 X hP hz0 dX7_readInto_61 ?_
      obtain ⟨rfl, rfl⟩ := inj2 h
      exact r_iret X hP hS dX7_readInto_64
    · have h := ineg c7 h
      refine lv_aload_n (pc := 25) hx hb dX7_readInto_25 rfl (lv_at hl 0 rfl) ?_
      refine gt_X7_19 X hP hz0 dX7_readInto_26 ?_
      refine lv_aload_n (pc := 29) hx hb dX7_readInto_29 rfl (lv_at hl 0 rfl) ?_
      refine gt_X7_15 X hP hz0 dX7_readInto_30 ?_
      refine lv_icmp_ge (pc := 33) (tgt := 60) hx hb dX7_readInto_33 (by decide) (fun c8 => ?_) (fun c8 => ?_)
      · have h := ipos c8 h
        refine lv_aload_n (pc := 60) hx hb dX7_readInto_60 rfl (lv_at hl 0 rfl) ?_
        refine gt_X7_22 X hP hz0 dX7_readInto_61 ?_
        obtain ⟨rfl, rfl⟩ := inj2 h
        exact r_iret X hP hS dX7_readInto_64
      · have h := ineg c8 h
        refine lv_aload_n (pc := 36) hx hb dX7_readInto_36 rfl (lv_at hl 0 rfl) ?_
        refine gt_X7_22 X hP hz0 dX7_readInto_37 ?_
        refine lv_bipush (pc := 40) (v := (-3)) hx hb dX7_readInto_40 (by decide) ?_
        refine lv_icmp_ne (pc := 42) (tgt := 60) hx hb dX7_readInto_42 (by decide) (fun c9 => ?_) (fun c9 => ?_)
        · have h := ineg c9 h
          refine lv_aload_n (pc := 60) hx hb dX7_readInto_60 rfl (lv_at hl 0 rfl) ?_
          refine gt_X7_22 X hP hz0 dX7_readInto_61 ?_
          obtain ⟨rfl, rfl⟩ := inj2 h
          exact r_iret X hP hS dX7_readInto_64
        · have h := ipos c9 h
          refine lv_aload_n (pc := 45) hx hb dX7_readInto_45 rfl (lv_at hl 0 rfl) ?_
          refine lv_aload_n (pc := 46) hx hb dX7_readInto_46 rfl (lv_at hl 1 rfl) ?_
          obtain ⟨σ10, e11, h⟩ := bnd1 h
          refine cl_X7_28 X hP hS hz0 (As := [.ref (ga G k1z)]) (rest := []) (c_X7_readEntry l G hz0 hz1 e11) ⟨rfl, rfl, Nat.le_of_ble_eq_true rfl, Nat.le_of_ble_eq_true rfl⟩ rfl hl.1 rfl (Nat.le_of_ble_eq_true rfl) ⟨Nat.zero_le _, Nat.zero_le _⟩ (pc := 47) dX7_readInto_47 (fun H locs hP hS => ?_)
          change W p l e _ s m _ below meth c H locs _ _ _ (F0 m (47 + 3) ls [])
          refine lv_aload_n (pc := 50) hx hb dX7_readInto_50 rfl (lv_at hl 0 rfl) ?_
          obtain ⟨σ12, e13, h⟩ := bnd1 h
          refine cl_X7_25 X hP hS hz0 (As := []) (rest := []) (c_X7_skipBlanks l G hz0 e13) ⟨rfl, rfl, Nat.le_of_ble_eq_true rfl, Nat.le_of_ble_eq_true rfl⟩ rfl hl.1 rfl (Nat.le_of_ble_eq_true rfl) ⟨Nat.zero_le _, Nat.zero_le _⟩ (pc := 51) dX7_readInto_51 (fun H locs hP hS => ?_)
          change W p l e _ s m _ below meth c H locs _ _ _ (F0 m (51 + 3) ls [])
          refine lv_iinc (pc := 54) (v := (v2 + (1 : Int32))) (lv' := [(2, .int (v2 + (1 : Int32))), (0, .ref (ga G k0z)), (1, .ref (ga G k1z))]) hx hb dX7_readInto_54 hl (k := 2) rfl (congrArg (fun z => v2 + z) (by decide)) (by decide) rfl (fun ls hl => ?_)
          refine lv_goto (pc := 57) (tgt := 17) hx hb dX7_readInto_57 (by decide) ?_
          exact ih1 _ _ _ _ _ hP hS (lv_sub hl [1, 2, 0] rfl) h
set_option maxHeartbeats 4000000 in
set_option maxRecDepth 100000 in
theorem c_X7_readInto (l : Launch) (G : Gh) {k0 : Nat} {a1 : Nat} {σ : Mem} {rr : Int32} {σr : Mem} (hk0 : kd k0 = 7) (hk1 : kd a1 = 2) (h : f_X7_readInto k0 a1 σ = some (rr, σr)) : Met l yX7_readInto [Cond.code yX7_readInto prog_9_method_4_code 3 (some .int)] RM_X7_readInto (va_Pc [.ref (ga G k0), .ref (ga G a1)] (Pre G σ)) (QG G (some (.int rr)) σr) 0 0 (AA G) := by
  refine ct_of (by decide) (fun p e s m below meth c X hP => ?_)
  have hx := X.hx
  have hb := X.hb
  have hS : va_S (AA G) s.heap s.heap [] := va_S.rf
  have hl := lv_entry ([.ref (ga G k0), .ref (ga G a1)]) (n := 3) (Nat.le_of_ble_eq_true rfl)
  rw [lg_entry_eq]
  generalize (lg_sl ([.ref (ga G k0), .ref (ga G a1)]) ++ List.replicate (3 - (lg_sl ([.ref (ga G k0), .ref (ga G a1)])).length) Slot.unset).toArray = ls at hl ⊢
  have hl : lv_has ls 3 [(0, .ref (ga G k0)), (1, .ref (ga G a1))] := hl
  unfold f_X7_readInto at h
  refine lv_aload_n (pc := 0) hx hb dX7_readInto_0 rfl (lv_at hl 0 rfl) ?_
  refine lv_iconst (pc := 1) (v := 0) hx hb dX7_readInto_1 (by decide) ?_
  obtain ⟨σ1, e2, h⟩ := bnd1 h
  refine pt_X7_19 X hP hS hk0 dX7_readInto_2 (fun H locs hP hS => ?_)
  rw [Option.some.inj e2] at hP
  refine lv_aload_n (pc := 5) hx hb dX7_readInto_5 rfl (lv_at hl 0 rfl) ?_
  refine lv_bipush (pc := 6) (v := (-3)) hx hb dX7_readInto_6 (by decide) ?_
  obtain ⟨σ3, e4, h⟩ := bnd1 h
  refine pt_X7_22 X hP hS hk0 dX7_readInto_8 (fun H locs hP hS => ?_)
  rw [Option.some.inj e4] at hP
  refine lv_aload_n (pc := 11) hx hb dX7_readInto_11 rfl (lv_at hl 0 rfl) ?_
  obtain ⟨σ5, e6, h⟩ := bnd1 h
  refine cl_X7_25 X hP hS hk0 (As := []) (rest := []) (c_X7_skipBlanks l G hk0 e6) ⟨rfl, rfl, Nat.le_of_ble_eq_true rfl, Nat.le_of_ble_eq_true rfl⟩ rfl hl.1 rfl (Nat.le_of_ble_eq_true rfl) ⟨Nat.zero_le _, Nat.zero_le _⟩ (pc := 12) dX7_readInto_12 (fun H locs hP hS => ?_)
  change W p l e _ s m _ below meth c H locs _ _ _ (F0 m (12 + 3) ls [])
  refine lv_iconst (pc := 15) (v := 0) hx hb dX7_readInto_15 (by decide) ?_
  refine lv_istore_n (pc := 16) (lv' := [(2, .int (0 : Int32)), (0, .ref (ga G k0)), (1, .ref (ga G a1))]) hx hb dX7_readInto_16 rfl hl (by decide) rfl (fun ls hl => ?_)
  exact w_X7_readInto_17 X  hk0 hk1  FU _ _ _ _ _ hP hS (lv_sub hl [1, 2, 0] rfl) h
