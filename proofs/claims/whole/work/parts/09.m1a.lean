def f_X1_clear (k0 : Nat) (σ : Mem) : Option Mem :=
  bd1 (some (pI σ k0 1 (0 : Int32))) fun σ1 =>
  bd1 (some (pI σ1 k0 2 (0 : Int32))) fun σ3 =>
  some σ3
abbrev RM_X1_clear : Room := { frames := 0, cells := 0, slots := 0, locals := 0 }
set_option maxHeartbeats 4000000 in
set_option maxRecDepth 100000 in
theorem c_X1_clear (l : Launch) (G : Gh) {k0 : Nat} {σ : Mem} {σr : Mem} (hk0 : kd k0 = 1) (h : f_X1_clear k0 σ = some σr) : Met l yX1_clear [Cond.code yX1_clear prog_3_method_2_code 1 none] RM_X1_clear (va_Pc [.ref (ga G k0)] (Pre G σ)) (QG G none σr) 0 0 (AA G) := by
  refine ct_of (by decide) (fun p e s m below meth c X hP => ?_)
  have hx := X.hx
  have hb := X.hb
  have hS : va_S (AA G) s.heap s.heap [] := va_S.rf
  have hl := lv_entry ([.ref (ga G k0)]) (n := 1) (Nat.le_of_ble_eq_true rfl)
  rw [lg_entry_eq]
  generalize (lg_sl ([.ref (ga G k0)]) ++ List.replicate (1 - (lg_sl ([.ref (ga G k0)])).length) Slot.unset).toArray = ls at hl ⊢
  have hl : lv_has ls 1 [(0, .ref (ga G k0))] := hl
  unfold f_X1_clear at h
  refine lv_aload_n (pc := 0) hx hb dX1_clear_0 rfl (lv_at hl 0 rfl) ?_
  refine lv_iconst (pc := 1) (v := 0) hx hb dX1_clear_1 (by decide) ?_
  obtain ⟨σ1, e2, h⟩ := bnd1 h
  refine pt_X1_15 X hP hS hk0 dX1_clear_2 (fun H locs hP hS => ?_)
  rw [Option.some.inj e2] at hP
  refine lv_aload_n (pc := 5) hx hb dX1_clear_5 rfl (lv_at hl 0 rfl) ?_
  refine lv_iconst (pc := 6) (v := 0) hx hb dX1_clear_6 (by decide) ?_
  obtain ⟨σ3, e4, h⟩ := bnd1 h
  refine pt_X1_19 X hP hS hk0 (by decide) dX1_clear_7 (fun H locs hP hS => ?_)
  rw [Option.some.inj e4] at hP
  obtain rfl := Option.some.inj h
  exact r_vret X hP hS dX1_clear_10
def f_X1_bodyAt (k0 : Nat) (a1 : Int32) (σ : Mem) : Option (Int32 × Mem) :=
  if a1 < (0 : Int32) then
    some ((-3 : Int32), σ)
  else
    if (gI σ k0 1) ≤ a1 then
      some ((-3 : Int32), σ)
    else
      if (30 : Int32) ≤ a1 then
        some ((-3 : Int32), σ)
      else
        bd1 (ixo (k0 + 1) a1) fun j4 =>
        some ((gI σ (k0 + 1) j4), σ)
abbrev RM_X1_bodyAt : Room := { frames := 0, cells := 0, slots := 0, locals := 0 }
set_option maxHeartbeats 4000000 in
set_option maxRecDepth 100000 in
theorem c_X1_bodyAt (l : Launch) (G : Gh) {k0 : Nat} {a1 : Int32} {σ : Mem} {rr : Int32} {σr : Mem} (hk0 : kd k0 = 1) (h : f_X1_bodyAt k0 a1 σ = some (rr, σr)) : Met l yX1_bodyAt [Cond.code yX1_bodyAt prog_3_method_3_code 2 (some .int)] RM_X1_bodyAt (va_Pc [.ref (ga G k0), .int a1] (Pre G σ)) (QG G (some (.int rr)) σr) 0 0 (AA G) := by
  refine ct_of (by decide) (fun p e s m below meth c X hP => ?_)
  have hx := X.hx
  have hb := X.hb
  have hS : va_S (AA G) s.heap s.heap [] := va_S.rf
  have hl := lv_entry ([.ref (ga G k0), .int a1]) (n := 2) (Nat.le_of_ble_eq_true rfl)
  rw [lg_entry_eq]
  generalize (lg_sl ([.ref (ga G k0), .int a1]) ++ List.replicate (2 - (lg_sl ([.ref (ga G k0), .int a1])).length) Slot.unset).toArray = ls at hl ⊢
  have hl : lv_has ls 2 [(0, .ref (ga G k0)), (1, .int a1)] := hl
  unfold f_X1_bodyAt at h
  refine lv_iload_n (pc := 0) hx hb dX1_bodyAt_0 rfl (lv_at hl 1 rfl) ?_
  refine lv_if_lt (pc := 1) (tgt := 27) hx hb dX1_bodyAt_1 (by decide) (fun c1 => ?_) (fun c1 => ?_)
  · have h := ipos c1 h
    refine lv_bipush (pc := 27) (v := (-3)) hx hb dX1_bodyAt_27 (by decide) ?_
    obtain ⟨rfl, rfl⟩ := inj2 h
    exact r_iret X hP hS dX1_bodyAt_29
  · have h := ineg c1 h
    refine lv_iload_n (pc := 4) hx hb dX1_bodyAt_4 rfl (lv_at hl 1 rfl) ?_
    refine lv_aload_n (pc := 5) hx hb dX1_bodyAt_5 rfl (lv_at hl 0 rfl) ?_
    refine gt_X1_15 X hP hk0 dX1_bodyAt_6 ?_
    refine lv_icmp_ge (pc := 9) (tgt := 27) hx hb dX1_bodyAt_9 (by decide) (fun c2 => ?_) (fun c2 => ?_)
    · have h := ipos c2 h
      refine lv_bipush (pc := 27) (v := (-3)) hx hb dX1_bodyAt_27 (by decide) ?_
      obtain ⟨rfl, rfl⟩ := inj2 h
      exact r_iret X hP hS dX1_bodyAt_29
    · have h := ineg c2 h
      refine lv_iload_n (pc := 12) hx hb dX1_bodyAt_12 rfl (lv_at hl 1 rfl) ?_
      refine lv_bipush (pc := 13) (v := (30)) hx hb dX1_bodyAt_13 (by decide) ?_
      refine lv_icmp_ge (pc := 15) (tgt := 27) hx hb dX1_bodyAt_15 (by decide) (fun c3 => ?_) (fun c3 => ?_)
      · have h := ipos c3 h
        refine lv_bipush (pc := 27) (v := (-3)) hx hb dX1_bodyAt_27 (by decide) ?_
        obtain ⟨rfl, rfl⟩ := inj2 h
        exact r_iret X hP hS dX1_bodyAt_29
      · have h := ineg c3 h
        refine lv_aload_n (pc := 18) hx hb dX1_bodyAt_18 rfl (lv_at hl 0 rfl) ?_
        refine gt_X1_11 X hP hk0 dX1_bodyAt_19 ?_
        refine lv_iload_n (pc := 22) hx hb dX1_bodyAt_22 rfl (lv_at hl 1 rfl) ?_
        obtain ⟨j4, hj5, h⟩ := bnd1 h
        refine r_iald (pc := 23) X hP (kf_1_bodies hk0).1 hj5 dX1_bodyAt_23 ?_
        refine lv_goto (pc := 24) (tgt := 29) hx hb dX1_bodyAt_24 (by decide) ?_
        obtain ⟨rfl, rfl⟩ := inj2 h
        exact r_iret X hP hS dX1_bodyAt_29
def f_X1_begin (k0 : Nat) (a1 : Int32) (σ : Mem) : Option Mem :=
  if (gI σ k0 2) = (0 : Int32) then
    if (30 : Int32) ≤ (gI σ k0 1) then
      some σ
    else
      bd1 (ixo (k0 + 1) (gI σ k0 1)) fun j3 =>
      bd1 (some (pI σ (k0 + 1) j3 a1)) fun σ5 =>
      bd1 (some (pI σ5 k0 1 ((gI σ5 k0 1) + (1 : Int32)))) fun σ7 =>
      some σ7
  else
    some σ
abbrev RM_X1_begin : Room := { frames := 0, cells := 0, slots := 0, locals := 0 }
set_option maxHeartbeats 4000000 in
set_option maxRecDepth 100000 in
theorem c_X1_begin (l : Launch) (G : Gh) {k0 : Nat} {a1 : Int32} {σ : Mem} {σr : Mem} (hk0 : kd k0 = 1) (h : f_X1_begin k0 a1 σ = some σr) : Met l yX1_begin [Cond.code yX1_begin prog_3_method_6_code 2 none] RM_X1_begin (va_Pc [.ref (ga G k0), .int a1] (Pre G σ)) (QG G none σr) 0 0 (AA G) := by
  refine ct_of (by decide) (fun p e s m below meth c X hP => ?_)
  have hx := X.hx
  have hb := X.hb
  have hS : va_S (AA G) s.heap s.heap [] := va_S.rf
  have hl := lv_entry ([.ref (ga G k0), .int a1]) (n := 2) (Nat.le_of_ble_eq_true rfl)
  rw [lg_entry_eq]
  generalize (lg_sl ([.ref (ga G k0), .int a1]) ++ List.replicate (2 - (lg_sl ([.ref (ga G k0), .int a1])).length) Slot.unset).toArray = ls at hl ⊢
  have hl : lv_has ls 2 [(0, .ref (ga G k0)), (1, .int a1)] := hl
  unfold f_X1_begin at h
  refine lv_aload_n (pc := 0) hx hb dX1_begin_0 rfl (lv_at hl 0 rfl) ?_
  refine gt_X1_19 X hP hk0 dX1_begin_1 ?_
  refine lv_if_ne (pc := 4) (tgt := 36) hx hb dX1_begin_4 (by decide) (fun c1 => ?_) (fun c1 => ?_)
  · have h := ineg c1 h
    obtain rfl := Option.some.inj h
    exact r_vret X hP hS dX1_begin_36
  · have h := ipos c1 h
    refine lv_aload_n (pc := 7) hx hb dX1_begin_7 rfl (lv_at hl 0 rfl) ?_
    refine gt_X1_15 X hP hk0 dX1_begin_8 ?_
    refine lv_bipush (pc := 11) (v := (30)) hx hb dX1_begin_11 (by decide) ?_
    refine lv_icmp_ge (pc := 13) (tgt := 36) hx hb dX1_begin_13 (by decide) (fun c2 => ?_) (fun c2 => ?_)
    · have h := ipos c2 h
      obtain rfl := Option.some.inj h
      exact r_vret X hP hS dX1_begin_36
    · have h := ineg c2 h
      refine lv_aload_n (pc := 16) hx hb dX1_begin_16 rfl (lv_at hl 0 rfl) ?_
      refine gt_X1_11 X hP hk0 dX1_begin_17 ?_
      refine lv_aload_n (pc := 20) hx hb dX1_begin_20 rfl (lv_at hl 0 rfl) ?_
      refine gt_X1_15 X hP hk0 dX1_begin_21 ?_
      refine lv_iload_n (pc := 24) hx hb dX1_begin_24 rfl (lv_at hl 1 rfl) ?_
      obtain ⟨j3, hj4, h⟩ := bnd1 h
      obtain ⟨σ5, e6, h⟩ := bnd1 h
      refine r_iast (pc := 25) X hP hS (kf_1_bodies hk0).1 hj4 dX1_begin_25 (fun H locs hP hS => ?_)
      rw [Option.some.inj e6] at hP
      refine lv_aload_n (pc := 26) hx hb dX1_begin_26 rfl (lv_at hl 0 rfl) ?_
      refine lv_dup (pc := 27) hx hb dX1_begin_27 rfl ?_
      refine gt_X1_15 X hP hk0 dX1_begin_28 ?_
      refine lv_iconst (pc := 31) (v := 1) hx hb dX1_begin_31 (by decide) ?_
      refine lv_iadd (pc := 32) hx hb dX1_begin_32 ?_
      obtain ⟨σ7, e8, h⟩ := bnd1 h
      refine pt_X1_15 X hP hS hk0 dX1_begin_33 (fun H locs hP hS => ?_)
      rw [Option.some.inj e8] at hP
      obtain rfl := Option.some.inj h
      exact r_vret X hP hS dX1_begin_36
def f_X9_kindAbove (a0 : Int32) (σ : Mem) : Option (Int32 × Mem) :=
  if a0 = (3 : Int32) then
    some ((1 : Int32), σ)
  else
  if a0 = (4 : Int32) then
    some ((2 : Int32), σ)
  else
  if a0 = (5 : Int32) then
    some ((1 : Int32), σ)
  else
  some ((0 : Int32), σ)
abbrev RM_X9_kindAbove : Room := { frames := 0, cells := 0, slots := 0, locals := 0 }
set_option maxHeartbeats 4000000 in
set_option maxRecDepth 100000 in
theorem c_X9_kindAbove (l : Launch) (G : Gh) {a0 : Int32} {σ : Mem} {rr : Int32} {σr : Mem} (h : f_X9_kindAbove a0 σ = some (rr, σr)) : Met l yX9_kindAbove [Cond.code yX9_kindAbove prog_1_method_50_code 1 (some .int)] RM_X9_kindAbove (va_Pc [.int a0] (Pre G σ)) (QG G (some (.int rr)) σr) 0 0 (AA G) := by
  refine ct_of (by decide) (fun p e s m below meth c X hP => ?_)
  have hx := X.hx
  have hb := X.hb
  have hS : va_S (AA G) s.heap s.heap [] := va_S.rf
  have hl := lv_entry ([.int a0]) (n := 1) (Nat.le_of_ble_eq_true rfl)
  rw [lg_entry_eq]
  generalize (lg_sl ([.int a0]) ++ List.replicate (1 - (lg_sl ([.int a0])).length) Slot.unset).toArray = ls at hl ⊢
  have hl : lv_has ls 1 [(0, .int a0)] := hl
  unfold f_X9_kindAbove at h
  refine lv_iload_n (pc := 0) hx hb dX9_kindAbove_0 rfl (lv_at hl 0 rfl) ?_
  by_cases c1 : a0 = (3 : Int32)
  · have h := ipos c1 h
    refine r_tabIn X (pc := 1) (tgt := 28) c1 dX9_kindAbove_1 (by decide) (by decide) rfl (by decide) ?_
    refine lv_iconst (pc := 28) (v := 1) hx hb dX9_kindAbove_28 (by decide) ?_
    obtain ⟨rfl, rfl⟩ := inj2 h
    exact r_iret X hP hS dX9_kindAbove_29
  have h := ineg c1 h
  by_cases c2 : a0 = (4 : Int32)
  · have h := ipos c2 h
    refine r_tabIn X (pc := 1) (tgt := 30) c2 dX9_kindAbove_1 (by decide) (by decide) rfl (by decide) ?_
    refine lv_iconst (pc := 30) (v := 2) hx hb dX9_kindAbove_30 (by decide) ?_
    obtain ⟨rfl, rfl⟩ := inj2 h
    exact r_iret X hP hS dX9_kindAbove_31
  have h := ineg c2 h
  by_cases c3 : a0 = (5 : Int32)
  · have h := ipos c3 h
    refine r_tabIn X (pc := 1) (tgt := 28) c3 dX9_kindAbove_1 (by decide) (by decide) rfl (by decide) ?_
    refine lv_iconst (pc := 28) (v := 1) hx hb dX9_kindAbove_28 (by decide) ?_
    obtain ⟨rfl, rfl⟩ := inj2 h
    exact r_iret X hP hS dX9_kindAbove_29
  have h := ineg c3 h
  refine lv_tableOut (pc := 1) (tgt := 32) hx hb dX9_kindAbove_1 (by have := lv_neT c1 (a := 3) (by decide); have := lv_neT c2 (a := 4) (by decide); have := lv_neT c3 (a := 5) (by decide); omega) (by decide) ?_
  refine lv_iconst (pc := 32) (v := 0) hx hb dX9_kindAbove_32 (by decide) ?_
  obtain ⟨rfl, rfl⟩ := inj2 h
  exact r_iret X hP hS dX9_kindAbove_33
def F_X1_calls (rec : Nat → Int32 → Int32 → Mem → Option (Int32 × Mem)) : Nat → Int32 → Int32 → Mem → Option (Int32 × Mem) := fun a0 a1 a2 σ =>
  if a1 = (0 : Int32) then
    bd1 (f_X1_begin a0 (10 : Int32) σ) fun σ2 =>
    some ((a2 + (gI σ2 a0 4)), σ2)
  else
  if a1 = (1 : Int32) then
    bd2 (f_X9_kindAbove a1 σ) fun r7 σ5 =>
    bd2 (rec a0 r7 a2 σ5) fun r10 σ8 =>
    some (r10, σ8)
  else
  if a1 = (2 : Int32) then
    bd1 (f_X1_begin a0 (30 : Int32) σ) fun σ12 =>
    bd2 (rec a0 (0 : Int32) a2 σ12) fun r16 σ14 =>
    some ((r16 * (3 : Int32)), σ14)
  else
  if a1 = (3 : Int32) then
    bd1 (f_X1_begin a0 (51 : Int32) σ) fun σ18 =>
    bd2 (rec a0 (1 : Int32) a2 σ18) fun r22 σ20 =>
    some ((r22 - (gI σ20 a0 4)), σ20)
  else
  if a1 = (4 : Int32) then
    bd1 (f_X1_begin a0 (40 : Int32) σ) fun σ24 =>
    bd2 (rec a0 (2 : Int32) a2 σ24) fun r28 σ26 =>
    some (((0 : Int32) - r28), σ26)
  else
  bd2 (f_X9_kindAbove a1 σ) fun r31 σ29 =>
  bd2 (rec a0 r31 a2 σ29) fun r34 σ32 =>
  some (r34, σ32)
def f_X1_calls (n : Nat) : Nat → Int32 → Int32 → Mem → Option (Int32 × Mem) := iterF F_X1_calls (fun _ _ _ _ => none) n
def RM_X1_calls (n : Nat) : Room := { frames := n + 1, cells := 0, slots := 0, locals := n * 60 + 21 }
set_option maxHeartbeats 4000000 in
set_option maxRecDepth 100000 in
theorem c_X1_calls (l : Launch) (G : Gh) : ∀ (n : Nat) {a0 : Nat} {a1 : Int32} {a2 : Int32}  {σ : Mem} {rr : Int32} {σr : Mem} (hk0 : kd a0 = 1) (_ : f_X1_calls n a0 a1 a2 σ = some (rr, σr)), Met l yX1_calls [Cond.code yX1_calls prog_3_method_7_code 3 (some .int)] (RM_X1_calls n) (va_Pc [.ref (ga G a0), .int a1, .int a2] (Pre G σ)) (QG G (some (.int rr)) σr) 0 0 (AA G) := by
  intro n
  induction n with
  | zero => intro a0 a1 a2 σ rr σr hk0 h; exact nnone (α := (Int32 × Mem)) h
  | succ n ih =>
    intro a0 a1 a2 σ rr σr hk0 h
    refine ct_of (by decide) (fun p e s m below meth c X hP => ?_)
    have hx := X.hx
    have hb := X.hb
    have hS : va_S (AA G) s.heap s.heap [] := va_S.rf
    have hl := lv_entry ([.ref (ga G a0), .int a1, .int a2]) (n := 3) (Nat.le_of_ble_eq_true rfl)
    rw [lg_entry_eq]
    generalize (lg_sl ([.ref (ga G a0), .int a1, .int a2]) ++ List.replicate (3 - (lg_sl ([.ref (ga G a0), .int a1, .int a2])).length) Slot.unset).toArray = ls at hl ⊢
    have hl : lv_has ls 3 [(0, .ref (ga G a0)), (1, .int a1), (2, .int a2)] := hl
    have h : F_X1_calls (f_X1_calls n) a0 a1 a2 σ = some _ := h
    unfold F_X1_calls at h
    refine lv_iload_n (pc := 0) hx hb dX1_calls_0 rfl (lv_at hl 1 rfl) ?_
    by_cases c1 : a1 = (0 : Int32)
    · have h := ipos c1 h
      refine r_tabIn X (pc := 1) (tgt := 36) c1 dX1_calls_1 (by decide) (by decide) rfl (by decide) ?_
      refine lv_aload_n (pc := 36) hx hb dX1_calls_36 rfl (lv_at hl 0 rfl) ?_
      refine lv_bipush (pc := 37) (v := (10)) hx hb dX1_calls_37 (by decide) ?_
      obtain ⟨σ2, e3, h⟩ := bnd1 h
      refine cl_X1_55 X hP hS hk0 (As := [.int (10 : Int32)]) (rest := []) (c_X1_begin l G hk0 e3) ⟨rfl, rfl, Nat.le_trans (Nat.le_of_ble_eq_true rfl) (Nat.le_add_left _ _), Nat.le_trans (Nat.le_of_ble_eq_true rfl) (Nat.le_add_left _ _)⟩ rfl hl.1 rfl (Nat.le_of_ble_eq_true rfl) ⟨Nat.zero_le _, Nat.zero_le _⟩ (pc := 39) dX1_calls_39 (fun H locs hP hS => ?_)
      change W p l e _ s m _ below meth c H locs _ _ _ (F0 m (39 + 3) ls [])
      refine lv_iload_n (pc := 42) hx hb dX1_calls_42 rfl (lv_at hl 2 rfl) ?_
      refine lv_aload_n (pc := 43) hx hb dX1_calls_43 rfl (lv_at hl 0 rfl) ?_
      refine gt_X1_26 X hP hk0 dX1_calls_44 ?_
      refine lv_iadd (pc := 47) hx hb dX1_calls_47 ?_
      obtain ⟨rfl, rfl⟩ := inj2 h
      exact r_iret X hP hS dX1_calls_48
    have h := ineg c1 h
    by_cases c4 : a1 = (1 : Int32)
    · have h := ipos c4 h
      refine r_tabIn X (pc := 1) (tgt := 97) c4 dX1_calls_1 (by decide) (by decide) rfl (by decide) ?_
      refine lv_aload_n (pc := 97) hx hb dX1_calls_97 rfl (lv_at hl 0 rfl) ?_
      refine lv_iload_n (pc := 98) hx hb dX1_calls_98 rfl (lv_at hl 1 rfl) ?_
      obtain ⟨r7, σ5, e6, h⟩ := bnd2 h
      refine cl_X1_59 X hP hS (As := [.int a1]) (rest := [.ref (ga G a0)]) (c_X9_kindAbove l G  e6) ⟨rfl, rfl, Nat.le_trans (Nat.le_of_ble_eq_true rfl) (Nat.le_add_left _ _), Nat.le_trans (Nat.le_of_ble_eq_true rfl) (Nat.le_add_left _ _)⟩ rfl hl.1 rfl (Nat.le_of_ble_eq_true rfl) ⟨Nat.zero_le _, Nat.zero_le _⟩ (pc := 99) dX1_calls_99 (fun H locs hP hS => ?_)
      change W p l e _ s m _ below meth c H locs _ _ _ (F0 m (99 + 3) ls (.int r7 :: [.ref (ga G a0)]))
      refine lv_iload_n (pc := 102) hx hb dX1_calls_102 rfl (lv_at hl 2 rfl) ?_
      obtain ⟨r10, σ8, e9, h⟩ := bnd2 h
      refine cl_X1_42 X hP hS (As := [.ref (ga G a0), .int r7, .int a2]) (rest := []) (ih hk0 e9) ⟨rfl, rfl, Nat.le_refl _, (by show 8 + (3 + 11) + (n * 60 + 21) ≤ (n + 1) * 60 + 21; omega)⟩ rfl hl.1 rfl (Nat.le_of_ble_eq_true rfl) ⟨Nat.zero_le _, Nat.zero_le _⟩ (pc := 103) dX1_calls_103 (fun H locs hP hS => ?_)
      change W p l e _ s m _ below meth c H locs _ _ _ (F0 m (103 + 3) ls (.int r10 :: []))
      obtain ⟨rfl, rfl⟩ := inj2 h
      exact r_iret X hP hS dX1_calls_106
    have h := ineg c4 h
    by_cases c11 : a1 = (2 : Int32)
    · have h := ipos c11 h
      refine r_tabIn X (pc := 1) (tgt := 49) c11 dX1_calls_1 (by decide) (by decide) rfl (by decide) ?_
      refine lv_aload_n (pc := 49) hx hb dX1_calls_49 rfl (lv_at hl 0 rfl) ?_
      refine lv_bipush (pc := 50) (v := (30)) hx hb dX1_calls_50 (by decide) ?_
      obtain ⟨σ12, e13, h⟩ := bnd1 h
      refine cl_X1_55 X hP hS hk0 (As := [.int (30 : Int32)]) (rest := []) (c_X1_begin l G hk0 e13) ⟨rfl, rfl, Nat.le_trans (Nat.le_of_ble_eq_true rfl) (Nat.le_add_left _ _), Nat.le_trans (Nat.le_of_ble_eq_true rfl) (Nat.le_add_left _ _)⟩ rfl hl.1 rfl (Nat.le_of_ble_eq_true rfl) ⟨Nat.zero_le _, Nat.zero_le _⟩ (pc := 52) dX1_calls_52 (fun H locs hP hS => ?_)
      change W p l e _ s m _ below meth c H locs _ _ _ (F0 m (52 + 3) ls [])
      refine lv_aload_n (pc := 55) hx hb dX1_calls_55 rfl (lv_at hl 0 rfl) ?_
      refine lv_iconst (pc := 56) (v := 0) hx hb dX1_calls_56 (by decide) ?_
      refine lv_iload_n (pc := 57) hx hb dX1_calls_57 rfl (lv_at hl 2 rfl) ?_
      obtain ⟨r16, σ14, e15, h⟩ := bnd2 h
      refine cl_X1_42 X hP hS (As := [.ref (ga G a0), .int (0 : Int32), .int a2]) (rest := []) (ih hk0 e15) ⟨rfl, rfl, Nat.le_refl _, (by show 8 + (3 + 11) + (n * 60 + 21) ≤ (n + 1) * 60 + 21; omega)⟩ rfl hl.1 rfl (Nat.le_of_ble_eq_true rfl) ⟨Nat.zero_le _, Nat.zero_le _⟩ (pc := 58) dX1_calls_58 (fun H locs hP hS => ?_)
      change W p l e _ s m _ below meth c H locs _ _ _ (F0 m (58 + 3) ls (.int r16 :: []))
      refine lv_iconst (pc := 61) (v := 3) hx hb dX1_calls_61 (by decide) ?_
      refine lv_imul (pc := 62) hx hb dX1_calls_62 ?_
      obtain ⟨rfl, rfl⟩ := inj2 h
      exact r_iret X hP hS dX1_calls_63
    have h := ineg c11 h
    by_cases c17 : a1 = (3 : Int32)
    · have h := ipos c17 h
      refine r_tabIn X (pc := 1) (tgt := 79) c17 dX1_calls_1 (by decide) (by decide) rfl (by decide) ?_
      refine lv_aload_n (pc := 79) hx hb dX1_calls_79 rfl (lv_at hl 0 rfl) ?_
      refine lv_bipush (pc := 80) (v := (51)) hx hb dX1_calls_80 (by decide) ?_
      obtain ⟨σ18, e19, h⟩ := bnd1 h
      refine cl_X1_55 X hP hS hk0 (As := [.int (51 : Int32)]) (rest := []) (c_X1_begin l G hk0 e19) ⟨rfl, rfl, Nat.le_trans (Nat.le_of_ble_eq_true rfl) (Nat.le_add_left _ _), Nat.le_trans (Nat.le_of_ble_eq_true rfl) (Nat.le_add_left _ _)⟩ rfl hl.1 rfl (Nat.le_of_ble_eq_true rfl) ⟨Nat.zero_le _, Nat.zero_le _⟩ (pc := 82) dX1_calls_82 (fun H locs hP hS => ?_)
      change W p l e _ s m _ below meth c H locs _ _ _ (F0 m (82 + 3) ls [])
      refine lv_aload_n (pc := 85) hx hb dX1_calls_85 rfl (lv_at hl 0 rfl) ?_
      refine lv_iconst (pc := 86) (v := 1) hx hb dX1_calls_86 (by decide) ?_
      refine lv_iload_n (pc := 87) hx hb dX1_calls_87 rfl (lv_at hl 2 rfl) ?_
      obtain ⟨r22, σ20, e21, h⟩ := bnd2 h
      refine cl_X1_42 X hP hS (As := [.ref (ga G a0), .int (1 : Int32), .int a2]) (rest := []) (ih hk0 e21) ⟨rfl, rfl, Nat.le_refl _, (by show 8 + (3 + 11) + (n * 60 + 21) ≤ (n + 1) * 60 + 21; omega)⟩ rfl hl.1 rfl (Nat.le_of_ble_eq_true rfl) ⟨Nat.zero_le _, Nat.zero_le _⟩ (pc := 88) dX1_calls_88 (fun H locs hP hS => ?_)
      change W p l e _ s m _ below meth c H locs _ _ _ (F0 m (88 + 3) ls (.int r22 :: []))
      refine lv_aload_n (pc := 91) hx hb dX1_calls_91 rfl (lv_at hl 0 rfl) ?_
      refine gt_X1_26 X hP hk0 dX1_calls_92 ?_
      refine lv_isub (pc := 95) hx hb dX1_calls_95 ?_
      obtain ⟨rfl, rfl⟩ := inj2 h
      exact r_iret X hP hS dX1_calls_96
    have h := ineg c17 h
    by_cases c23 : a1 = (4 : Int32)
    · have h := ipos c23 h
      refine r_tabIn X (pc := 1) (tgt := 64) c23 dX1_calls_1 (by decide) (by decide) rfl (by decide) ?_
      refine lv_aload_n (pc := 64) hx hb dX1_calls_64 rfl (lv_at hl 0 rfl) ?_
      refine lv_bipush (pc := 65) (v := (40)) hx hb dX1_calls_65 (by decide) ?_
      obtain ⟨σ24, e25, h⟩ := bnd1 h
      refine cl_X1_55 X hP hS hk0 (As := [.int (40 : Int32)]) (rest := []) (c_X1_begin l G hk0 e25) ⟨rfl, rfl, Nat.le_trans (Nat.le_of_ble_eq_true rfl) (Nat.le_add_left _ _), Nat.le_trans (Nat.le_of_ble_eq_true rfl) (Nat.le_add_left _ _)⟩ rfl hl.1 rfl (Nat.le_of_ble_eq_true rfl) ⟨Nat.zero_le _, Nat.zero_le _⟩ (pc := 67) dX1_calls_67 (fun H locs hP hS => ?_)
      change W p l e _ s m _ below meth c H locs _ _ _ (F0 m (67 + 3) ls [])
      refine lv_iconst (pc := 70) (v := 0) hx hb dX1_calls_70 (by decide) ?_
      refine lv_aload_n (pc := 71) hx hb dX1_calls_71 rfl (lv_at hl 0 rfl) ?_
      refine lv_iconst (pc := 72) (v := 2) hx hb dX1_calls_72 (by decide) ?_
      refine lv_iload_n (pc := 73) hx hb dX1_calls_73 rfl (lv_at hl 2 rfl) ?_
      obtain ⟨r28, σ26, e27, h⟩ := bnd2 h
      refine cl_X1_42 X hP hS (As := [.ref (ga G a0), .int (2 : Int32), .int a2]) (rest := [.int (0 : Int32)]) (ih hk0 e27) ⟨rfl, rfl, Nat.le_refl _, (by show 8 + (3 + 11) + (n * 60 + 21) ≤ (n + 1) * 60 + 21; omega)⟩ rfl hl.1 rfl (Nat.le_of_ble_eq_true rfl) ⟨Nat.zero_le _, Nat.zero_le _⟩ (pc := 74) dX1_calls_74 (fun H locs hP hS => ?_)
      change W p l e _ s m _ below meth c H locs _ _ _ (F0 m (74 + 3) ls (.int r28 :: [.int (0 : Int32)]))
      refine lv_isub (pc := 77) hx hb dX1_calls_77 ?_
      obtain ⟨rfl, rfl⟩ := inj2 h
      exact r_iret X hP hS dX1_calls_78
    have h := ineg c23 h
    refine lv_tableOut (pc := 1) (tgt := 97) hx hb dX1_calls_1 (by have := lv_neT c1 (a := 0) (by decide); have := lv_neT c4 (a := 1) (by decide); have := lv_neT c11 (a := 2) (by decide); have := lv_neT c17 (a := 3) (by decide); have := lv_neT c23 (a := 4) (by decide); omega) (by decide) ?_
    refine lv_aload_n (pc := 97) hx hb dX1_calls_97 rfl (lv_at hl 0 rfl) ?_
    refine lv_iload_n (pc := 98) hx hb dX1_calls_98 rfl (lv_at hl 1 rfl) ?_
    obtain ⟨r31, σ29, e30, h⟩ := bnd2 h
    refine cl_X1_59 X hP hS (As := [.int a1]) (rest := [.ref (ga G a0)]) (c_X9_kindAbove l G  e30) ⟨rfl, rfl, Nat.le_trans (Nat.le_of_ble_eq_true rfl) (Nat.le_add_left _ _), Nat.le_trans (Nat.le_of_ble_eq_true rfl) (Nat.le_add_left _ _)⟩ rfl hl.1 rfl (Nat.le_of_ble_eq_true rfl) ⟨Nat.zero_le _, Nat.zero_le _⟩ (pc := 99) dX1_calls_99 (fun H locs hP hS => ?_)
    change W p l e _ s m _ below meth c H locs _ _ _ (F0 m (99 + 3) ls (.int r31 :: [.ref (ga G a0)]))
    refine lv_iload_n (pc := 102) hx hb dX1_calls_102 rfl (lv_at hl 2 rfl) ?_
    obtain ⟨r34, σ32, e33, h⟩ := bnd2 h
    refine cl_X1_42 X hP hS (As := [.ref (ga G a0), .int r31, .int a2]) (rest := []) (ih hk0 e33) ⟨rfl, rfl, Nat.le_refl _, (by show 8 + (3 + 11) + (n * 60 + 21) ≤ (n + 1) * 60 + 21; omega)⟩ rfl hl.1 rfl (Nat.le_of_ble_eq_true rfl) ⟨Nat.zero_le _, Nat.zero_le _⟩ (pc := 103) dX1_calls_103 (fun H locs hP hS => ?_)
    change W p l e _ s m _ below meth c H locs _ _ _ (F0 m (103 + 3) ls (.int r34 :: []))
    obtain ⟨rfl, rfl⟩ := inj2 h
    exact r_iret X hP hS dX1_calls_106
def F_X1_hears (rec : Nat → Int32 → Int32 → Mem → Option (Int32 × Mem)) : Nat → Int32 → Int32 → Mem → Option (Int32 × Mem) := fun a0 a1 a2 σ =>
  if a1 = (0 : Int32) then
    bd1 (f_X1_begin a0 (11 : Int32) σ) fun σ2 =>
    bd2 (f_X1_calls 8 a0 (gI σ2 a0 3) a2 σ2) fun r6 σ4 =>
    some ((r6 * (2 : Int32)), σ4)
  else
  if a1 = (1 : Int32) then
    bd1 (f_X1_begin a0 (20 : Int32) σ) fun σ8 =>
    bd2 (rec a0 (0 : Int32) a2 σ8) fun r12 σ10 =>
    some ((r12 - (gI σ10 a0 5)), σ10)
  else
  if a1 = (2 : Int32) then
    bd2 (f_X9_kindAbove a1 σ) fun r16 σ14 =>
    bd2 (rec a0 r16 a2 σ14) fun r19 σ17 =>
    some (r19, σ17)
  else
  if a1 = (3 : Int32) then
    bd2 (f_X9_kindAbove a1 σ) fun r23 σ21 =>
    bd2 (rec a0 r23 a2 σ21) fun r26 σ24 =>
    some (r26, σ24)
  else
  if a1 = (4 : Int32) then
    bd1 (f_X1_begin a0 (41 : Int32) σ) fun σ28 =>
    bd2 (rec a0 (2 : Int32) a2 σ28) fun r32 σ30 =>
    bd2 (f_X1_calls 8 a0 (gI σ30 a0 3) (gI σ30 a0 4) σ30) fun r35 σ33 =>
    some ((r32 + r35), σ33)
  else
  bd2 (f_X9_kindAbove a1 σ) fun r38 σ36 =>
  bd2 (rec a0 r38 a2 σ36) fun r41 σ39 =>
  some (r41, σ39)
def f_X1_hears (n : Nat) : Nat → Int32 → Int32 → Mem → Option (Int32 × Mem) := iterF F_X1_hears (fun _ _ _ _ => none) n
def RM_X1_hears (n : Nat) : Room := { frames := n + 10, cells := 0, slots := 0, locals := n * 60 + 523 }
set_option maxHeartbeats 4000000 in
set_option maxRecDepth 100000 in
theorem c_X1_hears (l : Launch) (G : Gh) : ∀ (n : Nat) {a0 : Nat} {a1 : Int32} {a2 : Int32}  {σ : Mem} {rr : Int32} {σr : Mem} (hk0 : kd a0 = 1) (_ : f_X1_hears n a0 a1 a2 σ = some (rr, σr)), Met l yX1_hears [Cond.code yX1_hears prog_3_method_8_code 3 (some .int)] (RM_X1_hears n) (va_Pc [.ref (ga G a0), .int a1, .int a2] (Pre G σ)) (QG G (some (.int rr)) σr) 0 0 (AA G) := by
  intro n
  induction n with
  | zero => intro a0 a1 a2 σ rr σr hk0 h; exact nnone (α := (Int32 × Mem)) h
  | succ n ih =>
    intro a0 a1 a2 σ rr σr hk0 h
    refine ct_of (by decide) (fun p e s m below meth c X hP => ?_)
    have hx := X.hx
    have hb := X.hb
    have hS : va_S (AA G) s.heap s.heap [] := va_S.rf
    have hl := lv_entry ([.ref (ga G a0), .int a1, .int a2]) (n := 3) (Nat.le_of_ble_eq_true rfl)
    rw [lg_entry_eq]
    generalize (lg_sl ([.ref (ga G a0), .int a1, .int a2]) ++ List.replicate (3 - (lg_sl ([.ref (ga G a0), .int a1, .int a2])).length) Slot.unset).toArray = ls at hl ⊢
    have hl : lv_has ls 3 [(0, .ref (ga G a0)), (1, .int a1), (2, .int a2)] := hl
    have h : F_X1_hears (f_X1_hears n) a0 a1 a2 σ = some _ := h
    unfold F_X1_hears at h
    refine lv_iload_n (pc := 0) hx hb dX1_hears_0 rfl (lv_at hl 1 rfl) ?_
    by_cases c1 : a1 = (0 : Int32)
    · have h := ipos c1 h
      refine r_tabIn X (pc := 1) (tgt := 36) c1 dX1_hears_1 (by decide) (by decide) rfl (by decide) ?_
      refine lv_aload_n (pc := 36) hx hb dX1_hears_36 rfl (lv_at hl 0 rfl) ?_
      refine lv_bipush (pc := 37) (v := (11)) hx hb dX1_hears_37 (by decide) ?_
      obtain ⟨σ2, e3, h⟩ := bnd1 h
      refine cl_X1_55 X hP hS hk0 (As := [.int (11 : Int32)]) (rest := []) (c_X1_begin l G hk0 e3) ⟨rfl, rfl, Nat.le_trans (Nat.le_of_ble_eq_true rfl) (Nat.le_add_left _ _), Nat.le_trans (Nat.le_of_ble_eq_true rfl) (Nat.le_add_left _ _)⟩ rfl hl.1 rfl (Nat.le_of_ble_eq_true rfl) ⟨Nat.zero_le _, Nat.zero_le _⟩ (pc := 39) dX1_hears_39 (fun H locs hP hS => ?_)
      change W p l e _ s m _ below meth c H locs _ _ _ (F0 m (39 + 3) ls [])
      refine lv_aload_n (pc := 42) hx hb dX1_hears_42 rfl (lv_at hl 0 rfl) ?_
      refine lv_aload_n (pc := 43) hx hb dX1_hears_43 rfl (lv_at hl 0 rfl) ?_
      refine gt_X1_23 X hP hk0 dX1_hears_44 ?_
      refine lv_iload_n (pc := 47) hx hb dX1_hears_47 rfl (lv_at hl 2 rfl) ?_
      obtain ⟨r6, σ4, e5, h⟩ := bnd2 h
      refine cl_X1_42 X hP hS (As := [.ref (ga G a0), .int (gI σ2 a0 3), .int a2]) (rest := []) (c_X1_calls l G 8 hk0 e5) ⟨rfl, rfl, Nat.le_trans (Nat.le_of_ble_eq_true rfl) (Nat.le_add_left _ _), Nat.le_trans (Nat.le_of_ble_eq_true rfl) (Nat.le_add_left _ _)⟩ rfl hl.1 rfl (Nat.le_of_ble_eq_true rfl) ⟨Nat.zero_le _, Nat.zero_le _⟩ (pc := 48) dX1_hears_48 (fun H locs hP hS => ?_)
      change W p l e _ s m _ below meth c H locs _ _ _ (F0 m (48 + 3) ls (.int r6 :: []))
      refine lv_iconst (pc := 51) (v := 2) hx hb dX1_hears_51 (by decide) ?_
      refine lv_imul (pc := 52) hx hb dX1_hears_52 ?_
      obtain ⟨rfl, rfl⟩ := inj2 h
      exact r_iret X hP hS dX1_hears_53
    have h := ineg c1 h
    by_cases c7 : a1 = (1 : Int32)
    · have h := ipos c7 h
      refine r_tabIn X (pc := 1) (tgt := 54) c7 dX1_hears_1 (by decide) (by decide) rfl (by decide) ?_
      refine lv_aload_n (pc := 54) hx hb dX1_hears_54 rfl (lv_at hl 0 rfl) ?_
      refine lv_bipush (pc := 55) (v := (20)) hx hb dX1_hears_55 (by decide) ?_
      obtain ⟨σ8, e9, h⟩ := bnd1 h
      refine cl_X1_55 X hP hS hk0 (As := [.int (20 : Int32)]) (rest := []) (c_X1_begin l G hk0 e9) ⟨rfl, rfl, Nat.le_trans (Nat.le_of_ble_eq_true rfl) (Nat.le_add_left _ _), Nat.le_trans (Nat.le_of_ble_eq_true rfl) (Nat.le_add_left _ _)⟩ rfl hl.1 rfl (Nat.le_of_ble_eq_true rfl) ⟨Nat.zero_le _, Nat.zero_le _⟩ (pc := 57) dX1_hears_57 (fun H locs hP hS => ?_)
      change W p l e _ s m _ below meth c H locs _ _ _ (F0 m (57 + 3) ls [])
      refine lv_aload_n (pc := 60) hx hb dX1_hears_60 rfl (lv_at hl 0 rfl) ?_
      refine lv_iconst (pc := 61) (v := 0) hx hb dX1_hears_61 (by decide) ?_
      refine lv_iload_n (pc := 62) hx hb dX1_hears_62 rfl (lv_at hl 2 rfl) ?_
      obtain ⟨r12, σ10, e11, h⟩ := bnd2 h
      refine cl_X1_46 X hP hS (As := [.ref (ga G a0), .int (0 : Int32), .int a2]) (rest := []) (ih hk0 e11) ⟨rfl, rfl, Nat.le_refl _, (by show 8 + (3 + 11) + (n * 60 + 523) ≤ (n + 1) * 60 + 523; omega)⟩ rfl hl.1 rfl (Nat.le_of_ble_eq_true rfl) ⟨Nat.zero_le _, Nat.zero_le _⟩ (pc := 63) dX1_hears_63 (fun H locs hP hS => ?_)
      change W p l e _ s m _ below meth c H locs _ _ _ (F0 m (63 + 3) ls (.int r12 :: []))
      refine lv_aload_n (pc := 66) hx hb dX1_hears_66 rfl (lv_at hl 0 rfl) ?_
      refine gt_X1_29 X hP hk0 dX1_hears_67 ?_
      refine lv_isub (pc := 70) hx hb dX1_hears_70 ?_
      obtain ⟨rfl, rfl⟩ := inj2 h
      exact r_iret X hP hS dX1_hears_71
    have h := ineg c7 h
    by_cases c13 : a1 = (2 : Int32)
    · have h := ipos c13 h
      refine r_tabIn X (pc := 1) (tgt := 98) c13 dX1_hears_1 (by decide) (by decide) rfl (by decide) ?_
      refine lv_aload_n (pc := 98) hx hb dX1_hears_98 rfl (lv_at hl 0 rfl) ?_
      refine lv_iload_n (pc := 99) hx hb dX1_hears_99 rfl (lv_at hl 1 rfl) ?_
      obtain ⟨r16, σ14, e15, h⟩ := bnd2 h
      refine cl_X1_59 X hP hS (As := [.int a1]) (rest := [.ref (ga G a0)]) (c_X9_kindAbove l G  e15) ⟨rfl, rfl, Nat.le_trans (Nat.le_of_ble_eq_true rfl) (Nat.le_add_left _ _), Nat.le_trans (Nat.le_of_ble_eq_true rfl) (Nat.le_add_left _ _)⟩ rfl hl.1 rfl (Nat.le_of_ble_eq_true rfl) ⟨Nat.zero_le _, Nat.zero_le _⟩ (pc := 100) dX1_hears_100 (fun H locs hP hS => ?_)
      change W p l e _ s m _ below meth c H locs _ _ _ (F0 m (100 + 3) ls (.int r16 :: [.ref (ga G a0)]))
      refine lv_iload_n (pc := 103) hx hb dX1_hears_103 rfl (lv_at hl 2 rfl) ?_
      obtain ⟨r19, σ17, e18, h⟩ := bnd2 h
      refine cl_X1_46 X hP hS (As := [.ref (ga G a0), .int r16, .int a2]) (rest := []) (ih hk0 e18) ⟨rfl, rfl, Nat.le_refl _, (by show 8 + (3 + 11) + (n * 60 + 523) ≤ (n + 1) * 60 + 523; omega)⟩ rfl hl.1 rfl (Nat.le_of_ble_eq_true rfl) ⟨Nat.zero_le _, Nat.zero_le _⟩ (pc := 104) dX1_hears_104 (fun H locs hP hS => ?_)
      change W p l e _ s m _ below meth c H locs _ _ _ (F0 m (104 + 3) ls (.int r19 :: []))
      obtain ⟨rfl, rfl⟩ := inj2 h
      exact r_iret X hP hS dX1_hears_107
    have h := ineg c13 h
    by_cases c20 : a1 = (3 : Int32)
    · have h := ipos c20 h
      refine r_tabIn X (pc := 1) (tgt := 98) c20 dX1_hears_1 (by decide) (by decide) rfl (by decide) ?_
      refine lv_aload_n (pc := 98) hx hb dX1_hears_98 rfl (lv_at hl 0 rfl) ?_
      refine lv_iload_n (pc := 99) hx hb dX1_hears_99 rfl (lv_at hl 1 rfl) ?_
      obtain ⟨r23, σ21, e22, h⟩ := bnd2 h
      refine cl_X1_59 X hP hS (As := [.int a1]) (rest := [.ref (ga G a0)]) (c_X9_kindAbove l G  e22) ⟨rfl, rfl, Nat.le_trans (Nat.le_of_ble_eq_true rfl) (Nat.le_add_left _ _), Nat.le_trans (Nat.le_of_ble_eq_true rfl) (Nat.le_add_left _ _)⟩ rfl hl.1 rfl (Nat.le_of_ble_eq_true rfl) ⟨Nat.zero_le _, Nat.zero_le _⟩ (pc := 100) dX1_hears_100 (fun H locs hP hS => ?_)
      change W p l e _ s m _ below meth c H locs _ _ _ (F0 m (100 + 3) ls (.int r23 :: [.ref (ga G a0)]))
      refine lv_iload_n (pc := 103) hx hb dX1_hears_103 rfl (lv_at hl 2 rfl) ?_
      obtain ⟨r26, σ24, e25, h⟩ := bnd2 h
      refine cl_X1_46 X hP hS (As := [.ref (ga G a0), .int r23, .int a2]) (rest := []) (ih hk0 e25) ⟨rfl, rfl, Nat.le_refl _, (by show 8 + (3 + 11) + (n * 60 + 523) ≤ (n + 1) * 60 + 523; omega)⟩ rfl hl.1 rfl (Nat.le_of_ble_eq_true rfl) ⟨Nat.zero_le _, Nat.zero_le _⟩ (pc := 104) dX1_hears_104 (fun H locs hP hS => ?_)
      change W p l e _ s m _ below meth c H locs _ _ _ (F0 m (104 + 3) ls (.int r26 :: []))
      obtain ⟨rfl, rfl⟩ := inj2 h
      exact r_iret X hP hS dX1_hears_107
    have h := ineg c20 h
    by_cases c27 : a1 = (4 : Int32)
    · have h := ipos c27 h
      refine r_tabIn X (pc := 1) (tgt := 72) c27 dX1_hears_1 (by decide) (by decide) rfl (by decide) ?_
      refine lv_aload_n (pc := 72) hx hb dX1_hears_72 rfl (lv_at hl 0 rfl) ?_
      refine lv_bipush (pc := 73) (v := (41)) hx hb dX1_hears_73 (by decide) ?_
      obtain ⟨σ28, e29, h⟩ := bnd1 h
      refine cl_X1_55 X hP hS hk0 (As := [.int (41 : Int32)]) (rest := []) (c_X1_begin l G hk0 e29) ⟨rfl, rfl, Nat.le_trans (Nat.le_of_ble_eq_true rfl) (Nat.le_add_left _ _), Nat.le_trans (Nat.le_of_ble_eq_true rfl) (Nat.le_add_left _ _)⟩ rfl hl.1 rfl (Nat.le_of_ble_eq_true rfl) ⟨Nat.zero_le _, Nat.zero_le _⟩ (pc := 75) dX1_hears_75 (fun H locs hP hS => ?_)
      change W p l e _ s m _ below meth c H locs _ _ _ (F0 m (75 + 3) ls [])
      refine lv_aload_n (pc := 78) hx hb dX1_hears_78 rfl (lv_at hl 0 rfl) ?_
      refine lv_iconst (pc := 79) (v := 2) hx hb dX1_hears_79 (by decide) ?_
      refine lv_iload_n (pc := 80) hx hb dX1_hears_80 rfl (lv_at hl 2 rfl) ?_
      obtain ⟨r32, σ30, e31, h⟩ := bnd2 h
      refine cl_X1_46 X hP hS (As := [.ref (ga G a0), .int (2 : Int32), .int a2]) (rest := []) (ih hk0 e31) ⟨rfl, rfl, Nat.le_refl _, (by show 8 + (3 + 11) + (n * 60 + 523) ≤ (n + 1) * 60 + 523; omega)⟩ rfl hl.1 rfl (Nat.le_of_ble_eq_true rfl) ⟨Nat.zero_le _, Nat.zero_le _⟩ (pc := 81) dX1_hears_81 (fun H locs hP hS => ?_)
      change W p l e _ s m _ below meth c H locs _ _ _ (F0 m (81 + 3) ls (.int r32 :: []))
      refine lv_aload_n (pc := 84) hx hb dX1_hears_84 rfl (lv_at hl 0 rfl) ?_
      refine lv_aload_n (pc := 85) hx hb dX1_hears_85 rfl (lv_at hl 0 rfl) ?_
      refine gt_X1_23 X hP hk0 dX1_hears_86 ?_
      refine lv_aload_n (pc := 89) hx hb dX1_hears_89 rfl (lv_at hl 0 rfl) ?_
      refine gt_X1_26 X hP hk0 dX1_hears_90 ?_
      obtain ⟨r35, σ33, e34, h⟩ := bnd2 h
      refine cl_X1_42 X hP hS (As := [.ref (ga G a0), .int (gI σ30 a0 3), .int (gI σ30 a0 4)]) (rest := [.int r32]) (c_X1_calls l G 8 hk0 e34) ⟨rfl, rfl, Nat.le_trans (Nat.le_of_ble_eq_true rfl) (Nat.le_add_left _ _), Nat.le_trans (Nat.le_of_ble_eq_true rfl) (Nat.le_add_left _ _)⟩ rfl hl.1 rfl (Nat.le_of_ble_eq_true rfl) ⟨Nat.zero_le _, Nat.zero_le _⟩ (pc := 93) dX1_hears_93 (fun H locs hP hS => ?_)
      change W p l e _ s m _ below meth c H locs _ _ _ (F0 m (93 + 3) ls (.int r35 :: [.int r32]))
      refine lv_iadd (pc := 96) hx hb dX1_hears_96 ?_
      obtain ⟨rfl, rfl⟩ := inj2 h
      exact r_iret X hP hS dX1_hears_97
    have h := ineg c27 h
    refine lv_tableOut (pc := 1) (tgt := 98) hx hb dX1_hears_1 (by have := lv_neT c1 (a := 0) (by decide); have := lv_neT c7 (a := 1) (by decide); have := lv_neT c13 (a := 2) (by decide); have := lv_neT c20 (a := 3) (by decide); have := lv_neT c27 (a := 4) (by decide); omega) (by decide) ?_
    refine lv_aload_n (pc := 98) hx hb dX1_hears_98 rfl (lv_at hl 0 rfl) ?_
    refine lv_iload_n (pc := 99) hx hb dX1_hears_99 rfl (lv_at hl 1 rfl) ?_
    obtain ⟨r38, σ36, e37, h⟩ := bnd2 h
    refine cl_X1_59 X hP hS (As := [.int a1]) (rest := [.ref (ga G a0)]) (c_X9_kindAbove l G  e37) ⟨rfl, rfl, Nat.le_trans (Nat.le_of_ble_eq_true rfl) (Nat.le_add_left _ _), Nat.le_trans (Nat.le_of_ble_eq_true rfl) (Nat.le_add_left _ _)⟩ rfl hl.1 rfl (Nat.le_of_ble_eq_true rfl) ⟨Nat.zero_le _, Nat.zero_le _⟩ (pc := 100) dX1_hears_100 (fun H locs hP hS => ?_)
    change W p l e _ s m _ below meth c H locs _ _ _ (F0 m (100 + 3) ls (.int r38 :: [.ref (ga G a0)]))
    refine lv_iload_n (pc := 103) hx hb dX1_hears_103 rfl (lv_at hl 2 rfl) ?_
    obtain ⟨r41, σ39, e40, h⟩ := bnd2 h
    refine cl_X1_46 X hP hS (As := [.ref (ga G a0), .int r38, .int a2]) (rest := []) (ih hk0 e40) ⟨rfl, rfl, Nat.le_refl _, (by show 8 + (3 + 11) + (n * 60 + 523) ≤ (n + 1) * 60 + 523; omega)⟩ rfl hl.1 rfl (Nat.le_of_ble_eq_true rfl) ⟨Nat.zero_le _, Nat.zero_le _⟩ (pc := 104) dX1_hears_104 (fun H locs hP hS => ?_)
    change W p l e _ s m _ below meth c H locs _ _ _ (F0 m (104 + 3) ls (.int r41 :: []))
    obtain ⟨rfl, rfl⟩ := inj2 h
    exact r_iret X hP hS dX1_hears_107
def f_X1_quotient (k0 : Nat) (a1 : Int32) (a2 : Int32) (σ : Mem) : Option (Int32 × Mem) :=
  if a2 = (0 : Int32) then
    bd1 (some (pI σ k0 2 (1 : Int32))) fun σ3 =>
    some ((0 : Int32), σ3)
  else
    grd (¬ a2 = 0) <|
    some ((a1 / a2), σ)
abbrev RM_X1_quotient : Room := { frames := 0, cells := 0, slots := 0, locals := 0 }
set_option maxHeartbeats 4000000 in
set_option maxRecDepth 100000 in
theorem c_X1_quotient (l : Launch) (G : Gh) {k0 : Nat} {a1 : Int32} {a2 : Int32} {σ : Mem} {rr : Int32} {σr : Mem} (hk0 : kd k0 = 1) (h : f_X1_quotient k0 a1 a2 σ = some (rr, σr)) : Met l yX1_quotient [Cond.code yX1_quotient prog_3_method_11_code 3 (some .int)] RM_X1_quotient (va_Pc [.ref (ga G k0), .int a1, .int a2] (Pre G σ)) (QG G (some (.int rr)) σr) 0 0 (AA G) := by
  refine ct_of (by decide) (fun p e s m below meth c X hP => ?_)
  have hx := X.hx
  have hb := X.hb
  have hS : va_S (AA G) s.heap s.heap [] := va_S.rf
  have hl := lv_entry ([.ref (ga G k0), .int a1, .int a2]) (n := 3) (Nat.le_of_ble_eq_true rfl)
  rw [lg_entry_eq]
  generalize (lg_sl ([.ref (ga G k0), .int a1, .int a2]) ++ List.replicate (3 - (lg_sl ([.ref (ga G k0), .int a1, .int a2])).length) Slot.unset).toArray = ls at hl ⊢
  have hl : lv_has ls 3 [(0, .ref (ga G k0)), (1, .int a1), (2, .int a2)] := hl
  unfold f_X1_quotient at h
  refine lv_iload_n (pc := 0) hx hb dX1_quotient_0 rfl (lv_at hl 2 rfl) ?_
  refine lv_if_ne (pc := 1) (tgt := 11) hx hb dX1_quotient_1 (by decide) (fun c1 => ?_) (fun c1 => ?_)
  · have h := ineg c1 h
    refine lv_iload_n (pc := 11) hx hb dX1_quotient_11 rfl (lv_at hl 1 rfl) ?_
    refine lv_iload_n (pc := 12) hx hb dX1_quotient_12 rfl (lv_at hl 2 rfl) ?_
    obtain ⟨g2, h⟩ := grd_inv h
    refine lv_idiv (pc := 13) hx hb dX1_quotient_13 g2 ?_
    obtain ⟨rfl, rfl⟩ := inj2 h
    exact r_iret X hP hS dX1_quotient_14
  · have h := ipos c1 h
    refine lv_aload_n (pc := 4) hx hb dX1_quotient_4 rfl (lv_at hl 0 rfl) ?_
    refine lv_iconst (pc := 5) (v := 1) hx hb dX1_quotient_5 (by decide) ?_
    obtain ⟨σ3, e4, h⟩ := bnd1 h
    refine pt_X1_19 X hP hS hk0 (by decide) dX1_quotient_6 (fun H locs hP hS => ?_)
    rw [Option.some.inj e4] at hP
    refine lv_iconst (pc := 9) (v := 0) hx hb dX1_quotient_9 (by decide) ?_
    obtain ⟨rfl, rfl⟩ := inj2 h
    exact r_iret X hP hS dX1_quotient_10
def F_X1_shares (rec : Nat → Int32 → Int32 → Mem → Option (Int32 × Mem)) : Nat → Int32 → Int32 → Mem → Option (Int32 × Mem) := fun a0 a1 a2 σ =>
  if a1 = (0 : Int32) then
    bd1 (f_X1_begin a0 (12 : Int32) σ) fun σ2 =>
    bd2 (f_X1_quotient a0 a2 ((gI σ2 a0 5) - (gI σ2 a0 4)) σ2) fun r6 σ4 =>
    some (r6, σ4)
  else
  if a1 = (3 : Int32) then
    bd1 (f_X1_begin a0 (50 : Int32) σ) fun σ8 =>
    bd2 (rec a0 (1 : Int32) (a2 + (2 : Int32)) σ8) fun r12 σ10 =>
    some ((r12 ^^^ (1 : Int32)), σ10)
  else
  if a1 = (5 : Int32) then
    bd1 (f_X1_begin a0 (61 : Int32) σ) fun σ14 =>
    bd2 (rec a0 (1 : Int32) a2 σ14) fun r18 σ16 =>
    bd2 (f_X1_calls 8 a0 (gI σ16 a0 3) (gI σ16 a0 5) σ16) fun r21 σ19 =>
    some ((r18 + r21), σ19)
  else
  bd2 (f_X9_kindAbove a1 σ) fun r24 σ22 =>
  bd2 (rec a0 r24 a2 σ22) fun r27 σ25 =>
  some (r27, σ25)
def f_X1_shares (n : Nat) : Nat → Int32 → Int32 → Mem → Option (Int32 × Mem) := iterF F_X1_shares (fun _ _ _ _ => none) n
def RM_X1_shares (n : Nat) : Room := { frames := n + 10, cells := 0, slots := 0, locals := n * 60 + 523 }
set_option maxHeartbeats 4000000 in
set_option maxRecDepth 100000 in
theorem c_X1_shares (l : Launch) (G : Gh) : ∀ (n : Nat) {a0 : Nat} {a1 : Int32} {a2 : Int32}  {σ : Mem} {rr : Int32} {σr : Mem} (hk0 : kd a0 = 1) (_ : f_X1_shares n a0 a1 a2 σ = some (rr, σr)), Met l yX1_shares [Cond.code yX1_shares prog_3_method_9_code 3 (some .int)] (RM_X1_shares n) (va_Pc [.ref (ga G a0), .int a1, .int a2] (Pre G σ)) (QG G (some (.int rr)) σr) 0 0 (AA G) := by
  intro n
  induction n with
  | zero => intro a0 a1 a2 σ rr σr hk0 h; exact nnone (α := (Int32 × Mem)) h
  | succ n ih =>
    intro a0 a1 a2 σ rr σr hk0 h
    refine ct_of (by decide) (fun p e s m below meth c X hP => ?_)
    have hx := X.hx
    have hb := X.hb
    have hS : va_S (AA G) s.heap s.heap [] := va_S.rf
    have hl := lv_entry ([.ref (ga G a0), .int a1, .int a2]) (n := 3) (Nat.le_of_ble_eq_true rfl)
    rw [lg_entry_eq]
    generalize (lg_sl ([.ref (ga G a0), .int a1, .int a2]) ++ List.replicate (3 - (lg_sl ([.ref (ga G a0), .int a1, .int a2])).length) Slot.unset).toArray = ls at hl ⊢
    have hl : lv_has ls 3 [(0, .ref (ga G a0)), (1, .int a1), (2, .int a2)] := hl
    have h : F_X1_shares (f_X1_shares n) a0 a1 a2 σ = some _ := h
    unfold F_X1_shares at h
    refine lv_iload_n (pc := 0) hx hb dX1_shares_0 rfl (lv_at hl 1 rfl) ?_
    by_cases c1 : a1 = (0 : Int32)
    · have h := ipos c1 h
      refine r_look X (pc := 1) (tgt := 36) c1 dX1_shares_1 rfl rfl (by decide) ?_
      refine lv_aload_n (pc := 36) hx hb dX1_shares_36 rfl (lv_at hl 0 rfl) ?_
      refine lv_bipush (pc := 37) (v := (12)) hx hb dX1_shares_37 (by decide) ?_
      obtain ⟨σ2, e3, h⟩ := bnd1 h
      refine cl_X1_55 X hP hS hk0 (As := [.int (12 : Int32)]) (rest := []) (c_X1_begin l G hk0 e3) ⟨rfl, rfl, Nat.le_trans (Nat.le_of_ble_eq_true rfl) (Nat.le_add_left _ _), Nat.le_trans (Nat.le_of_ble_eq_true rfl) (Nat.le_add_left _ _)⟩ rfl hl.1 rfl (Nat.le_of_ble_eq_true rfl) ⟨Nat.zero_le _, Nat.zero_le _⟩ (pc := 39) dX1_shares_39 (fun H locs hP hS => ?_)
      change W p l e _ s m _ below meth c H locs _ _ _ (F0 m (39 + 3) ls [])
      refine lv_aload_n (pc := 42) hx hb dX1_shares_42 rfl (lv_at hl 0 rfl) ?_
      refine lv_iload_n (pc := 43) hx hb dX1_shares_43 rfl (lv_at hl 2 rfl) ?_
      refine lv_aload_n (pc := 44) hx hb dX1_shares_44 rfl (lv_at hl 0 rfl) ?_
      refine gt_X1_29 X hP hk0 dX1_shares_45 ?_
      refine lv_aload_n (pc := 48) hx hb dX1_shares_48 rfl (lv_at hl 0 rfl) ?_
      refine gt_X1_26 X hP hk0 dX1_shares_49 ?_
      refine lv_isub (pc := 52) hx hb dX1_shares_52 ?_
      obtain ⟨r6, σ4, e5, h⟩ := bnd2 h
      refine cl_X1_63 X hP hS hk0 (As := [.int a2, .int ((gI σ2 a0 5) - (gI σ2 a0 4))]) (rest := []) (c_X1_quotient l G hk0 e5) ⟨rfl, rfl, Nat.le_trans (Nat.le_of_ble_eq_true rfl) (Nat.le_add_left _ _), Nat.le_trans (Nat.le_of_ble_eq_true rfl) (Nat.le_add_left _ _)⟩ rfl hl.1 rfl (Nat.le_of_ble_eq_true rfl) ⟨Nat.zero_le _, Nat.zero_le _⟩ (pc := 53) dX1_shares_53 (fun H locs hP hS => ?_)
      change W p l e _ s m _ below meth c H locs _ _ _ (F0 m (53 + 3) ls (.int r6 :: []))
      obtain ⟨rfl, rfl⟩ := inj2 h
      exact r_iret X hP hS dX1_shares_56
    have h := ineg c1 h
    by_cases c7 : a1 = (3 : Int32)
    · have h := ipos c7 h
      refine r_look X (pc := 1) (tgt := 57) c7 dX1_shares_1 rfl rfl (by decide) ?_
      refine lv_aload_n (pc := 57) hx hb dX1_shares_57 rfl (lv_at hl 0 rfl) ?_
      refine lv_bipush (pc := 58) (v := (50)) hx hb dX1_shares_58 (by decide) ?_
      obtain ⟨σ8, e9, h⟩ := bnd1 h
      refine cl_X1_55 X hP hS hk0 (As := [.int (50 : Int32)]) (rest := []) (c_X1_begin l G hk0 e9) ⟨rfl, rfl, Nat.le_trans (Nat.le_of_ble_eq_true rfl) (Nat.le_add_left _ _), Nat.le_trans (Nat.le_of_ble_eq_true rfl) (Nat.le_add_left _ _)⟩ rfl hl.1 rfl (Nat.le_of_ble_eq_true rfl) ⟨Nat.zero_le _, Nat.zero_le _⟩ (pc := 60) dX1_shares_60 (fun H locs hP hS => ?_)
      change W p l e _ s m _ below meth c H locs _ _ _ (F0 m (60 + 3) ls [])
      refine lv_aload_n (pc := 63) hx hb dX1_shares_63 rfl (lv_at hl 0 rfl) ?_
      refine lv_iconst (pc := 64) (v := 1) hx hb dX1_shares_64 (by decide) ?_
      refine lv_iload_n (pc := 65) hx hb dX1_shares_65 rfl (lv_at hl 2 rfl) ?_
      refine lv_iconst (pc := 66) (v := 2) hx hb dX1_shares_66 (by decide) ?_
      refine lv_iadd (pc := 67) hx hb dX1_shares_67 ?_
      obtain ⟨r12, σ10, e11, h⟩ := bnd2 h
      refine cl_X1_49 X hP hS (As := [.ref (ga G a0), .int (1 : Int32), .int (a2 + (2 : Int32))]) (rest := []) (ih hk0 e11) ⟨rfl, rfl, Nat.le_refl _, (by show 8 + (3 + 11) + (n * 60 + 523) ≤ (n + 1) * 60 + 523; omega)⟩ rfl hl.1 rfl (Nat.le_of_ble_eq_true rfl) ⟨Nat.zero_le _, Nat.zero_le _⟩ (pc := 68) dX1_shares_68 (fun H locs hP hS => ?_)
      change W p l e _ s m _ below meth c H locs _ _ _ (F0 m (68 + 3) ls (.int r12 :: []))
      refine lv_iconst (pc := 71) (v := 1) hx hb dX1_shares_71 (by decide) ?_
      refine lv_ixor (pc := 72) hx hb dX1_shares_72 ?_
      obtain ⟨rfl, rfl⟩ := inj2 h
      exact r_iret X hP hS dX1_shares_73
    have h := ineg c7 h
    by_cases c13 : a1 = (5 : Int32)
    · have h := ipos c13 h
      refine r_look X (pc := 1) (tgt := 74) c13 dX1_shares_1 rfl rfl (by decide) ?_
      refine lv_aload_n (pc := 74) hx hb dX1_shares_74 rfl (lv_at hl 0 rfl) ?_
      refine lv_bipush (pc := 75) (v := (61)) hx hb dX1_shares_75 (by decide) ?_
      obtain ⟨σ14, e15, h⟩ := bnd1 h
      refine cl_X1_55 X hP hS hk0 (As := [.int (61 : Int32)]) (rest := []) (c_X1_begin l G hk0 e15) ⟨rfl, rfl, Nat.le_trans (Nat.le_of_ble_eq_true rfl) (Nat.le_add_left _ _), Nat.le_trans (Nat.le_of_ble_eq_true rfl) (Nat.le_add_left _ _)⟩ rfl hl.1 rfl (Nat.le_of_ble_eq_true rfl) ⟨Nat.zero_le _, Nat.zero_le _⟩ (pc := 77) dX1_shares_77 (fun H locs hP hS => ?_)
      change W p l e _ s m _ below meth c H locs _ _ _ (F0 m (77 + 3) ls [])
      refine lv_aload_n (pc := 80) hx hb dX1_shares_80 rfl (lv_at hl 0 rfl) ?_
      refine lv_iconst (pc := 81) (v := 1) hx hb dX1_shares_81 (by decide) ?_
      refine lv_iload_n (pc := 82) hx hb dX1_shares_82 rfl (lv_at hl 2 rfl) ?_
      obtain ⟨r18, σ16, e17, h⟩ := bnd2 h
      refine cl_X1_49 X hP hS (As := [.ref (ga G a0), .int (1 : Int32), .int a2]) (rest := []) (ih hk0 e17) ⟨rfl, rfl, Nat.le_refl _, (by show 8 + (3 + 11) + (n * 60 + 523) ≤ (n + 1) * 60 + 523; omega)⟩ rfl hl.1 rfl (Nat.le_of_ble_eq_true rfl) ⟨Nat.zero_le _, Nat.zero_le _⟩ (pc := 83) dX1_shares_83 (fun H locs hP hS => ?_)
      change W p l e _ s m _ below meth c H locs _ _ _ (F0 m (83 + 3) ls (.int r18 :: []))
      refine lv_aload_n (pc := 86) hx hb dX1_shares_86 rfl (lv_at hl 0 rfl) ?_
      refine lv_aload_n (pc := 87) hx hb dX1_shares_87 rfl (lv_at hl 0 rfl) ?_
      refine gt_X1_23 X hP hk0 dX1_shares_88 ?_
      refine lv_aload_n (pc := 91) hx hb dX1_shares_91 rfl (lv_at hl 0 rfl) ?_
      refine gt_X1_29 X hP hk0 dX1_shares_92 ?_
      obtain ⟨r21, σ19, e20, h⟩ := bnd2 h
      refine cl_X1_42 X hP hS (As := [.ref (ga G a0), .int (gI σ16 a0 3), .int (gI σ16 a0 5)]) (rest := [.int r18]) (c_X1_calls l G 8 hk0 e20) ⟨rfl, rfl, Nat.le_trans (Nat.le_of_ble_eq_true rfl) (Nat.le_add_left _ _), Nat.le_trans (Nat.le_of_ble_eq_true rfl) (Nat.le_add_left _ _)⟩ rfl hl.1 rfl (Nat.le_of_ble_eq_true rfl) ⟨Nat.zero_le _, Nat.zero_le _⟩ (pc := 95) dX1_shares_95 (fun H locs hP hS => ?_)
      change W p l e _ s m _ below meth c H locs _ _ _ (F0 m (95 + 3) ls (.int r21 :: [.int r18]))
      refine lv_iadd (pc := 98) hx hb dX1_shares_98 ?_
      obtain ⟨rfl, rfl⟩ := inj2 h
      exact r_iret X hP hS dX1_shares_99
    have h := ineg c13 h
    refine lv_lookup (pc := 1) (off := 99) (tgt := 100) hx hb dX1_shares_1 rfl (Eq.trans (lv_osw c1 (by decide)) (Eq.trans (lv_osw c7 (by decide)) (Eq.trans (lv_osw c13 (by decide)) rfl))) (by decide) ?_
    refine lv_aload_n (pc := 100) hx hb dX1_shares_100 rfl (lv_at hl 0 rfl) ?_
    refine lv_iload_n (pc := 101) hx hb dX1_shares_101 rfl (lv_at hl 1 rfl) ?_
    obtain ⟨r24, σ22, e23, h⟩ := bnd2 h
    refine cl_X1_59 X hP hS (As := [.int a1]) (rest := [.ref (ga G a0)]) (c_X9_kindAbove l G  e23) ⟨rfl, rfl, Nat.le_trans (Nat.le_of_ble_eq_true rfl) (Nat.le_add_left _ _), Nat.le_trans (Nat.le_of_ble_eq_true rfl) (Nat.le_add_left _ _)⟩ rfl hl.1 rfl (Nat.le_of_ble_eq_true rfl) ⟨Nat.zero_le _, Nat.zero_le _⟩ (pc := 102) dX1_shares_102 (fun H locs hP hS => ?_)
    change W p l e _ s m _ below meth c H locs _ _ _ (F0 m (102 + 3) ls (.int r24 :: [.ref (ga G a0)]))
    refine lv_iload_n (pc := 105) hx hb dX1_shares_105 rfl (lv_at hl 2 rfl) ?_
    obtain ⟨r27, σ25, e26, h⟩ := bnd2 h
    refine cl_X1_49 X hP hS (As := [.ref (ga G a0), .int r24, .int a2]) (rest := []) (ih hk0 e26) ⟨rfl, rfl, Nat.le_refl _, (by show 8 + (3 + 11) + (n * 60 + 523) ≤ (n + 1) * 60 + 523; omega)⟩ rfl hl.1 rfl (Nat.le_of_ble_eq_true rfl) ⟨Nat.zero_le _, Nat.zero_le _⟩ (pc := 106) dX1_shares_106 (fun H locs hP hS => ?_)
    change W p l e _ s m _ below meth c H locs _ _ _ (F0 m (106 + 3) ls (.int r27 :: []))
    obtain ⟨rfl, rfl⟩ := inj2 h
    exact r_iret X hP hS dX1_shares_109
def F_X1_tells (rec : Nat → Int32 → Int32 → Mem → Option (Int32 × Mem)) : Nat → Int32 → Int32 → Mem → Option (Int32 × Mem) := fun a0 a1 a2 σ =>
  if a1 = (0 : Int32) then
    bd1 (f_X1_begin a0 (13 : Int32) σ) fun σ2 =>
    bd2 (f_X1_hears 8 a0 (gI σ2 a0 3) a2 σ2) fun r6 σ4 =>
    some ((r6 ^^^ (gI σ4 a0 5)), σ4)
  else
  if a1 = (2 : Int32) then
    bd1 (f_X1_begin a0 (31 : Int32) σ) fun σ8 =>
    bd2 (rec a0 (0 : Int32) a2 σ8) fun r12 σ10 =>
    bd2 (f_X1_shares 8 a0 (gI σ10 a0 3) (gI σ10 a0 4) σ10) fun r15 σ13 =>
    some ((r12 + r15), σ13)
  else
  if a1 = (5 : Int32) then
    bd1 (f_X1_begin a0 (60 : Int32) σ) fun σ17 =>
    bd2 (rec a0 (1 : Int32) a2 σ17) fun r21 σ19 =>
    some ((r21 * (2 : Int32)), σ19)
  else
  bd2 (f_X9_kindAbove a1 σ) fun r24 σ22 =>
  bd2 (rec a0 r24 a2 σ22) fun r27 σ25 =>
  some (r27, σ25)
def f_X1_tells (n : Nat) : Nat → Int32 → Int32 → Mem → Option (Int32 × Mem) := iterF F_X1_tells (fun _ _ _ _ => none) n
def RM_X1_tells (n : Nat) : Room := { frames := n + 19, cells := 0, slots := 0, locals := n * 60 + 1025 }
set_option maxHeartbeats 4000000 in
set_option maxRecDepth 100000 in
theorem c_X1_tells (l : Launch) (G : Gh) : ∀ (n : Nat) {a0 : Nat} {a1 : Int32} {a2 : Int32}  {σ : Mem} {rr : Int32} {σr : Mem} (hk0 : kd a0 = 1) (_ : f_X1_tells n a0 a1 a2 σ = some (rr, σr)), Met l yX1_tells [Cond.code yX1_tells prog_3_method_10_code 3 (some .int)] (RM_X1_tells n) (va_Pc [.ref (ga G a0), .int a1, .int a2] (Pre G σ)) (QG G (some (.int rr)) σr) 0 0 (AA G) := by
  intro n
  induction n with
  | zero => intro a0 a1 a2 σ rr σr hk0 h; exact nnone (α := (Int32 × Mem)) h
  | succ n ih =>
    intro a0 a1 a2 σ rr σr hk0 h
    refine ct_of (by decide) (fun p e s m below meth c X hP => ?_)
    have hx := X.hx
    have hb := X.hb
    have hS : va_S (AA G) s.heap s.heap [] := va_S.rf
    have hl := lv_entry ([.ref (ga G a0), .int a1, .int a2]) (n := 3) (Nat.le_of_ble_eq_true rfl)
    rw [lg_entry_eq]
    generalize (lg_sl ([.ref (ga G a0), .int a1, .int a2]) ++ List.replicate (3 - (lg_sl ([.ref (ga G a0), .int a1, .int a2])).length) Slot.unset).toArray = ls at hl ⊢
    have hl : lv_has ls 3 [(0, .ref (ga G a0)), (1, .int a1), (2, .int a2)] := hl
    have h : F_X1_tells (f_X1_tells n) a0 a1 a2 σ = some _ := h
    unfold F_X1_tells at h
    refine lv_iload_n (pc := 0) hx hb dX1_tells_0 rfl (lv_at hl 1 rfl) ?_
    by_cases c1 : a1 = (0 : Int32)
    · have h := ipos c1 h
      refine r_look X (pc := 1) (tgt := 36) c1 dX1_tells_1 rfl rfl (by decide) ?_
      refine lv_aload_n (pc := 36) hx hb dX1_tells_36 rfl (lv_at hl 0 rfl) ?_
      refine lv_bipush (pc := 37) (v := (13)) hx hb dX1_tells_37 (by decide) ?_
      obtain ⟨σ2, e3, h⟩ := bnd1 h
      refine cl_X1_55 X hP hS hk0 (As := [.int (13 : Int32)]) (rest := []) (c_X1_begin l G hk0 e3) ⟨rfl, rfl, Nat.le_trans (Nat.le_of_ble_eq_true rfl) (Nat.le_add_left _ _), Nat.le_trans (Nat.le_of_ble_eq_true rfl) (Nat.le_add_left _ _)⟩ rfl hl.1 rfl (Nat.le_of_ble_eq_true rfl) ⟨Nat.zero_le _, Nat.zero_le _⟩ (pc := 39) dX1_tells_39 (fun H locs hP hS => ?_)
      change W p l e _ s m _ below meth c H locs _ _ _ (F0 m (39 + 3) ls [])
      refine lv_aload_n (pc := 42) hx hb dX1_tells_42 rfl (lv_at hl 0 rfl) ?_
      refine lv_aload_n (pc := 43) hx hb dX1_tells_43 rfl (lv_at hl 0 rfl) ?_
      refine gt_X1_23 X hP hk0 dX1_tells_44 ?_
      refine lv_iload_n (pc := 47) hx hb dX1_tells_47 rfl (lv_at hl 2 rfl) ?_
      obtain ⟨r6, σ4, e5, h⟩ := bnd2 h
      refine cl_X1_46 X hP hS (As := [.ref (ga G a0), .int (gI σ2 a0 3), .int a2]) (rest := []) (c_X1_hears l G 8 hk0 e5) ⟨rfl, rfl, Nat.le_trans (Nat.le_of_ble_eq_true rfl) (Nat.le_add_left _ _), Nat.le_trans (Nat.le_of_ble_eq_true rfl) (Nat.le_add_left _ _)⟩ rfl hl.1 rfl (Nat.le_of_ble_eq_true rfl) ⟨Nat.zero_le _, Nat.zero_le _⟩ (pc := 48) dX1_tells_48 (fun H locs hP hS => ?_)
      change W p l e _ s m _ below meth c H locs _ _ _ (F0 m (48 + 3) ls (.int r6 :: []))
      refine lv_aload_n (pc := 51) hx hb dX1_tells_51 rfl (lv_at hl 0 rfl) ?_
      refine gt_X1_29 X hP hk0 dX1_tells_52 ?_
      refine lv_ixor (pc := 55) hx hb dX1_tells_55 ?_
      obtain ⟨rfl, rfl⟩ := inj2 h
      exact r_iret X hP hS dX1_tells_56
    have h := ineg c1 h
    by_cases c7 : a1 = (2 : Int32)
    · have h := ipos c7 h
      refine r_look X (pc := 1) (tgt := 57) c7 dX1_tells_1 rfl rfl (by decide) ?_
      refine lv_aload_n (pc := 57) hx hb dX1_tells_57 rfl (lv_at hl 0 rfl) ?_
      refine lv_bipush (pc := 58) (v := (31)) hx hb dX1_tells_58 (by decide) ?_
      obtain ⟨σ8, e9, h⟩ := bnd1 h
      refine cl_X1_55 X hP hS hk0 (As := [.int (31 : Int32)]) (rest := []) (c_X1_begin l G hk0 e9) ⟨rfl, rfl, Nat.le_trans (Nat.le_of_ble_eq_true rfl) (Nat.le_add_left _ _), Nat.le_trans (Nat.le_of_ble_eq_true rfl) (Nat.le_add_left _ _)⟩ rfl hl.1 rfl (Nat.le_of_ble_eq_true rfl) ⟨Nat.zero_le _, Nat.zero_le _⟩ (pc := 60) dX1_tells_60 (fun H locs hP hS => ?_)
      change W p l e _ s m _ below meth c H locs _ _ _ (F0 m (60 + 3) ls [])
      refine lv_aload_n (pc := 63) hx hb dX1_tells_63 rfl (lv_at hl 0 rfl) ?_
      refine lv_iconst (pc := 64) (v := 0) hx hb dX1_tells_64 (by decide) ?_
      refine lv_iload_n (pc := 65) hx hb dX1_tells_65 rfl (lv_at hl 2 rfl) ?_
      obtain ⟨r12, σ10, e11, h⟩ := bnd2 h
      refine cl_X1_52 X hP hS (As := [.ref (ga G a0), .int (0 : Int32), .int a2]) (rest := []) (ih hk0 e11) ⟨rfl, rfl, Nat.le_refl _, (by show 8 + (3 + 11) + (n * 60 + 1025) ≤ (n + 1) * 60 + 1025; omega)⟩ rfl hl.1 rfl (Nat.le_of_ble_eq_true rfl) ⟨Nat.zero_le _, Nat.zero_le _⟩ (pc := 66) dX1_tells_66 (fun H locs hP hS => ?_)
      change W p l e _ s m _ below meth c H locs _ _ _ (F0 m (66 + 3) ls (.int r12 :: []))
      refine lv_aload_n (pc := 69) hx hb dX1_tells_69 rfl (lv_at hl 0 rfl) ?_
      refine lv_aload_n (pc := 70) hx hb dX1_tells_70 rfl (lv_at hl 0 rfl) ?_
      refine gt_X1_23 X hP hk0 dX1_tells_71 ?_
      refine lv_aload_n (pc := 74) hx hb dX1_tells_74 rfl (lv_at hl 0 rfl) ?_
      refine gt_X1_26 X hP hk0 dX1_tells_75 ?_
      obtain ⟨r15, σ13, e14, h⟩ := bnd2 h
      refine cl_X1_49 X hP hS (As := [.ref (ga G a0), .int (gI σ10 a0 3), .int (gI σ10 a0 4)]) (rest := [.int r12]) (c_X1_shares l G 8 hk0 e14) ⟨rfl, rfl, Nat.le_trans (Nat.le_of_ble_eq_true rfl) (Nat.le_add_left _ _), Nat.le_trans (Nat.le_of_ble_eq_true rfl) (Nat.le_add_left _ _)⟩ rfl hl.1 rfl (Nat.le_of_ble_eq_true rfl) ⟨Nat.zero_le _, Nat.zero_le _⟩ (pc := 78) dX1_tells_78 (fun H locs hP hS => ?_)
      change W p l e _ s m _ below meth c H locs _ _ _ (F0 m (78 + 3) ls (.int r15 :: [.int r12]))
      refine lv_iadd (pc := 81) hx hb dX1_tells_81 ?_
      obtain ⟨rfl, rfl⟩ := inj2 h
      exact r_iret X hP hS dX1_tells_82
    have h := ineg c7 h
    by_cases c16 : a1 = (5 : Int32)
    · have h := ipos c16 h
      refine r_look X (pc := 1) (tgt := 83) c16 dX1_tells_1 rfl rfl (by decide) ?_
      refine lv_aload_n (pc := 83) hx hb dX1_tells_83 rfl (lv_at hl 0 rfl) ?_
      refine lv_bipush (pc := 84) (v := (60)) hx hb dX1_tells_84 (by decide) ?_
      obtain ⟨σ17, e18, h⟩ := bnd1 h
      refine cl_X1_55 X hP hS hk0 (As := [.int (60 : Int32)]) (rest := []) (c_X1_begin l G hk0 e18) ⟨rfl, rfl, Nat.le_trans (Nat.le_of_ble_eq_true rfl) (Nat.le_add_left _ _), Nat.le_trans (Nat.le_of_ble_eq_true rfl) (Nat.le_add_left _ _)⟩ rfl hl.1 rfl (Nat.le_of_ble_eq_true rfl) ⟨Nat.zero_le _, Nat.zero_le _⟩ (pc := 86) dX1_tells_86 (fun H locs hP hS => ?_)
      change W p l e _ s m _ below meth c H locs _ _ _ (F0 m (86 + 3) ls [])
      refine lv_aload_n (pc := 89) hx hb dX1_tells_89 rfl (lv_at hl 0 rfl) ?_
      refine lv_iconst (pc := 90) (v := 1) hx hb dX1_tells_90 (by decide) ?_
      refine lv_iload_n (pc := 91) hx hb dX1_tells_91 rfl (lv_at hl 2 rfl) ?_
      obtain ⟨r21, σ19, e20, h⟩ := bnd2 h
      refine cl_X1_52 X hP hS (As := [.ref (ga G a0), .int (1 : Int32), .int a2]) (rest := []) (ih hk0 e20) ⟨rfl, rfl, Nat.le_refl _, (by show 8 + (3 + 11) + (n * 60 + 1025) ≤ (n + 1) * 60 + 1025; omega)⟩ rfl hl.1 rfl (Nat.le_of_ble_eq_true rfl) ⟨Nat.zero_le _, Nat.zero_le _⟩ (pc := 92) dX1_tells_92 (fun H locs hP hS => ?_)
      change W p l e _ s m _ below meth c H locs _ _ _ (F0 m (92 + 3) ls (.int r21 :: []))
      refine lv_iconst (pc := 95) (v := 2) hx hb dX1_tells_95 (by decide) ?_
      refine lv_imul (pc := 96) hx hb dX1_tells_96 ?_
      obtain ⟨rfl, rfl⟩ := inj2 h
      exact r_iret X hP hS dX1_tells_97
    have h := ineg c16 h
    refine lv_lookup (pc := 1) (off := 97) (tgt := 98) hx hb dX1_tells_1 rfl (Eq.trans (lv_osw c1 (by decide)) (Eq.trans (lv_osw c7 (by decide)) (Eq.trans (lv_osw c16 (by decide)) rfl))) (by decide) ?_
    refine lv_aload_n (pc := 98) hx hb dX1_tells_98 rfl (lv_at hl 0 rfl) ?_
    refine lv_iload_n (pc := 99) hx hb dX1_tells_99 rfl (lv_at hl 1 rfl) ?_
    obtain ⟨r24, σ22, e23, h⟩ := bnd2 h
    refine cl_X1_59 X hP hS (As := [.int a1]) (rest := [.ref (ga G a0)]) (c_X9_kindAbove l G  e23) ⟨rfl, rfl, Nat.le_trans (Nat.le_of_ble_eq_true rfl) (Nat.le_add_left _ _), Nat.le_trans (Nat.le_of_ble_eq_true rfl) (Nat.le_add_left _ _)⟩ rfl hl.1 rfl (Nat.le_of_ble_eq_true rfl) ⟨Nat.zero_le _, Nat.zero_le _⟩ (pc := 100) dX1_tells_100 (fun H locs hP hS => ?_)
    change W p l e _ s m _ below meth c H locs _ _ _ (F0 m (100 + 3) ls (.int r24 :: [.ref (ga G a0)]))
    refine lv_iload_n (pc := 103) hx hb dX1_tells_103 rfl (lv_at hl 2 rfl) ?_
    obtain ⟨r27, σ25, e26, h⟩ := bnd2 h
    refine cl_X1_52 X hP hS (As := [.ref (ga G a0), .int r24, .int a2]) (rest := []) (ih hk0 e26) ⟨rfl, rfl, Nat.le_refl _, (by show 8 + (3 + 11) + (n * 60 + 1025) ≤ (n + 1) * 60 + 1025; omega)⟩ rfl hl.1 rfl (Nat.le_of_ble_eq_true rfl) ⟨Nat.zero_le _, Nat.zero_le _⟩ (pc := 104) dX1_tells_104 (fun H locs hP hS => ?_)
    change W p l e _ s m _ below meth c H locs _ _ _ (F0 m (104 + 3) ls (.int r27 :: []))
    obtain ⟨rfl, rfl⟩ := inj2 h
    exact r_iret X hP hS dX1_tells_107
def f_X1_answerTo (k0 : Nat) (a1 : Int32) (a2 : Int32) (σ : Mem) : Option (Int32 × Mem) :=
  if a1 = (0 : Int32) then
    bd2 (f_X1_calls 8 k0 (gI σ k0 3) a2 σ) fun r4 σ2 =>
    some (r4, σ2)
  else
  if a1 = (1 : Int32) then
    bd2 (f_X1_hears 8 k0 (gI σ k0 3) a2 σ) fun r8 σ6 =>
    some (r8, σ6)
  else
  if a1 = (2 : Int32) then
    bd2 (f_X1_shares 8 k0 (gI σ k0 3) a2 σ) fun r12 σ10 =>
    some (r12, σ10)
  else
  bd2 (f_X1_tells 8 k0 (gI σ k0 3) a2 σ) fun r15 σ13 =>
  some (r15, σ13)
abbrev RM_X1_answerTo : Room := { frames := 28, cells := 0, slots := 0, locals := 1527 }
set_option maxHeartbeats 4000000 in
set_option maxRecDepth 100000 in
theorem c_X1_answerTo (l : Launch) (G : Gh) {k0 : Nat} {a1 : Int32} {a2 : Int32} {σ : Mem} {rr : Int32} {σr : Mem} (hk0 : kd k0 = 1) (h : f_X1_answerTo k0 a1 a2 σ = some (rr, σr)) : Met l yX1_answerTo [Cond.code yX1_answerTo prog_3_method_5_code 3 (some .int)] RM_X1_answerTo (va_Pc [.ref (ga G k0), .int a1, .int a2] (Pre G σ)) (QG G (some (.int rr)) σr) 0 0 (AA G) := by
  refine ct_of (by decide) (fun p e s m below meth c X hP => ?_)
  have hx := X.hx
  have hb := X.hb
  have hS : va_S (AA G) s.heap s.heap [] := va_S.rf
  have hl := lv_entry ([.ref (ga G k0), .int a1, .int a2]) (n := 3) (Nat.le_of_ble_eq_true rfl)
  rw [lg_entry_eq]
  generalize (lg_sl ([.ref (ga G k0), .int a1, .int a2]) ++ List.replicate (3 - (lg_sl ([.ref (ga G k0), .int a1, .int a2])).length) Slot.unset).toArray = ls at hl ⊢
  have hl : lv_has ls 3 [(0, .ref (ga G k0)), (1, .int a1), (2, .int a2)] := hl
  unfold f_X1_answerTo at h
  refine lv_iload_n (pc := 0) hx hb dX1_answerTo_0 rfl (lv_at hl 1 rfl) ?_
  by_cases c1 : a1 = (0 : Int32)
  · have h := ipos c1 h
    refine r_tabIn X (pc := 1) (tgt := 28) c1 dX1_answerTo_1 (by decide) (by decide) rfl (by decide) ?_
    refine lv_aload_n (pc := 28) hx hb dX1_answerTo_28 rfl (lv_at hl 0 rfl) ?_
    refine lv_aload_n (pc := 29) hx hb dX1_answerTo_29 rfl (lv_at hl 0 rfl) ?_
    refine gt_X1_23 X hP hk0 dX1_answerTo_30 ?_
    refine lv_iload_n (pc := 33) hx hb dX1_answerTo_33 rfl (lv_at hl 2 rfl) ?_
    obtain ⟨r4, σ2, e3, h⟩ := bnd2 h
    refine cl_X1_42 X hP hS (As := [.ref (ga G k0), .int (gI σ k0 3), .int a2]) (rest := []) (c_X1_calls l G 8 hk0 e3) ⟨rfl, rfl, Nat.le_of_ble_eq_true rfl, Nat.le_of_ble_eq_true rfl⟩ rfl hl.1 rfl (Nat.le_of_ble_eq_true rfl) ⟨Nat.zero_le _, Nat.zero_le _⟩ (pc := 34) dX1_answerTo_34 (fun H locs hP hS => ?_)
    change W p l e _ s m _ below meth c H locs _ _ _ (F0 m (34 + 3) ls (.int r4 :: []))
    obtain ⟨rfl, rfl⟩ := inj2 h
    exact r_iret X hP hS dX1_answerTo_37
  have h := ineg c1 h
  by_cases c5 : a1 = (1 : Int32)
  · have h := ipos c5 h
    refine r_tabIn X (pc := 1) (tgt := 38) c5 dX1_answerTo_1 (by decide) (by decide) rfl (by decide) ?_
    refine lv_aload_n (pc := 38) hx hb dX1_answerTo_38 rfl (lv_at hl 0 rfl) ?_
    refine lv_aload_n (pc := 39) hx hb dX1_answerTo_39 rfl (lv_at hl 0 rfl) ?_
    refine gt_X1_23 X hP hk0 dX1_answerTo_40 ?_
    refine lv_iload_n (pc := 43) hx hb dX1_answerTo_43 rfl (lv_at hl 2 rfl) ?_
    obtain ⟨r8, σ6, e7, h⟩ := bnd2 h
    refine cl_X1_46 X hP hS (As := [.ref (ga G k0), .int (gI σ k0 3), .int a2]) (rest := []) (c_X1_hears l G 8 hk0 e7) ⟨rfl, rfl, Nat.le_of_ble_eq_true rfl, Nat.le_of_ble_eq_true rfl⟩ rfl hl.1 rfl (Nat.le_of_ble_eq_true rfl) ⟨Nat.zero_le _, Nat.zero_le _⟩ (pc := 44) dX1_answerTo_44 (fun H locs hP hS => ?_)
    change W p l e _ s m _ below meth c H locs _ _ _ (F0 m (44 + 3) ls (.int r8 :: []))
    obtain ⟨rfl, rfl⟩ := inj2 h
    exact r_iret X hP hS dX1_answerTo_47
  have h := ineg c5 h
  by_cases c9 : a1 = (2 : Int32)
  · have h := ipos c9 h
    refine r_tabIn X (pc := 1) (tgt := 48) c9 dX1_answerTo_1 (by decide) (by decide) rfl (by decide) ?_
    refine lv_aload_n (pc := 48) hx hb dX1_answerTo_48 rfl (lv_at hl 0 rfl) ?_
    refine lv_aload_n (pc := 49) hx hb dX1_answerTo_49 rfl (lv_at hl 0 rfl) ?_
    refine gt_X1_23 X hP hk0 dX1_answerTo_50 ?_
    refine lv_iload_n (pc := 53) hx hb dX1_answerTo_53 rfl (lv_at hl 2 rfl) ?_
    obtain ⟨r12, σ10, e11, h⟩ := bnd2 h
    refine cl_X1_49 X hP hS (As := [.ref (ga G k0), .int (gI σ k0 3), .int a2]) (rest := []) (c_X1_shares l G 8 hk0 e11) ⟨rfl, rfl, Nat.le_of_ble_eq_true rfl, Nat.le_of_ble_eq_true rfl⟩ rfl hl.1 rfl (Nat.le_of_ble_eq_true rfl) ⟨Nat.zero_le _, Nat.zero_le _⟩ (pc := 54) dX1_answerTo_54 (fun H locs hP hS => ?_)
    change W p l e _ s m _ below meth c H locs _ _ _ (F0 m (54 + 3) ls (.int r12 :: []))
    obtain ⟨rfl, rfl⟩ := inj2 h
    exact r_iret X hP hS dX1_answerTo_57
  have h := ineg c9 h
  refine lv_tableOut (pc := 1) (tgt := 58) hx hb dX1_answerTo_1 (by have := lv_neT c1 (a := 0) (by decide); have := lv_neT c5 (a := 1) (by decide); have := lv_neT c9 (a := 2) (by decide); omega) (by decide) ?_
  refine lv_aload_n (pc := 58) hx hb dX1_answerTo_58 rfl (lv_at hl 0 rfl) ?_
  refine lv_aload_n (pc := 59) hx hb dX1_answerTo_59 rfl (lv_at hl 0 rfl) ?_
  refine gt_X1_23 X hP hk0 dX1_answerTo_60 ?_
  refine lv_iload_n (pc := 63) hx hb dX1_answerTo_63 rfl (lv_at hl 2 rfl) ?_
  obtain ⟨r15, σ13, e14, h⟩ := bnd2 h
  refine cl_X1_52 X hP hS (As := [.ref (ga G k0), .int (gI σ k0 3), .int a2]) (rest := []) (c_X1_tells l G 8 hk0 e14) ⟨rfl, rfl, Nat.le_of_ble_eq_true rfl, Nat.le_of_ble_eq_true rfl⟩ rfl hl.1 rfl (Nat.le_of_ble_eq_true rfl) ⟨Nat.zero_le _, Nat.zero_le _⟩ (pc := 64) dX1_answerTo_64 (fun H locs hP hS => ?_)
  change W p l e _ s m _ below meth c H locs _ _ _ (F0 m (64 + 3) ls (.int r15 :: []))
  obtain ⟨rfl, rfl⟩ := inj2 h
  exact r_iret X hP hS dX1_answerTo_67
def f_X1_doneBy (k0 : Nat) (a1 : Nat) (a2 : Int32) (a3 : Int32) (a4 : Int32) (σ : Mem) : Option (Int32 × Mem) :=
  bd1 (some (pI σ k0 3 (gI σ a1 0))) fun σ1 =>
  bd1 (some (pI σ1 k0 4 a2)) fun σ3 =>
  bd1 (some (pI σ3 k0 5 (gI σ3 a1 1))) fun σ5 =>
  bd2 (f_X1_answerTo k0 a3 a4 σ5) fun r9 σ7 =>
  if (gI σ7 k0 2) = (0 : Int32) then
    some (r9, σ7)
  else
    some ((-15 : Int32), σ7)
abbrev RM_X1_doneBy : Room := { frames := 29, cells := 0, slots := 0, locals := 1549 }
set_option maxHeartbeats 4000000 in
set_option maxRecDepth 100000 in
theorem c_X1_doneBy (l : Launch) (G : Gh) {k0 : Nat} {a1 : Nat} {a2 : Int32} {a3 : Int32} {a4 : Int32} {σ : Mem} {rr : Int32} {σr : Mem} (hk0 : kd k0 = 1) (hk1 : kd a1 = 0) (h : f_X1_doneBy k0 a1 a2 a3 a4 σ = some (rr, σr)) : Met l yX1_doneBy [Cond.code yX1_doneBy prog_3_method_4_code 6 (some .int)] RM_X1_doneBy (va_Pc [.ref (ga G k0), .ref (ga G a1), .int a2, .int a3, .int a4] (Pre G σ)) (QG G (some (.int rr)) σr) 0 0 (AA G) := by
  refine ct_of (by decide) (fun p e s m below meth c X hP => ?_)
  have hx := X.hx
  have hb := X.hb
  have hS : va_S (AA G) s.heap s.heap [] := va_S.rf
  have hl := lv_entry ([.ref (ga G k0), .ref (ga G a1), .int a2, .int a3, .int a4]) (n := 6) (Nat.le_of_ble_eq_true rfl)
  rw [lg_entry_eq]
  generalize (lg_sl ([.ref (ga G k0), .ref (ga G a1), .int a2, .int a3, .int a4]) ++ List.replicate (6 - (lg_sl ([.ref (ga G k0), .ref (ga G a1), .int a2, .int a3, .int a4])).length) Slot.unset).toArray = ls at hl ⊢
  have hl : lv_has ls 6 [(0, .ref (ga G k0)), (1, .ref (ga G a1)), (2, .int a2), (3, .int a3), (4, .int a4)] := hl
  unfold f_X1_doneBy at h
  refine lv_aload_n (pc := 0) hx hb dX1_doneBy_0 rfl (lv_at hl 0 rfl) ?_
  refine lv_aload_n (pc := 1) hx hb dX1_doneBy_1 rfl (lv_at hl 1 rfl) ?_
  refine gt_X1_32 X hP hk1 dX1_doneBy_2 ?_
  obtain ⟨σ1, e2, h⟩ := bnd1 h
  refine pt_X1_23 X hP hS hk0 dX1_doneBy_5 (fun H locs hP hS => ?_)
  rw [Option.some.inj e2] at hP
  refine lv_aload_n (pc := 8) hx hb dX1_doneBy_8 rfl (lv_at hl 0 rfl) ?_
  refine lv_iload_n (pc := 9) hx hb dX1_doneBy_9 rfl (lv_at hl 2 rfl) ?_
  obtain ⟨σ3, e4, h⟩ := bnd1 h
  refine pt_X1_26 X hP hS hk0 dX1_doneBy_10 (fun H locs hP hS => ?_)
  rw [Option.some.inj e4] at hP
  refine lv_aload_n (pc := 13) hx hb dX1_doneBy_13 rfl (lv_at hl 0 rfl) ?_
  refine lv_aload_n (pc := 14) hx hb dX1_doneBy_14 rfl (lv_at hl 1 rfl) ?_
  refine gt_X1_37 X hP hk1 dX1_doneBy_15 ?_
  obtain ⟨σ5, e6, h⟩ := bnd1 h
  refine pt_X1_29 X hP hS hk0 dX1_doneBy_18 (fun H locs hP hS => ?_)
  rw [Option.some.inj e6] at hP
  refine lv_aload_n (pc := 21) hx hb dX1_doneBy_21 rfl (lv_at hl 0 rfl) ?_
  refine lv_iload_n (pc := 22) hx hb dX1_doneBy_22 rfl (lv_at hl 3 rfl) ?_
  refine lv_iload (pc := 23) hx hb dX1_doneBy_23 (lv_at hl 4 rfl) ?_
  obtain ⟨r9, σ7, e8, h⟩ := bnd2 h
  refine cl_X1_38 X hP hS hk0 (As := [.int a3, .int a4]) (rest := []) (c_X1_answerTo l G hk0 e8) ⟨rfl, rfl, Nat.le_of_ble_eq_true rfl, Nat.le_of_ble_eq_true rfl⟩ rfl hl.1 rfl (Nat.le_of_ble_eq_true rfl) ⟨Nat.zero_le _, Nat.zero_le _⟩ (pc := 25) dX1_doneBy_25 (fun H locs hP hS => ?_)
  change W p l e _ s m _ below meth c H locs _ _ _ (F0 m (25 + 3) ls (.int r9 :: []))
  refine lv_istore (pc := 28) (lv' := [(5, .int r9), (0, .ref (ga G k0)), (1, .ref (ga G a1)), (2, .int a2), (3, .int a3), (4, .int a4)]) hx hb dX1_doneBy_28 hl (by decide) rfl (fun ls hl => ?_)
  refine lv_aload_n (pc := 30) hx hb dX1_doneBy_30 rfl (lv_at hl 1 rfl) ?_
  refine gt_X1_19 X hP hk0 dX1_doneBy_31 ?_
  refine lv_if_eq (pc := 34) (tgt := 42) hx hb dX1_doneBy_34 (by decide) (fun c10 => ?_) (fun c10 => ?_)
  · have h := ipos c10 h
    refine lv_iload (pc := 42) hx hb dX1_doneBy_42 (lv_at hl 0 rfl) ?_
    obtain ⟨rfl, rfl⟩ := inj2 h
    exact r_iret X hP hS dX1_doneBy_44
  · have h := ineg c10 h
    refine lv_bipush (pc := 37) (v := (-15)) hx hb dX1_doneBy_37 (by decide) ?_
    refine lv_goto (pc := 39) (tgt := 44) hx hb dX1_doneBy_39 (by decide) ?_
    obtain ⟨rfl, rfl⟩ := inj2 h
    exact r_iret X hP hS dX1_doneBy_44
