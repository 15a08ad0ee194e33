def f_X1_clear (k0 : Nat) (σ : Mem) : Option Mem :=
  bd1 (some (pI σ k0 1 (0 : Int32))) fun σ1 =>
  bd1 (some (pI σ1 k0 2 (0 : Int32))) fun σ3 =>
  some σ3
abbrev RM_X1_clear : Room := { frames := 0, cells := 0, slots := 0, locals := 0 }
set_option maxHeartbeats 4000000 in
set_option maxRecDepth 100000 in
theorem c_X1_clear (l : Launch) (G : Gh) {k0 : Nat} {σ : Mem} {σr : Mem} (hk0 : kd k0 = 1) (h : f_X1_clear k0 σ = some σr) : Met l yX1_clear [Cond.code yX1_clear prog_3_method_2_code 1 none] RM_X1_clear (va_Pc [.ref (ga G k0)] (Pre G σ)) (QG G none σr) 0 0 (AA G) := by
  refine ct_of (by decide) (fun p e s m below meth c X hP => ?_)
  have hx := X.hx
  have hb := X.hb
  have hS : va_S (AA G) s.heap s.heap [] := va_S.rf
  have hl := lv_entry ([.ref (ga G k0)]) (n := 1) (Nat.le_of_ble_eq_true rfl)
  rw [lg_entry_eq]
  generalize (lg_sl ([.ref (ga G k0)]) ++ List.replicate (1 - (lg_sl ([.ref (ga G k0)])).length) Slot.unset).toArray = ls at hl ⊢
  have hl : lv_has ls 1 [(0, .ref (ga G k0))] := hl
  unfold f_X1_clear at h
  refine lv_aload_n (pc := 0) hx hb dX1_clear_0 rfl (lv_at hl 0 rfl) ?_
  refine lv_iconst (pc := 1) (v := 0) hx hb dX1_clear_1 (by decide) ?_
  obtain ⟨σ1, e2, h⟩ := bnd1 h
  refine pt_X1_15 X hP hS hk0 dX1_clear_2 (fun H locs hP hS => ?_)
  rw [Option.some.inj e2] at hP
  refine lv_aload_n (pc := 5) hx hb dX1_clear_5 rfl (lv_at hl 0 rfl) ?_
  refine lv_iconst (pc := 6) (v := 0) hx hb dX1_clear_6 (by decide) ?_
  obtain ⟨σ3, e4, h⟩ := bnd1 h
  refine pt_X1_19 X hP hS hk0 (by decide) dX1_clear_7 (fun H locs hP hS => ?_)
  rw [Option.some.inj e4] at hP
  obtain rfl := Option.some.inj h
  exact r_vret X hP hS dX1_clear_10
def f_X1_bodyAt (k0 : Nat) (a1 : Int32) (σ : Mem) : Option (Int32 × Mem) :=
  if a1 < (0 : Int32) then
    some ((-3 : Int32), σ)
  else
    if (gI σ k0 1) ≤ a1 then
      some ((-3 : Int32), σ)
    else
      if (30 : Int32) ≤ a1 then
        some ((-3 : Int32), σ)
      else
        bd1 (ixo (k0 + 1) a1) fun j4 =>
        some ((gI σ (k0 + 1) j4), σ)
abbrev RM_X1_bodyAt : Room := { frames := 0, cells := 0, slots := 0, locals := 0 }
set_option maxHeartbeats 4000000 in
set_option maxRecDepth 100000 in
theorem c_X1_bodyAt (l : Launch) (G : Gh) {k0 : Nat} {a1 : Int32} {σ : Mem} {rr : Int32} {σr : Mem} (hk0 : kd k0 = 1) (h : f_X1_bodyAt k0 a1 σ = some (rr, σr)) : Met l yX1_bodyAt [Cond.code yX1_bodyAt prog_3_method_3_code 2 (some .int)] RM_X1_bodyAt (va_Pc [.ref (ga G k0), .int a1] (Pre G σ)) (QG G (some (.int rr)) σr) 0 0 (AA G) := by
  refine ct_of (by decide) (fun p e s m below meth c X hP => ?_)
  have hx := X.hx
  have hb := X.hb
  have hS : va_S (AA G) s.heap s.heap [] := va_S.rf
  have hl := lv_entry ([.ref (ga G k0), .int a1]) (n := 2) (Nat.le_of_ble_eq_true rfl)
  rw [lg_entry_eq]
  generalize (lg_sl ([.ref (ga G k0), .int a1]) ++ List.replicate (2 - (lg_sl ([.ref (ga G k0), .int a1])).length) Slot.unset).toArray = ls at hl ⊢
  have hl : lv_has ls 2 [(0, .ref (ga G k0)), (1, .int a1)] := hl
  unfold f_X1_bodyAt at h
  refine lv_iload_n (pc := 0) hx hb dX1_bodyAt_0 rfl (lv_at hl 1 rfl) ?_
  refine lv_if_lt (pc := 1) (tgt := 27) hx hb dX1_bodyAt_1 (by decide) (fun c1 => ?_) (fun c1 => ?_)
  · have h := ipos c1 h
    refine lv_bipush (pc := 27) (v := (-3)) hx hb dX1_bodyAt_27 (by decide) ?_
    obtain ⟨rfl, rfl⟩ := inj2 h
    exact r_iret X hP hS dX1_bodyAt_29
  · have h := ineg c1 h
    refine lv_iload_n (pc := 4) hx hb dX1_bodyAt_4 rfl (lv_at hl 1 rfl) ?_
    refine lv_aload_n (pc := 5) hx hb dX1_bodyAt_5 rfl (lv_at hl 0 rfl) ?_
    refine gt_X1_15 X hP hk0 dX1_bodyAt_6 ?_
    refine lv_icmp_ge (pc := 9) (tgt := 27) hx hb dX1_bodyAt_9 (by decide) (fun c2 => ?_) (fun c2 => ?_)
    · have h := ipos c2 h
      refine lv_bipush (pc := 27) (v := (-3)) hx hb dX1_bodyAt_27 (by decide) ?_
      obtain ⟨rfl, rfl⟩ := inj2 h
      exact r_iret X hP hS dX1_bodyAt_29
    · have h := ineg c2 h
      refine lv_iload_n (pc := 12) hx hb dX1_bodyAt_12 rfl (lv_at hl 1 rfl) ?_
      refine lv_bipush (pc := 13) (v := (30)) hx hb dX1_bodyAt_13 (by decide) ?_
      refine lv_icmp_ge (pc := 15) (tgt := 27) hx hb dX1_bodyAt_15 (by decide) (fun c3 => ?_) (fun c3 => ?_)
      · have h := ipos c3 h
        refine lv_bipush (pc := 27) (v := (-3)) hx hb dX1_bodyAt_27 (by decide) ?_
        obtain ⟨rfl, rfl⟩ := inj2 h
        exact r_iret X hP hS dX1_bodyAt_29
      · have h := ineg c3 h
        refine lv_aload_n (pc := 18) hx hb dX1_bodyAt_18 rfl (lv_at hl 0 rfl) ?_
        refine gt_X1_11 X hP hk0 dX1_bodyAt_19 ?_
        refine lv_iload_n (pc := 22) hx hb dX1_bodyAt_22 rfl (lv_at hl 1 rfl) ?_
        obtain ⟨j4, hj5, h⟩ := bnd1 h
        refine r_iald (pc := 23) X hP (kf_1_bodies hk0).1 hj5 dX1_bodyAt_23 ?_
        refine lv_goto (pc := 24) (tgt := 29) hx hb dX1_bodyAt_24 (by decide) ?_
        obtain ⟨rfl, rfl⟩ := inj2 h
        exact r_iret X hP hS dX1_bodyAt_29
def f_X1_begin (k0 : Nat) (a1 : Int32) (σ : Mem) : Option Mem :=
  if (gI σ k0 2) = (0 : Int32) then
    if (30 : Int32) ≤ (gI σ k0 1) then
      some σ
    else
      bd1 (ixo (k0 + 1) (gI σ k0 1)) fun j3 =>
      bd1 (some (pI σ (k0 + 1) j3 a1)) fun σ5 =>
      bd1 (some (pI σ5 k0 1 ((gI σ5 k0 1) + (1 : Int32)))) fun σ7 =>
      some σ7
  else
    some σ
abbrev RM_X1_begin : Room := { frames := 0, cells := 0, slots := 0, locals := 0 }
set_option maxHeartbeats 4000000 in
set_option maxRecDepth 100000 in
theorem c_X1_begin (l : Launch) (G : Gh) {k0 : Nat} {a1 : Int32} {σ : Mem} {σr : Mem} (hk0 : kd k0 = 1) (h : f_X1_begin k0 a1 σ = some σr) : Met l yX1_begin [Cond.code yX1_begin prog_3_method_6_code 2 none] RM_X1_begin (va_Pc [.ref (ga G k0), .int a1] (Pre G σ)) (QG G none σr) 0 0 (AA G) := by
  refine ct_of (by decide) (fun p e s m below meth c X hP => ?_)
  have hx := X.hx
  have hb := X.hb
  have hS : va_S (AA G) s.heap s.heap [] := va_S.rf
  have hl := lv_entry ([.ref (ga G k0), .int a1]) (n := 2) (Nat.le_of_ble_eq_true rfl)
  rw [lg_entry_eq]
  generalize (lg_sl ([.ref (ga G k0), .int a1]) ++ List.replicate (2 - (lg_sl ([.ref (ga G k0), .int a1])).length) Slot.unset).toArray = ls at hl ⊢
  have hl : lv_has ls 2 [(0, .ref (ga G k0)), (1, .int a1)] := hl
  unfold f_X1_begin at h
  refine lv_aload_n (pc := 0) hx hb dX1_begin_0 rfl (lv_at hl 0 rfl) ?_
  refine gt_X1_19 X hP hk0 dX1_begin_1 ?_
  refine lv_if_ne (pc := 4) (tgt := 36) hx hb dX1_begin_4 (by decide) (fun c1 => ?_) (fun c1 => ?_)
  · have h := ineg c1 h
    obtain rfl := Option.some.inj h
    exact r_vret X hP hS dX1_begin_36
  · have h := ipos c1 h
    refine lv_aload_n (pc := 7) hx hb dX1_begin_7 rfl (lv_at hl 0 rfl) ?_
    refine gt_X1_15 X hP hk0 dX1_begin_8 ?_
    refine lv_bipush (pc := 11) (v := (30)) hx hb dX1_begin_11 (by decide) ?_
    refine lv_icmp_ge (pc := 13) (tgt := 36) hx hb dX1_begin_13 (by decide) (fun c2 => ?_) (fun c2 => ?_)
    · have h := ipos c2 h
      obtain rfl := Option.some.inj h
      exact r_vret X hP hS dX1_begin_36
    · have h := ineg c2 h
      refine lv_aload_n (pc := 16) hx hb dX1_begin_16 rfl (lv_at hl 0 rfl) ?_
      refine gt_X1_11 X hP hk0 dX1_begin_17 ?_
      refine lv_aload_n (pc := 20) hx hb dX1_begin_20 rfl (lv_at hl 0 rfl) ?_
      refine gt_X1_15 X hP hk0 dX1_begin_21 ?_
      refine lv_iload_n (pc := 24) hx hb dX1_begin_24 rfl (lv_at hl 1 rfl) ?_
      obtain ⟨j3, hj4, h⟩ := bnd1 h
      obtain ⟨σ5, e6, h⟩ := bnd1 h
      refine r_iast (pc := 25) X hP hS (kf_1_bodies hk0).1 hj4 dX1_begin_25 (fun H locs hP hS => ?_)
      rw [Option.some.inj e6] at hP
      refine lv_aload_n (pc := 26) hx hb dX1_begin_26 rfl (lv_at hl 0 rfl) ?_
      refine lv_dup (pc := 27) hx hb dX1_begin_27 rfl ?_
      refine gt_X1_15 X hP hk0 dX1_begin_28 ?_
      refine lv_iconst (pc := 31) (v := 1) hx hb dX1_begin_31 (by decide) ?_
      refine lv_iadd (pc := 32) hx hb dX1_begin_32 ?_
      obtain ⟨σ7, e8, h⟩ := bnd1 h
      refine pt_X1_15 X hP hS hk0 dX1_begin_33 (fun H locs hP hS => ?_)
      rw [Option.some.inj e8] at hP
      obtain rfl := Option.some.inj h
      exact r_vret X hP hS dX1_begin_36
def f_X9_kindAbove (a0 : Int32) (σ : Mem) : Option (Int32 × Mem) :=
  if a0 = (3 : Int32) then
    some ((1 : Int32), σ)
  else
  if a0 = (4 : Int32) then
    some ((2 : Int32), σ)
  else
  if a0 = (5 : Int32) then
    some ((1 : Int32), σ)
  else
  some ((0 : Int32), σ)
abbrev RM_X9_kindAbove : Room := { frames := 0, cells := 0, slots := 0, locals := 0 }
set_option maxHeartbeats 4000000 in
set_option maxRecDepth 100000 in
theorem c_X9_kindAbove (l : Launch) (G : Gh) {a0 : Int32} {σ : Mem} {rr : Int32} {σr : Mem} (h : f_X9_kindAbove a0 σ = some (rr, σr)) : Met l yX9_kindAbove [Cond.code yX9_kindAbove prog_1_method_50_code 1 (some .int)] RM_X9_kindAbove (va_Pc [.int a0] (Pre G σ)) (QG G (some (.int rr)) σr) 0 0 (AA G) := by
  refine ct_of (by decide) (fun p e s m below meth c X hP => ?_)
  have hx := X.hx
  have hb := X.hb
  have hS : va_S (AA G) s.heap s.heap [] := va_S.rf
  have hl := lv_entry ([.int a0]) (n := 1) (Nat.le_of_ble_eq_true rfl)
  rw [lg_entry_eq]
  generalize (lg_sl ([.int a0]) ++ List.replicate (1 - (lg_sl ([.int a0])).length) Slot.unset).toArray = ls at hl ⊢
  have hl : lv_has ls 1 [(0, .int a0)] := hl
  unfold f_X9_kindAbove at h
  refine lv_iload_n (pc := 0) hx hb dX9_kindAbove_0 rfl (lv_at hl 0 rfl) ?_
  by_cases c1 : a0 = (3 : Int32)
  · have h := ipos c1 h
    refine r_tabIn X (pc := 1) (tgt := 28) c1 dX9_kindAbove_1 (by decide) (by decide) rfl (by decide) ?_
    refine lv_iconst (pc := 28) (v := 1) hx hb dX9_kindAbove_28 (by decide) ?_
    obtain ⟨rfl, rfl⟩ := inj2 h
    exact r_iret X hP hS dX9_kindAbove_29
  have h := ineg c1 h
  by_cases c2 : a0 = (4 : Int32)
  · have h := ipos c2 h
    refine r_tabIn X (pc := 1) (tgt := 30) c2 dX9_kindAbove_1 (by decide) (by decide) rfl (by decide) ?_
    refine lv_iconst (pc := 30) (v := 2) hx hb dX9_kindAbove_30 (by decide) ?_
    obtain ⟨rfl, rfl⟩ := inj2 h
    exact r_iret X hP hS dX9_kindAbove_31
  have h := ineg c2 h
  by_cases c3 : a0 = (5 : Int32)
  · have h := ipos c3 h
    refine r_tabIn X (pc := 1) (tgt := 28) c3 dX9_kindAbove_1 (by decide) (by decide) rfl (by decide) ?_
    refine lv_iconst (pc := 28) (v := 1) hx hb dX9_kindAbove_28 (by decide) ?_
    obtain ⟨rfl, rfl⟩ := inj2 h
    exact r_iret X hP hS dX9_kindAbove_29
  have h := ineg c3 h
  refine lv_tableOut (pc := 1) (tgt := 32) hx hb dX9_kindAbove_1 (by have := lv_neT c1 (a := 3) (by decide); have := lv_neT c2 (a := 4) (by decide); have := lv_neT c3 (a := 5) (by decide); omega) (by decide) ?_
  refine lv_iconst (pc := 32) (v := 0) hx hb dX9_kindAbove_32 (by decide) ?_
  obtain ⟨rfl, rfl⟩ := inj2 h
  exact r_iret X hP hS dX9_kindAbove_33
def F_X1_calls (rec : Nat → Int32 → Int32 → Int32 → Mem → Option (Int32 × Mem)) : Nat → Int32 → Int32 → Int32 → Mem → Option (Int32 × Mem) := fun a0 a1 a2 a3 σ =>
  if a3 < (40 : Int32) then
    if a1 = (0 : Int32) then
      bd1 (f_X1_begin a0 (10 : Int32) σ) fun σ3 =>
      some ((a2 + (gI σ3 a0 4)), σ3)
    else
    if a1 = (1 : Int32) then
      bd2 (f_X9_kindAbove a1 σ) fun r8 σ6 =>
      bd2 (rec a0 r8 a2 (a3 + (1 : Int32)) σ6) fun r11 σ9 =>
      some (r11, σ9)
    else
    if a1 = (2 : Int32) then
      bd1 (f_X1_begin a0 (30 : Int32) σ) fun σ13 =>
      bd2 (rec a0 (0 : Int32) a2 (a3 + (1 : Int32)) σ13) fun r17 σ15 =>
      some ((r17 * (3 : Int32)), σ15)
    else
    if a1 = (3 : Int32) then
      bd1 (f_X1_begin a0 (51 : Int32) σ) fun σ19 =>
      bd2 (rec a0 (1 : Int32) a2 (a3 + (1 : Int32)) σ19) fun r23 σ21 =>
      some ((r23 - (gI σ21 a0 4)), σ21)
    else
    if a1 = (4 : Int32) then
      bd1 (f_X1_begin a0 (40 : Int32) σ) fun σ25 =>
      bd2 (rec a0 (2 : Int32) a2 (a3 + (1 : Int32)) σ25) fun r29 σ27 =>
      some (((0 : Int32) - r29), σ27)
    else
    bd2 (f_X9_kindAbove a1 σ) fun r32 σ30 =>
    bd2 (rec a0 r32 a2 (a3 + (1 : Int32)) σ30) fun r35 σ33 =>
    some (r35, σ33)
  else
    some ((0 : Int32), σ)
def f_X1_calls (n : Nat) : Nat → Int32 → Int32 → Int32 → Mem → Option (Int32 × Mem) := iterF F_X1_calls (fun _ _ _ _ _ => none) n
def RM_X1_calls (n : Nat) : Room := { frames := n + 1, cells := 0, slots := 0, locals := n * 60 + 21 }
set_option maxHeartbeats 4000000 in
set_option maxRecDepth 100000 in
theorem c_X1_calls (l : Launch) (G : Gh) : ∀ (n : Nat) {a0 : Nat} {a1 : Int32} {a2 : Int32} {a3 : Int32}  {σ : Mem} {rr : Int32} {σr : Mem} (hk0 : kd a0 = 1) (_ : f_X1_calls n a0 a1 a2 a3 σ = some (rr, σr)), Met l yX1_calls [Cond.code yX1_calls prog_3_method_7_code 4 (some .int)] (RM_X1_calls n) (va_Pc [.ref (ga G a0), .int a1, .int a2, .int a3] (Pre G σ)) (QG G (some (.int rr)) σr) 0 0 (AA G) := by
  intro n
  induction n with
  | zero => intro a0 a1 a2 a3 σ rr σr hk0 h; exact nnone (α := (Int32 × Mem)) h
  | succ n ih =>
    intro a0 a1 a2 a3 σ rr σr hk0 h
    refine ct_of (by decide) (fun p e s m below meth c X hP => ?_)
    have hx := X.hx
    have hb := X.hb
    have hS : va_S (AA G) s.heap s.heap [] := va_S.rf
    have hl := lv_entry ([.ref (ga G a0), .int a1, .int a2, .int a3]) (n := 4) (Nat.le_of_ble_eq_true rfl)
    rw [lg_entry_eq]
    generalize (lg_sl ([.ref (ga G a0), .int a1, .int a2, .int a3]) ++ List.replicate (4 - (lg_sl ([.ref (ga G a0), .int a1, .int a2, .int a3])).length) Slot.unset).toArray = ls at hl ⊢
    have hl : lv_has ls 4 [(0, .ref (ga G a0)), (1, .int a1), (2, .int a2), (3, .int a3)] := hl
    have h : F_X1_calls (f_X1_calls n) a0 a1 a2 a3 σ = some _ := h
    unfold F_X1_calls at h
    refine lv_iload_n (pc := 0) hx hb dX1_calls_0 rfl (lv_at hl 3 rfl) ?_
    refine lv_bipush (pc := 1) (v := (40)) hx hb dX1_calls_1 (by decide) ?_
    refine lv_icmp_lt (pc := 3) (tgt := 8) hx hb dX1_calls_3 (by decide) (fun c1 => ?_) (fun c1 => ?_)
    · have h := ipos c1 h
      refine lv_iload_n (pc := 8) hx hb dX1_calls_8 rfl (lv_at hl 1 rfl) ?_
      by_cases c2 : a1 = (0 : Int32)
      · have h := ipos c2 h
        refine r_tabIn X (pc := 9) (tgt := 44) c2 dX1_calls_9 (by decide) (by decide) rfl (by decide) ?_
        refine lv_aload_n (pc := 44) hx hb dX1_calls_44 rfl (lv_at hl 0 rfl) ?_
        refine lv_bipush (pc := 45) (v := (10)) hx hb dX1_calls_45 (by decide) ?_
        obtain ⟨σ3, e4, h⟩ := bnd1 h
        refine cl_X1_55 X hP hS hk0 (As := [.int (10 : Int32)]) (rest := []) (c_X1_begin l G hk0 e4) ⟨rfl, rfl, Nat.le_trans (Nat.le_of_ble_eq_true rfl) (Nat.le_add_left _ _), Nat.le_trans (Nat.le_of_ble_eq_true rfl) (Nat.le_add_left _ _)⟩ rfl hl.1 rfl (Nat.le_of_ble_eq_true rfl) ⟨Nat.zero_le _, Nat.zero_le _⟩ (pc := 47) dX1_calls_47 (fun H locs hP hS => ?_)
        change W p l e _ s m _ below meth c H locs _ _ _ (F0 m (47 + 3) ls [])
        refine lv_iload_n (pc := 50) hx hb dX1_calls_50 rfl (lv_at hl 2 rfl) ?_
        refine lv_aload_n (pc := 51) hx hb dX1_calls_51 rfl (lv_at hl 0 rfl) ?_
        refine gt_X1_26 X hP hk0 dX1_calls_52 ?_
        refine lv_iadd (pc := 55) hx hb dX1_calls_55 ?_
        obtain ⟨rfl, rfl⟩ := inj2 h
        exact r_iret X hP hS dX1_calls_56
      have h := ineg c2 h
      by_cases c5 : a1 = (1 : Int32)
      · have h := ipos c5 h
        refine r_tabIn X (pc := 9) (tgt := 114) c5 dX1_calls_9 (by decide) (by decide) rfl (by decide) ?_
        refine lv_aload_n (pc := 114) hx hb dX1_calls_114 rfl (lv_at hl 0 rfl) ?_
        refine lv_iload_n (pc := 115) hx hb dX1_calls_115 rfl (lv_at hl 1 rfl) ?_
        obtain ⟨r8, σ6, e7, h⟩ := bnd2 h
        refine cl_X1_59 X hP hS (As := [.int a1]) (rest := [.ref (ga G a0)]) (c_X9_kindAbove l G  e7) ⟨rfl, rfl, Nat.le_trans (Nat.le_of_ble_eq_true rfl) (Nat.le_add_left _ _), Nat.le_trans (Nat.le_of_ble_eq_true rfl) (Nat.le_add_left _ _)⟩ rfl hl.1 rfl (Nat.le_of_ble_eq_true rfl) ⟨Nat.zero_le _, Nat.zero_le _⟩ (pc := 116) dX1_calls_116 (fun H locs hP hS => ?_)
        change W p l e _ s m _ below meth c H locs _ _ _ (F0 m (116 + 3) ls (.int r8 :: [.ref (ga G a0)]))
        refine lv_iload_n (pc := 119) hx hb dX1_calls_119 rfl (lv_at hl 2 rfl) ?_
        refine lv_iload_n (pc := 120) hx hb dX1_calls_120 rfl (lv_at hl 3 rfl) ?_
        refine lv_iconst (pc := 121) (v := 1) hx hb dX1_calls_121 (by decide) ?_
        refine lv_iadd (pc := 122) hx hb dX1_calls_122 ?_
        obtain ⟨r11, σ9, e10, h⟩ := bnd2 h
        refine cl_X1_42 X hP hS (As := [.ref (ga G a0), .int r8, .int a2, .int (a3 + (1 : Int32))]) (rest := []) (ih hk0 e10) ⟨rfl, rfl, Nat.le_refl _, (by show 8 + (4 + 11) + (n * 60 + 21) ≤ (n + 1) * 60 + 21; omega)⟩ rfl hl.1 rfl (Nat.le_of_ble_eq_true rfl) ⟨Nat.zero_le _, Nat.zero_le _⟩ (pc := 123) dX1_calls_123 (fun H locs hP hS => ?_)
        change W p l e _ s m _ below meth c H locs _ _ _ (F0 m (123 + 3) ls (.int r11 :: []))
        obtain ⟨rfl, rfl⟩ := inj2 h
        exact r_iret X hP hS dX1_calls_126
      have h := ineg c5 h
      by_cases c12 : a1 = (2 : Int32)
      · have h := ipos c12 h
        refine r_tabIn X (pc := 9) (tgt := 57) c12 dX1_calls_9 (by decide) (by decide) rfl (by decide) ?_
        refine lv_aload_n (pc := 57) hx hb dX1_calls_57 rfl (lv_at hl 0 rfl) ?_
        refine lv_bipush (pc := 58) (v := (30)) hx hb dX1_calls_58 (by decide) ?_
        obtain ⟨σ13, e14, h⟩ := bnd1 h
        refine cl_X1_55 X hP hS hk0 (As := [.int (30 : Int32)]) (rest := []) (c_X1_begin l G hk0 e14) ⟨rfl, rfl, Nat.le_trans (Nat.le_of_ble_eq_true rfl) (Nat.le_add_left _ _), Nat.le_trans (Nat.le_of_ble_eq_true rfl) (Nat.le_add_left _ _)⟩ rfl hl.1 rfl (Nat.le_of_ble_eq_true rfl) ⟨Nat.zero_le _, Nat.zero_le _⟩ (pc := 60) dX1_calls_60 (fun H locs hP hS => ?_)
        change W p l e _ s m _ below meth c H locs _ _ _ (F0 m (60 + 3) ls [])
        refine lv_aload_n (pc := 63) hx hb dX1_calls_63 rfl (lv_at hl 0 rfl) ?_
        refine lv_iconst (pc := 64) (v := 0) hx hb dX1_calls_64 (by decide) ?_
        refine lv_iload_n (pc := 65) hx hb dX1_calls_65 rfl (lv_at hl 2 rfl) ?_
        refine lv_iload_n (pc := 66) hx hb dX1_calls_66 rfl (lv_at hl 3 rfl) ?_
        refine lv_iconst (pc := 67) (v := 1) hx hb dX1_calls_67 (by decide) ?_
        refine lv_iadd (pc := 68) hx hb dX1_calls_68 ?_
        obtain ⟨r17, σ15, e16, h⟩ := bnd2 h
        refine cl_X1_42 X hP hS (As := [.ref (ga G a0), .int (0 : Int32), .int a2, .int (a3 + (1 : Int32))]) (rest := []) (ih hk0 e16) ⟨rfl, rfl, Nat.le_refl _, (by show 8 + (4 + 11) + (n * 60 + 21) ≤ (n + 1) * 60 + 21; omega)⟩ rfl hl.1 rfl (Nat.le_of_ble_eq_true rfl) ⟨Nat.zero_le _, Nat.zero_le _⟩ (pc := 69) dX1_calls_69 (fun H locs hP hS => ?_)
        change W p l e _ s m _ below meth c H locs _ _ _ (F0 m (69 + 3) ls (.int r17 :: []))
        refine lv_iconst (pc := 72) (v := 3) hx hb dX1_calls_72 (by decide) ?_
        refine lv_imul (pc := 73) hx hb dX1_calls_73 ?_
        obtain ⟨rfl, rfl⟩ := inj2 h
        exact r_iret X hP hS dX1_calls_74
      have h := ineg c12 h
      by_cases c18 : a1 = (3 : Int32)
      · have h := ipos c18 h
        refine r_tabIn X (pc := 9) (tgt := 93) c18 dX1_calls_9 (by decide) (by decide) rfl (by decide) ?_
        refine lv_aload_n (pc := 93) hx hb dX1_calls_93 rfl (lv_at hl 0 rfl) ?_
        refine lv_bipush (pc := 94) (v := (51)) hx hb dX1_calls_94 (by decide) ?_
        obtain ⟨σ19, e20, h⟩ := bnd1 h
        refine cl_X1_55 X hP hS hk0 (As := [.int (51 : Int32)]) (rest := []) (c_X1_begin l G hk0 e20) ⟨rfl, rfl, Nat.le_trans (Nat.le_of_ble_eq_true rfl) (Nat.le_add_left _ _), Nat.le_trans (Nat.le_of_ble_eq_true rfl) (Nat.le_add_left _ _)⟩ rfl hl.1 rfl (Nat.le_of_ble_eq_true rfl) ⟨Nat.zero_le _, Nat.zero_le _⟩ (pc := 96) dX1_calls_96 (fun H locs hP hS => ?_)
        change W p l e _ s m _ below meth c H locs _ _ _ (F0 m (96 + 3) ls [])
        refine lv_aload_n (pc := 99) hx hb dX1_calls_99 rfl (lv_at hl 0 rfl) ?_
        refine lv_iconst (pc := 100) (v := 1) hx hb dX1_calls_100 (by decide) ?_
        refine lv_iload_n (pc := 101) hx hb dX1_calls_101 rfl (lv_at hl 2 rfl) ?_
        refine lv_iload_n (pc := 102) hx hb dX1_calls_102 rfl (lv_at hl 3 rfl) ?_
        refine lv_iconst (pc := 103) (v := 1) hx hb dX1_calls_103 (by decide) ?_
        refine lv_iadd (pc := 104) hx hb dX1_calls_104 ?_
        obtain ⟨r23, σ21, e22, h⟩ := bnd2 h
        refine cl_X1_42 X hP hS (As := [.ref (ga G a0), .int (1 : Int32), .int a2, .int (a3 + (1 : Int32))]) (rest := []) (ih hk0 e22) ⟨rfl, rfl, Nat.le_refl _, (by show 8 + (4 + 11) + (n * 60 + 21) ≤ (n + 1) * 60 + 21; omega)⟩ rfl hl.1 rfl (Nat.le_of_ble_eq_true rfl) ⟨Nat.zero_le _, Nat.zero_le _⟩ (pc := 105) dX1_calls_105 (fun H locs hP hS => ?_)
        change W p l e _ s m _ below meth c H locs _ _ _ (F0 m (105 + 3) ls (.int r23 :: []))
        refine lv_aload_n (pc := 108) hx hb dX1_calls_108 rfl (lv_at hl 0 rfl) ?_
        refine gt_X1_26 X hP hk0 dX1_calls_109 ?_
        refine lv_isub (pc := 112) hx hb dX1_calls_112 ?_
        obtain ⟨rfl, rfl⟩ := inj2 h
        exact r_iret X hP hS dX1_calls_113
      have h := ineg c18 h
      by_cases c24 : a1 = (4 : Int32)
      · have h := ipos c24 h
        refine r_tabIn X (pc := 9) (tgt := 75) c24 dX1_calls_9 (by decide) (by decide) rfl (by decide) ?_
        refine lv_aload_n (pc := 75) hx hb dX1_calls_75 rfl (lv_at hl 0 rfl) ?_
        refine lv_bipush (pc := 76) (v := (40)) hx hb dX1_calls_76 (by decide) ?_
        obtain ⟨σ25, e26, h⟩ := bnd1 h
        refine cl_X1_55 X hP hS hk0 (As := [.int (40 : Int32)]) (rest := []) (c_X1_begin l G hk0 e26) ⟨rfl, rfl, Nat.le_trans (Nat.le_of_ble_eq_true rfl) (Nat.le_add_left _ _), Nat.le_trans (Nat.le_of_ble_eq_true rfl) (Nat.le_add_left _ _)⟩ rfl hl.1 rfl (Nat.le_of_ble_eq_true rfl) ⟨Nat.zero_le _, Nat.zero_le _⟩ (pc := 78) dX1_calls_78 (fun H locs hP hS => ?_)
        change W p l e _ s m _ below meth c H locs _ _ _ (F0 m (78 + 3) ls [])
        refine lv_iconst (pc := 81) (v := 0) hx hb dX1_calls_81 (by decide) ?_
        refine lv_aload_n (pc := 82) hx hb dX1_calls_82 rfl (lv_at hl 0 rfl) ?_
        refine lv_iconst (pc := 83) (v := 2) hx hb dX1_calls_83 (by decide) ?_
        refine lv_iload_n (pc := 84) hx hb dX1_calls_84 rfl (lv_at hl 2 rfl) ?_
        refine lv_iload_n (pc := 85) hx hb dX1_calls_85 rfl (lv_at hl 3 rfl) ?_
        refine lv_iconst (pc := 86) (v := 1) hx hb dX1_calls_86 (by decide) ?_
        refine lv_iadd (pc := 87) hx hb dX1_calls_87 ?_
        obtain ⟨r29, σ27, e28, h⟩ := bnd2 h
        refine cl_X1_42 X hP hS (As := [.ref (ga G a0), .int (2 : Int32), .int a2, .int (a3 + (1 : Int32))]) (rest := [.int (0 : Int32)]) (ih hk0 e28) ⟨rfl, rfl, Nat.le_refl _, (by show 8 + (4 + 11) + (n * 60 + 21) ≤ (n + 1) * 60 + 21; omega)⟩ rfl hl.1 rfl (Nat.le_of_ble_eq_true rfl) ⟨Nat.zero_le _, Nat.zero_le _⟩ (pc := 88) dX1_calls_88 (fun H locs hP hS => ?_)
        change W p l e _ s m _ below meth c H locs _ _ _ (F0 m (88 + 3) ls (.int r29 :: [.int (0 : Int32)]))
        refine lv_isub (pc := 91) hx hb dX1_calls_91 ?_
        obtain ⟨rfl, rfl⟩ := inj2 h
        exact r_iret X hP hS dX1_calls_92
      have h := ineg c24 h
      refine lv_tableOut (pc := 9) (tgt := 114) hx hb dX1_calls_9 (by have := lv_neT c2 (a := 0) (by decide); have := lv_neT c5 (a := 1) (by decide); have := lv_neT c12 (a := 2) (by decide); have := lv_neT c18 (a := 3) (by decide); have := lv_neT c24 (a := 4) (by decide); omega) (by decide) ?_
      refine lv_aload_n (pc := 114) hx hb dX1_calls_114 rfl (lv_at hl 0 rfl) ?_
      refine lv_iload_n (pc := 115) hx hb dX1_calls_115 rfl (lv_at hl 1 rfl) ?_
      obtain ⟨r32, σ30, e31, h⟩ := bnd2 h
      refine cl_X1_59 X hP hS (As := [.int a1]) (rest := [.ref (ga G a0)]) (c_X9_kindAbove l G  e31) ⟨rfl, rfl, Nat.le_trans (Nat.le_of_ble_eq_true rfl) (Nat.le_add_left _ _), Nat.le_trans (Nat.le_of_ble_eq_true rfl) (Nat.le_add_left _ _)⟩ rfl hl.1 rfl (Nat.le_of_ble_eq_true rfl) ⟨Nat.zero_le _, Nat.zero_le _⟩ (pc := 116) dX1_calls_116 (fun H locs hP hS => ?_)
      change W p l e _ s m _ below meth c H locs _ _ _ (F0 m (116 + 3) ls (.int r32 :: [.ref (ga G a0)]))
      refine lv_iload_n (pc := 119) hx hb dX1_calls_119 rfl (lv_at hl 2 rfl) ?_
      refine lv_iload_n (pc := 120) hx hb dX1_calls_120 rfl (lv_at hl 3 rfl) ?_
      refine lv_iconst (pc := 121) (v := 1) hx hb dX1_calls_121 (by decide) ?_
      refine lv_iadd (pc := 122) hx hb dX1_calls_122 ?_
      obtain ⟨r35, σ33, e34, h⟩ := bnd2 h
      refine cl_X1_42 X hP hS (As := [.ref (ga G a0), .int r32, .int a2, .int (a3 + (1 : Int32))]) (rest := []) (ih hk0 e34) ⟨rfl, rfl, Nat.le_refl _, (by show 8 + (4 + 11) + (n * 60 + 21) ≤ (n + 1) * 60 + 21; omega)⟩ rfl hl.1 rfl (Nat.le_of_ble_eq_true rfl) ⟨Nat.zero_le _, Nat.zero_le _⟩ (pc := 123) dX1_calls_123 (fun H locs hP hS => ?_)
      change W p l e _ s m _ below meth c H locs _ _ _ (F0 m (123 + 3) ls (.int r35 :: []))
      obtain ⟨rfl, rfl⟩ := inj2 h
      exact r_iret X hP hS dX1_calls_126
    · have h := ineg c1 h
      refine lv_iconst (pc := 6) (v := 0) hx hb dX1_calls_6 (by decide) ?_
      obtain ⟨rfl, rfl⟩ := inj2 h
      exact r_iret X hP hS dX1_calls_7
def F_X1_hears (rec : Nat → Int32 → Int32 → Int32 → Mem → Option (Int32 × Mem)) : Nat → Int32 → Int32 → Int32 → Mem → Option (Int32 × Mem) := fun a0 a1 a2 a3 σ =>
  if a3 < (40 : Int32) then
    if a1 = (0 : Int32) then
      bd1 (f_X1_begin a0 (11 : Int32) σ) fun σ3 =>
      bd2 (f_X1_calls 8 a0 (gI σ3 a0 3) a2 (a3 + (1 : Int32)) σ3) fun r7 σ5 =>
      some ((r7 * (2 : Int32)), σ5)
    else
    if a1 = (1 : Int32) then
      bd1 (f_X1_begin a0 (20 : Int32) σ) fun σ9 =>
      bd2 (rec a0 (0 : Int32) a2 (a3 + (1 : Int32)) σ9) fun r13 σ11 =>
      some ((r13 - (gI σ11 a0 5)), σ11)
    else
    if a1 = (2 : Int32) then
      bd2 (f_X9_kindAbove a1 σ) fun r17 σ15 =>
      bd2 (rec a0 r17 a2 (a3 + (1 : Int32)) σ15) fun r20 σ18 =>
      some (r20, σ18)
    else
    if a1 = (3 : Int32) then
      bd2 (f_X9_kindAbove a1 σ) fun r24 σ22 =>
      bd2 (rec a0 r24 a2 (a3 + (1 : Int32)) σ22) fun r27 σ25 =>
      some (r27, σ25)
    else
    if a1 = (4 : Int32) then
      bd1 (f_X1_begin a0 (41 : Int32) σ) fun σ29 =>
      bd2 (rec a0 (2 : Int32) a2 (a3 + (1 : Int32)) σ29) fun r33 σ31 =>
      bd2 (f_X1_calls 8 a0 (gI σ31 a0 3) (gI σ31 a0 4) (a3 + (1 : Int32)) σ31) fun r36 σ34 =>
      some ((r33 + r36), σ34)
    else
    bd2 (f_X9_kindAbove a1 σ) fun r39 σ37 =>
    bd2 (rec a0 r39 a2 (a3 + (1 : Int32)) σ37) fun r42 σ40 =>
    some (r42, σ40)
  else
    some ((0 : Int32), σ)
def f_X1_hears (n : Nat) : Nat → Int32 → Int32 → Int32 → Mem → Option (Int32 × Mem) := iterF F_X1_hears (fun _ _ _ _ _ => none) n
def RM_X1_hears (n : Nat) : Room := { frames := n + 10, cells := 0, slots := 0, locals := n * 60 + 524 }
set_option maxHeartbeats 4000000 in
set_option maxRecDepth 100000 in
theorem c_X1_hears (l : Launch) (G : Gh) : ∀ (n : Nat) {a0 : Nat} {a1 : Int32} {a2 : Int32} {a3 : Int32}  {σ : Mem} {rr : Int32} {σr : Mem} (hk0 : kd a0 = 1) (_ : f_X1_hears n a0 a1 a2 a3 σ = some (rr, σr)), Met l yX1_hears [Cond.code yX1_hears prog_3_method_8_code 4 (some .int)] (RM_X1_hears n) (va_Pc [.ref (ga G a0), .int a1, .int a2, .int a3] (Pre G σ)) (QG G (some (.int rr)) σr) 0 0 (AA G) := by
  intro n
  induction n with
  | zero => intro a0 a1 a2 a3 σ rr σr hk0 h; exact nnone (α := (Int32 × Mem)) h
  | succ n ih =>
    intro a0 a1 a2 a3 σ rr σr hk0 h
    refine ct_of (by decide) (fun p e s m below meth c X hP => ?_)
    have hx := X.hx
    have hb := X.hb
    have hS : va_S (AA G) s.heap s.heap [] := va_S.rf
    have hl := lv_entry ([.ref (ga G a0), .int a1, .int a2, .int a3]) (n := 4) (Nat.le_of_ble_eq_true rfl)
    rw [lg_entry_eq]
    generalize (lg_sl ([.ref (ga G a0), .int a1, .int a2, .int a3]) ++ List.replicate (4 - (lg_sl ([.ref (ga G a0), .int a1, .int a2, .int a3])).length) Slot.unset).toArray = ls at hl ⊢
    have hl : lv_has ls 4 [(0, .ref (ga G a0)), (1, .int a1), (2, .int a2), (3, .int a3)] := hl
    have h : F_X1_hears (f_X1_hears n) a0 a1 a2 a3 σ = some _ := h
    unfold F_X1_hears at h
    refine lv_iload_n (pc := 0) hx hb dX1_hears_0 rfl (lv_at hl 3 rfl) ?_
    refine lv_bipush (pc := 1) (v := (40)) hx hb dX1_hears_1 (by decide) ?_
    refine lv_icmp_lt (pc := 3) (tgt := 8) hx hb dX1_hears_3 (by decide) (fun c1 => ?_) (fun c1 => ?_)
    · have h := ipos c1 h
      refine lv_iload_n (pc := 8) hx hb dX1_hears_8 rfl (lv_at hl 1 rfl) ?_
      by_cases c2 : a1 = (0 : Int32)
      · have h := ipos c2 h
        refine r_tabIn X (pc := 9) (tgt := 44) c2 dX1_hears_9 (by decide) (by decide) rfl (by decide) ?_
        refine lv_aload_n (pc := 44) hx hb dX1_hears_44 rfl (lv_at hl 0 rfl) ?_
        refine lv_bipush (pc := 45) (v := (11)) hx hb dX1_hears_45 (by decide) ?_
        obtain ⟨σ3, e4, h⟩ := bnd1 h
        refine cl_X1_55 X hP hS hk0 (As := [.int (11 : Int32)]) (rest := []) (c_X1_begin l G hk0 e4) ⟨rfl, rfl, Nat.le_trans (Nat.le_of_ble_eq_true rfl) (Nat.le_add_left _ _), Nat.le_trans (Nat.le_of_ble_eq_true rfl) (Nat.le_add_left _ _)⟩ rfl hl.1 rfl (Nat.le_of_ble_eq_true rfl) ⟨Nat.zero_le _, Nat.zero_le _⟩ (pc := 47) dX1_hears_47 (fun H locs hP hS => ?_)
        change W p l e _ s m _ below meth c H locs _ _ _ (F0 m (47 + 3) ls [])
        refine lv_aload_n (pc := 50) hx hb dX1_hears_50 rfl (lv_at hl 0 rfl) ?_
        refine lv_aload_n (pc := 51) hx hb dX1_hears_51 rfl (lv_at hl 0 rfl) ?_
        refine gt_X1_23 X hP hk0 dX1_hears_52 ?_
        refine lv_iload_n (pc := 55) hx hb dX1_hears_55 rfl (lv_at hl 2 rfl) ?_
        refine lv_iload_n (pc := 56) hx hb dX1_hears_56 rfl (lv_at hl 3 rfl) ?_
        refine lv_iconst (pc := 57) (v := 1) hx hb dX1_hears_57 (by decide) ?_
        refine lv_iadd (pc := 58) hx hb dX1_hears_58 ?_
        obtain ⟨r7, σ5, e6, h⟩ := bnd2 h
        refine cl_X1_42 X hP hS (As := [.ref (ga G a0), .int (gI σ3 a0 3), .int a2, .int (a3 + (1 : Int32))]) (rest := []) (c_X1_calls l G 8 hk0 e6) ⟨rfl, rfl, Nat.le_trans (Nat.le_of_ble_eq_true rfl) (Nat.le_add_left _ _), Nat.le_trans (Nat.le_of_ble_eq_true rfl) (Nat.le_add_left _ _)⟩ rfl hl.1 rfl (Nat.le_of_ble_eq_true rfl) ⟨Nat.zero_le _, Nat.zero_le _⟩ (pc := 59) dX1_hears_59 (fun H locs hP hS => ?_)
        change W p l e _ s m _ below meth c H locs _ _ _ (F0 m (59 + 3) ls (.int r7 :: []))
        refine lv_iconst (pc := 62) (v := 2) hx hb dX1_hears_62 (by decide) ?_
        refine lv_imul (pc := 63) hx hb dX1_hears_63 ?_
        obtain ⟨rfl, rfl⟩ := inj2 h
        exact r_iret X hP hS dX1_hears_64
      have h := ineg c2 h
      by_cases c8 : a1 = (1 : Int32)
      · have h := ipos c8 h
        refine r_tabIn X (pc := 9) (tgt := 65) c8 dX1_hears_9 (by decide) (by decide) rfl (by decide) ?_
        refine lv_aload_n (pc := 65) hx hb dX1_hears_65 rfl (lv_at hl 0 rfl) ?_
        refine lv_bipush (pc := 66) (v := (20)) hx hb dX1_hears_66 (by decide) ?_
        obtain ⟨σ9, e10, h⟩ := bnd1 h
        refine cl_X1_55 X hP hS hk0 (As := [.int (20 : Int32)]) (rest := []) (c_X1_begin l G hk0 e10) ⟨rfl, rfl, Nat.le_trans (Nat.le_of_ble_eq_true rfl) (Nat.le_add_left _ _), Nat.le_trans (Nat.le_of_ble_eq_true rfl) (Nat.le_add_left _ _)⟩ rfl hl.1 rfl (Nat.le_of_ble_eq_true rfl) ⟨Nat.zero_le _, Nat.zero_le _⟩ (pc := 68) dX1_hears_68 (fun H locs hP hS => ?_)
        change W p l e _ s m _ below meth c H locs _ _ _ (F0 m (68 + 3) ls [])
        refine lv_aload_n (pc := 71) hx hb dX1_hears_71 rfl (lv_at hl 0 rfl) ?_
        refine lv_iconst (pc := 72) (v := 0) hx hb dX1_hears_72 (by decide) ?_
        refine lv_iload_n (pc := 73) hx hb dX1_hears_73 rfl (lv_at hl 2 rfl) ?_
        refine lv_iload_n (pc := 74) hx hb dX1_hears_74 rfl (lv_at hl 3 rfl) ?_
        refine lv_iconst (pc := 75) (v := 1) hx hb dX1_hears_75 (by decide) ?_
        refine lv_iadd (pc := 76) hx hb dX1_hears_76 ?_
        obtain ⟨r13, σ11, e12, h⟩ := bnd2 h
        refine cl_X1_46 X hP hS (As := [.ref (ga G a0), .int (0 : Int32), .int a2, .int (a3 + (1 : Int32))]) (rest := []) (ih hk0 e12) ⟨rfl, rfl, Nat.le_refl _, (by show 8 + (4 + 11) + (n * 60 + 524) ≤ (n + 1) * 60 + 524; omega)⟩ rfl hl.1 rfl (Nat.le_of_ble_eq_true rfl) ⟨Nat.zero_le _, Nat.zero_le _⟩ (pc := 77) dX1_hears_77 (fun H locs hP hS => ?_)
        change W p l e _ s m _ below meth c H locs _ _ _ (F0 m (77 + 3) ls (.int r13 :: []))
        refine lv_aload_n (pc := 80) hx hb dX1_hears_80 rfl (lv_at hl 0 rfl) ?_
        refine gt_X1_29 X hP hk0 dX1_hears_81 ?_
        refine lv_isub (pc := 84) hx hb dX1_hears_84 ?_
        obtain ⟨rfl, rfl⟩ := inj2 h
        exact r_iret X hP hS dX1_hears_85
      have h := ineg c8 h
      by_cases c14 : a1 = (2 : Int32)
      · have h := ipos c14 h
        refine r_tabIn X (pc := 9) (tgt := 118) c14 dX1_hears_9 (by decide) (by decide) rfl (by decide) ?_
        refine lv_aload_n (pc := 118) hx hb dX1_hears_118 rfl (lv_at hl 0 rfl) ?_
        refine lv_iload_n (pc := 119) hx hb dX1_hears_119 rfl (lv_at hl 1 rfl) ?_
        obtain ⟨r17, σ15, e16, h⟩ := bnd2 h
        refine cl_X1_59 X hP hS (As := [.int a1]) (rest := [.ref (ga G a0)]) (c_X9_kindAbove l G  e16) ⟨rfl, rfl, Nat.le_trans (Nat.le_of_ble_eq_true rfl) (Nat.le_add_left _ _), Nat.le_trans (Nat.le_of_ble_eq_true rfl) (Nat.le_add_left _ _)⟩ rfl hl.1 rfl (Nat.le_of_ble_eq_true rfl) ⟨Nat.zero_le _, Nat.zero_le _⟩ (pc := 120) dX1_hears_120 (fun H locs hP hS => ?_)
        change W p l e _ s m _ below meth c H locs _ _ _ (F0 m (120 + 3) ls (.int r17 :: [.ref (ga G a0)]))
        refine lv_iload_n (pc := 123) hx hb dX1_hears_123 rfl (lv_at hl 2 rfl) ?_
        refine lv_iload_n (pc := 124) hx hb dX1_hears_124 rfl (lv_at hl 3 rfl) ?_
        refine lv_iconst (pc := 125) (v := 1) hx hb dX1_hears_125 (by decide) ?_
        refine lv_iadd (pc := 126) hx hb dX1_hears_126 ?_
        obtain ⟨r20, σ18, e19, h⟩ := bnd2 h
        refine cl_X1_46 X hP hS (As := [.ref (ga G a0), .int r17, .int a2, .int (a3 + (1 : Int32))]) (rest := []) (ih hk0 e19) ⟨rfl, rfl, Nat.le_refl _, (by show 8 + (4 + 11) + (n * 60 + 524) ≤ (n + 1) * 60 + 524; omega)⟩ rfl hl.1 rfl (Nat.le_of_ble_eq_true rfl) ⟨Nat.zero_le _, Nat.zero_le _⟩ (pc := 127) dX1_hears_127 (fun H locs hP hS => ?_)
        change W p l e _ s m _ below meth c H locs _ _ _ (F0 m (127 + 3) ls (.int r20 :: []))
        obtain ⟨rfl, rfl⟩ := inj2 h
        exact r_iret X hP hS dX1_hears_130
      have h := ineg c14 h
      by_cases c21 : a1 = (3 : Int32)
      · have h := ipos c21 h
        refine r_tabIn X (pc := 9) (tgt := 118) c21 dX1_hears_9 (by decide) (by decide) rfl (by decide) ?_
        refine lv_aload_n (pc := 118) hx hb dX1_hears_118 rfl (lv_at hl 0 rfl) ?_
        refine lv_iload_n (pc := 119) hx hb dX1_hears_119 rfl (lv_at hl 1 rfl) ?_
        obtain ⟨r24, σ22, e23, h⟩ := bnd2 h
        refine cl_X1_59 X hP hS (As := [.int a1]) (rest := [.ref (ga G a0)]) (c_X9_kindAbove l G  e23) ⟨rfl, rfl, Nat.le_trans (Nat.le_of_ble_eq_true rfl) (Nat.le_add_left _ _), Nat.le_trans (Nat.le_of_ble_eq_true rfl) (Nat.le_add_left _ _)⟩ rfl hl.1 rfl (Nat.le_of_ble_eq_true rfl) ⟨Nat.zero_le _, Nat.zero_le _⟩ (pc := 120) dX1_hears_120 (fun H locs hP hS => ?_)
        change W p l e _ s m _ below meth c H locs _ _ _ (F0 m (120 + 3) ls (.int r24 :: [.ref (ga G a0)]))
        refine lv_iload_n (pc := 123) hx hb dX1_hears_123 rfl (lv_at hl 2 rfl) ?_
        refine lv_iload_n (pc := 124) hx hb dX1_hears_124 rfl (lv_at hl 3 rfl) ?_
        refine lv_iconst (pc := 125) (v := 1) hx hb dX1_hears_125 (by decide) ?_
        refine lv_iadd (pc := 126) hx hb dX1_hears_126 ?_
        obtain ⟨r27, σ25, e26, h⟩ := bnd2 h
        refine cl_X1_46 X hP hS (As := [.ref (ga G a0), .int r24, .int a2, .int (a3 + (1 : Int32))]) (rest := []) (ih hk0 e26) ⟨rfl, rfl, Nat.le_refl _, (by show 8 + (4 + 11) + (n * 60 + 524) ≤ (n + 1) * 60 + 524; omega)⟩ rfl hl.1 rfl (Nat.le_of_ble_eq_true rfl) ⟨Nat.zero_le _, Nat.zero_le _⟩ (pc := 127) dX1_hears_127 (fun H locs hP hS => ?_)
        change W p l e _ s m _ below meth c H locs _ _ _ (F0 m (127 + 3) ls (.int r27 :: []))
        obtain ⟨rfl, rfl⟩ := inj2 h
        exact r_iret X hP hS dX1_hears_130
      have h := ineg c21 h
      by_cases c28 : a1 = (4 : Int32)
      · have h := ipos c28 h
        refine r_tabIn X (pc := 9) (tgt := 86) c28 dX1_hears_9 (by decide) (by decide) rfl (by decide) ?_
        refine lv_aload_n (pc := 86) hx hb dX1_hears_86 rfl (lv_at hl 0 rfl) ?_
        refine lv_bipush (pc := 87) (v := (41)) hx hb dX1_hears_87 (by decide) ?_
        obtain ⟨σ29, e30, h⟩ := bnd1 h
        refine cl_X1_55 X hP hS hk0 (As := [.int (41 : Int32)]) (rest := []) (c_X1_begin l G hk0 e30) ⟨rfl, rfl, Nat.le_trans (Nat.le_of_ble_eq_true rfl) (Nat.le_add_left _ _), Nat.le_trans (Nat.le_of_ble_eq_true rfl) (Nat.le_add_left _ _)⟩ rfl hl.1 rfl (Nat.le_of_ble_eq_true rfl) ⟨Nat.zero_le _, Nat.zero_le _⟩ (pc := 89) dX1_hears_89 (fun H locs hP hS => ?_)
        change W p l e _ s m _ below meth c H locs _ _ _ (F0 m (89 + 3) ls [])
        refine lv_aload_n (pc := 92) hx hb dX1_hears_92 rfl (lv_at hl 0 rfl) ?_
        refine lv_iconst (pc := 93) (v := 2) hx hb dX1_hears_93 (by decide) ?_
        refine lv_iload_n (pc := 94) hx hb dX1_hears_94 rfl (lv_at hl 2 rfl) ?_
        refine lv_iload_n (pc := 95) hx hb dX1_hears_95 rfl (lv_at hl 3 rfl) ?_
        refine lv_iconst (pc := 96) (v := 1) hx hb dX1_hears_96 (by decide) ?_
        refine lv_iadd (pc := 97) hx hb dX1_hears_97 ?_
        obtain ⟨r33, σ31, e32, h⟩ := bnd2 h
        refine cl_X1_46 X hP hS (As := [.ref (ga G a0), .int (2 : Int32), .int a2, .int (a3 + (1 : Int32))]) (rest := []) (ih hk0 e32) ⟨rfl, rfl, Nat.le_refl _, (by show 8 + (4 + 11) + (n * 60 + 524) ≤ (n + 1) * 60 + 524; omega)⟩ rfl hl.1 rfl (Nat.le_of_ble_eq_true rfl) ⟨Nat.zero_le _, Nat.zero_le _⟩ (pc := 98) dX1_hears_98 (fun H locs hP hS => ?_)
        change W p l e _ s m _ below meth c H locs _ _ _ (F0 m (98 + 3) ls (.int r33 :: []))
        refine lv_aload_n (pc := 101) hx hb dX1_hears_101 rfl (lv_at hl 0 rfl) ?_
        refine lv_aload_n (pc := 102) hx hb dX1_hears_102 rfl (lv_at hl 0 rfl) ?_
        refine gt_X1_23 X hP hk0 dX1_hears_103 ?_
        refine lv_aload_n (pc := 106) hx hb dX1_hears_106 rfl (lv_at hl 0 rfl) ?_
        refine gt_X1_26 X hP hk0 dX1_hears_107 ?_
        refine lv_iload_n (pc := 110) hx hb dX1_hears_110 rfl (lv_at hl 3 rfl) ?_
        refine lv_iconst (pc := 111) (v := 1) hx hb dX1_hears_111 (by decide) ?_
        refine lv_iadd (pc := 112) hx hb dX1_hears_112 ?_
        obtain ⟨r36, σ34, e35, h⟩ := bnd2 h
        refine cl_X1_42 X hP hS (As := [.ref (ga G a0), .int (gI σ31 a0 3), .int (gI σ31 a0 4), .int (a3 + (1 : Int32))]) (rest := [.int r33]) (c_X1_calls l G 8 hk0 e35) ⟨rfl, rfl, Nat.le_trans (Nat.le_of_ble_eq_true rfl) (Nat.le_add_left _ _), Nat.le_trans (Nat.le_of_ble_eq_true rfl) (Nat.le_add_left _ _)⟩ rfl hl.1 rfl (Nat.le_of_ble_eq_true rfl) ⟨Nat.zero_le _, Nat.zero_le _⟩ (pc := 113) dX1_hears_113 (fun H locs hP hS => ?_)
        change W p l e _ s m _ below meth c H locs _ _ _ (F0 m (113 + 3) ls (.int r36 :: [.int r33]))
        refine lv_iadd (pc := 116) hx hb dX1_hears_116 ?_
        obtain ⟨rfl, rfl⟩ := inj2 h
        exact r_iret X hP hS dX1_hears_117
      have h := ineg c28 h
      refine lv_tableOut (pc := 9) (tgt := 118) hx hb dX1_hears_9 (by have := lv_neT c2 (a := 0) (by decide); have := lv_neT c8 (a := 1) (by decide); have := lv_neT c14 (a := 2) (by decide); have := lv_neT c21 (a := 3) (by decide); have := lv_neT c28 (a := 4) (by decide); omega) (by decide) ?_
      refine lv_aload_n (pc := 118) hx hb dX1_hears_118 rfl (lv_at hl 0 rfl) ?_
      refine lv_iload_n (pc := 119) hx hb dX1_hears_119 rfl (lv_at hl 1 rfl) ?_
      obtain ⟨r39, σ37, e38, h⟩ := bnd2 h
      refine cl_X1_59 X hP hS (As := [.int a1]) (rest := [.ref (ga G a0)]) (c_X9_kindAbove l G  e38) ⟨rfl, rfl, Nat.le_trans (Nat.le_of_ble_eq_true rfl) (Nat.le_add_left _ _), Nat.le_trans (Nat.le_of_ble_eq_true rfl) (Nat.le_add_left _ _)⟩ rfl hl.1 rfl (Nat.le_of_ble_eq_true rfl) ⟨Nat.zero_le _, Nat.zero_le _⟩ (pc := 120) dX1_hears_120 (fun H locs hP hS => ?_)
      change W p l e _ s m _ below meth c H locs _ _ _ (F0 m (120 + 3) ls (.int r39 :: [.ref (ga G a0)]))
      refine lv_iload_n (pc := 123) hx hb dX1_hears_123 rfl (lv_at hl 2 rfl) ?_
      refine lv_iload_n (pc := 124) hx hb dX1_hears_124 rfl (lv_at hl 3 rfl) ?_
      refine lv_iconst (pc := 125) (v := 1) hx hb dX1_hears_125 (by decide) ?_
      refine lv_iadd (pc := 126) hx hb dX1_hears_126 ?_
      obtain ⟨r42, σ40, e41, h⟩ := bnd2 h
      refine cl_X1_46 X hP hS (As := [.ref (ga G a0), .int r39, .int a2, .int (a3 + (1 : Int32))]) (rest := []) (ih hk0 e41) ⟨rfl, rfl, Nat.le_refl _, (by show 8 + (4 + 11) + (n * 60 + 524) ≤ (n + 1) * 60 + 524; omega)⟩ rfl hl.1 rfl (Nat.le_of_ble_eq_true rfl) ⟨Nat.zero_le _, Nat.zero_le _⟩ (pc := 127) dX1_hears_127 (fun H locs hP hS => ?_)
      change W p l e _ s m _ below meth c H locs _ _ _ (F0 m (127 + 3) ls (.int r42 :: []))
      obtain ⟨rfl, rfl⟩ := inj2 h
      exact r_iret X hP hS dX1_hears_130
    · have h := ineg c1 h
      refine lv_iconst (pc := 6) (v := 0) hx hb dX1_hears_6 (by decide) ?_
      obtain ⟨rfl, rfl⟩ := inj2 h
      exact r_iret X hP hS dX1_hears_7
def f_X1_quotient (k0 : Nat) (a1 : Int32) (a2 : Int32) (σ : Mem) : Option (Int32 × Mem) :=
  if a2 = (0 : Int32) then
    bd1 (some (pI σ k0 2 (1 : Int32))) fun σ3 =>
    some ((0 : Int32), σ3)
  else
    grd (¬ a2 = 0) <|
    some ((a1 / a2), σ)
abbrev RM_X1_quotient : Room := { frames := 0, cells := 0, slots := 0, locals := 0 }
set_option maxHeartbeats 4000000 in
set_option maxRecDepth 100000 in
theorem c_X1_quotient (l : Launch) (G : Gh) {k0 : Nat} {a1 : Int32} {a2 : Int32} {σ : Mem} {rr : Int32} {σr : Mem} (hk0 : kd k0 = 1) (h : f_X1_quotient k0 a1 a2 σ = some (rr, σr)) : Met l yX1_quotient [Cond.code yX1_quotient prog_3_method_11_code 3 (some .int)] RM_X1_quotient (va_Pc [.ref (ga G k0), .int a1, .int a2] (Pre G σ)) (QG G (some (.int rr)) σr) 0 0 (AA G) := by
  refine ct_of (by decide) (fun p e s m below meth c X hP => ?_)
  have hx := X.hx
  have hb := X.hb
  have hS : va_S (AA G) s.heap s.heap [] := va_S.rf
  have hl := lv_entry ([.ref (ga G k0), .int a1, .int a2]) (n := 3) (Nat.le_of_ble_eq_true rfl)
  rw [lg_entry_eq]
  generalize (lg_sl ([.ref (ga G k0), .int a1, .int a2]) ++ List.replicate (3 - (lg_sl ([.ref (ga G k0), .int a1, .int a2])).length) Slot.unset).toArray = ls at hl ⊢
  have hl : lv_has ls 3 [(0, .ref (ga G k0)), (1, .int a1), (2, .int a2)] := hl
  unfold f_X1_quotient at h
  refine lv_iload_n (pc := 0) hx hb dX1_quotient_0 rfl (lv_at hl 2 rfl) ?_
  refine lv_if_ne (pc := 1) (tgt := 11) hx hb dX1_quotient_1 (by decide) (fun c1 => ?_) (fun c1 => ?_)
  · have h := ineg c1 h
    refine lv_iload_n (pc := 11) hx hb dX1_quotient_11 rfl (lv_at hl 1 rfl) ?_
    refine lv_iload_n (pc := 12) hx hb dX1_quotient_12 rfl (lv_at hl 2 rfl) ?_
    obtain ⟨g2, h⟩ := grd_inv h
    refine lv_idiv (pc := 13) hx hb dX1_quotient_13 g2 ?_
    obtain ⟨rfl, rfl⟩ := inj2 h
    exact r_iret X hP hS dX1_quotient_14
  · have h := ipos c1 h
    refine lv_aload_n (pc := 4) hx hb dX1_quotient_4 rfl (lv_at hl 0 rfl) ?_
    refine lv_iconst (pc := 5) (v := 1) hx hb dX1_quotient_5 (by decide) ?_
    obtain ⟨σ3, e4, h⟩ := bnd1 h
    refine pt_X1_19 X hP hS hk0 (by decide) dX1_quotient_6 (fun H locs hP hS => ?_)
    rw [Option.some.inj e4] at hP
    refine lv_iconst (pc := 9) (v := 0) hx hb dX1_quotient_9 (by decide) ?_
    obtain ⟨rfl, rfl⟩ := inj2 h
    exact r_iret X hP hS dX1_quotient_10
def F_X1_shares (rec : Nat → Int32 → Int32 → Int32 → Mem → Option (Int32 × Mem)) : Nat → Int32 → Int32 → Int32 → Mem → Option (Int32 × Mem) := fun a0 a1 a2 a3 σ =>
  if a3 < (40 : Int32) then
    if a1 = (0 : Int32) then
      bd1 (f_X1_begin a0 (12 : Int32) σ) fun σ3 =>
      bd2 (f_X1_quotient a0 a2 ((gI σ3 a0 5) - (gI σ3 a0 4)) σ3) fun r7 σ5 =>
      some (r7, σ5)
    else
    if a1 = (3 : Int32) then
      bd1 (f_X1_begin a0 (50 : Int32) σ) fun σ9 =>
      bd2 (rec a0 (1 : Int32) (a2 + (2 : Int32)) (a3 + (1 : Int32)) σ9) fun r13 σ11 =>
      some ((r13 ^^^ (1 : Int32)), σ11)
    else
    if a1 = (5 : Int32) then
      bd1 (f_X1_begin a0 (61 : Int32) σ) fun σ15 =>
      bd2 (rec a0 (1 : Int32) a2 (a3 + (1 : Int32)) σ15) fun r19 σ17 =>
      bd2 (f_X1_calls 8 a0 (gI σ17 a0 3) (gI σ17 a0 5) (a3 + (1 : Int32)) σ17) fun r22 σ20 =>
      some ((r19 + r22), σ20)
    else
    bd2 (f_X9_kindAbove a1 σ) fun r25 σ23 =>
    bd2 (rec a0 r25 a2 (a3 + (1 : Int32)) σ23) fun r28 σ26 =>
    some (r28, σ26)
  else
    some ((0 : Int32), σ)
def f_X1_shares (n : Nat) : Nat → Int32 → Int32 → Int32 → Mem → Option (Int32 × Mem) := iterF F_X1_shares (fun _ _ _ _ _ => none) n
def RM_X1_shares (n : Nat) : Room := { frames := n + 10, cells := 0, slots := 0, locals := n * 60 + 524 }
set_option maxHeartbeats 4000000 in
set_option maxRecDepth 100000 in
theorem c_X1_shares (l : Launch) (G : Gh) : ∀ (n : Nat) {a0 : Nat} {a1 : Int32} {a2 : Int32} {a3 : Int32}  {σ : Mem} {rr : Int32} {σr : Mem} (hk0 : kd a0 = 1) (_ : f_X1_shares n a0 a1 a2 a3 σ = some (rr, σr)), Met l yX1_shares [Cond.code yX1_shares prog_3_method_9_code 4 (some .int)] (RM_X1_shares n) (va_Pc [.ref (ga G a0), .int a1, .int a2, .int a3] (Pre G σ)) (QG G (some (.int rr)) σr) 0 0 (AA G) := by
  intro n
  induction n with
  | zero => intro a0 a1 a2 a3 σ rr σr hk0 h; exact nnone (α := (Int32 × Mem)) h
  | succ n ih =>
    intro a0 a1 a2 a3 σ rr σr hk0 h
    refine ct_of (by decide) (fun p e s m below meth c X hP => ?_)
    have hx := X.hx
    have hb := X.hb
    have hS : va_S (AA G) s.heap s.heap [] := va_S.rf
    have hl := lv_entry ([.ref (ga G a0), .int a1, .int a2, .int a3]) (n := 4) (Nat.le_of_ble_eq_true rfl)
    rw [lg_entry_eq]
    generalize (lg_sl ([.ref (ga G a0), .int a1, .int a2, .int a3]) ++ List.replicate (4 - (lg_sl ([.ref (ga G a0), .int a1, .int a2, .int a3])).length) Slot.unset).toArray = ls at hl ⊢
    have hl : lv_has ls 4 [(0, .ref (ga G a0)), (1, .int a1), (2, .int a2), (3, .int a3)] := hl
    have h : F_X1_shares (f_X1_shares n) a0 a1 a2 a3 σ = some _ := h
    unfold F_X1_shares at h
    refine lv_iload_n (pc := 0) hx hb dX1_shares_0 rfl (lv_at hl 3 rfl) ?_
    refine lv_bipush (pc := 1) (v := (40)) hx hb dX1_shares_1 (by decide) ?_
    refine lv_icmp_lt (pc := 3) (tgt := 8) hx hb dX1_shares_3 (by decide) (fun c1 => ?_) (fun c1 => ?_)
    · have h := ipos c1 h
      refine lv_iload_n (pc := 8) hx hb dX1_shares_8 rfl (lv_at hl 1 rfl) ?_
      by_cases c2 : a1 = (0 : Int32)
      · have h := ipos c2 h
        refine r_look X (pc := 9) (tgt := 44) c2 dX1_shares_9 rfl rfl (by decide) ?_
        refine lv_aload_n (pc := 44) hx hb dX1_shares_44 rfl (lv_at hl 0 rfl) ?_
        refine lv_bipush (pc := 45) (v := (12)) hx hb dX1_shares_45 (by decide) ?_
        obtain ⟨σ3, e4, h⟩ := bnd1 h
        refine cl_X1_55 X hP hS hk0 (As := [.int (12 : Int32)]) (rest := []) (c_X1_begin l G hk0 e4) ⟨rfl, rfl, Nat.le_trans (Nat.le_of_ble_eq_true rfl) (Nat.le_add_left _ _), Nat.le_trans (Nat.le_of_ble_eq_true rfl) (Nat.le_add_left _ _)⟩ rfl hl.1 rfl (Nat.le_of_ble_eq_true rfl) ⟨Nat.zero_le _, Nat.zero_le _⟩ (pc := 47) dX1_shares_47 (fun H locs hP hS => ?_)
        change W p l e _ s m _ below meth c H locs _ _ _ (F0 m (47 + 3) ls [])
        refine lv_aload_n (pc := 50) hx hb dX1_shares_50 rfl (lv_at hl 0 rfl) ?_
        refine lv_iload_n (pc := 51) hx hb dX1_shares_51 rfl (lv_at hl 2 rfl) ?_
        refine lv_aload_n (pc := 52) hx hb dX1_shares_52 rfl (lv_at hl 0 rfl) ?_
        refine gt_X1_29 X hP hk0 dX1_shares_53 ?_
        refine lv_aload_n (pc := 56) hx hb dX1_shares_56 rfl (lv_at hl 0 rfl) ?_
        refine gt_X1_26 X hP hk0 dX1_shares_57 ?_
        refine lv_isub (pc := 60) hx hb dX1_shares_60 ?_
        obtain ⟨r7, σ5, e6, h⟩ := bnd2 h
        refine cl_X1_63 X hP hS hk0 (As := [.int a2, .int ((gI σ3 a0 5) - (gI σ3 a0 4))]) (rest := []) (c_X1_quotient l G hk0 e6) ⟨rfl, rfl, Nat.le_trans (Nat.le_of_ble_eq_true rfl) (Nat.le_add_left _ _), Nat.le_trans (Nat.le_of_ble_eq_true rfl) (Nat.le_add_left _ _)⟩ rfl hl.1 rfl (Nat.le_of_ble_eq_true rfl) ⟨Nat.zero_le _, Nat.zero_le _⟩ (pc := 61) dX1_shares_61 (fun H locs hP hS => ?_)
        change W p l e _ s m _ below meth c H locs _ _ _ (F0 m (61 + 3) ls (.int r7 :: []))
        obtain ⟨rfl, rfl⟩ := inj2 h
        exact r_iret X hP hS dX1_shares_64
      have h := ineg c2 h
      by_cases c8 : a1 = (3 : Int32)
      · have h := ipos c8 h
        refine r_look X (pc := 9) (tgt := 65) c8 dX1_shares_9 rfl rfl (by decide) ?_
        refine lv_aload_n (pc := 65) hx hb dX1_shares_65 rfl (lv_at hl 0 rfl) ?_
        refine lv_bipush (pc := 66) (v := (50)) hx hb dX1_shares_66 (by decide) ?_
        obtain ⟨σ9, e10, h⟩ := bnd1 h
        refine cl_X1_55 X hP hS hk0 (As := [.int (50 : Int32)]) (rest := []) (c_X1_begin l G hk0 e10) ⟨rfl, rfl, Nat.le_trans (Nat.le_of_ble_eq_true rfl) (Nat.le_add_left _ _), Nat.le_trans (Nat.le_of_ble_eq_true rfl) (Nat.le_add_left _ _)⟩ rfl hl.1 rfl (Nat.le_of_ble_eq_true rfl) ⟨Nat.zero_le _, Nat.zero_le _⟩ (pc := 68) dX1_shares_68 (fun H locs hP hS => ?_)
        change W p l e _ s m _ below meth c H locs _ _ _ (F0 m (68 + 3) ls [])
        refine lv_aload_n (pc := 71) hx hb dX1_shares_71 rfl (lv_at hl 0 rfl) ?_
        refine lv_iconst (pc := 72) (v := 1) hx hb dX1_shares_72 (by decide) ?_
        refine lv_iload_n (pc := 73) hx hb dX1_shares_73 rfl (lv_at hl 2 rfl) ?_
        refine lv_iconst (pc := 74) (v := 2) hx hb dX1_shares_74 (by decide) ?_
        refine lv_iadd (pc := 75) hx hb dX1_shares_75 ?_
        refine lv_iload_n (pc := 76) hx hb dX1_shares_76 rfl (lv_at hl 3 rfl) ?_
        refine lv_iconst (pc := 77) (v := 1) hx hb dX1_shares_77 (by decide) ?_
        refine lv_iadd (pc := 78) hx hb dX1_shares_78 ?_
        obtain ⟨r13, σ11, e12, h⟩ := bnd2 h
        refine cl_X1_49 X hP hS (As := [.ref (ga G a0), .int (1 : Int32), .int (a2 + (2 : Int32)), .int (a3 + (1 : Int32))]) (rest := []) (ih hk0 e12) ⟨rfl, rfl, Nat.le_refl _, (by show 8 + (4 + 11) + (n * 60 + 524) ≤ (n + 1) * 60 + 524; omega)⟩ rfl hl.1 rfl (Nat.le_of_ble_eq_true rfl) ⟨Nat.zero_le _, Nat.zero_le _⟩ (pc := 79) dX1_shares_79 (fun H locs hP hS => ?_)
        change W p l e _ s m _ below meth c H locs _ _ _ (F0 m (79 + 3) ls (.int r13 :: []))
        refine lv_iconst (pc := 82) (v := 1) hx hb dX1_shares_82 (by decide) ?_
        refine lv_ixor (pc := 83) hx hb dX1_shares_83 ?_
        obtain ⟨rfl, rfl⟩ := inj2 h
        exact r_iret X hP hS dX1_shares_84
      have h := ineg c8 h
      by_cases c14 : a1 = (5 : Int32)
      · have h := ipos c14 h
        refine r_look X (pc := 9) (tgt := 85) c14 dX1_shares_9 rfl rfl (by decide) ?_
        refine lv_aload_n (pc := 85) hx hb dX1_shares_85 rfl (lv_at hl 0 rfl) ?_
        refine lv_bipush (pc := 86) (v := (61)) hx hb dX1_shares_86 (by decide) ?_
        obtain ⟨σ15, e16, h⟩ := bnd1 h
        refine cl_X1_55 X hP hS hk0 (As := [.int (61 : Int32)]) (rest := []) (c_X1_begin l G hk0 e16) ⟨rfl, rfl, Nat.le_trans (Nat.le_of_ble_eq_true rfl) (Nat.le_add_left _ _), Nat.le_trans (Nat.le_of_ble_eq_true rfl) (Nat.le_add_left _ _)⟩ rfl hl.1 rfl (Nat.le_of_ble_eq_true rfl) ⟨Nat.zero_le _, Nat.zero_le _⟩ (pc := 88) dX1_shares_88 (fun H locs hP hS => ?_)
        change W p l e _ s m _ below meth c H locs _ _ _ (F0 m (88 + 3) ls [])
        refine lv_aload_n (pc := 91) hx hb dX1_shares_91 rfl (lv_at hl 0 rfl) ?_
        refine lv_iconst (pc := 92) (v := 1) hx hb dX1_shares_92 (by decide) ?_
        refine lv_iload_n (pc := 93) hx hb dX1_shares_93 rfl (lv_at hl 2 rfl) ?_
        refine lv_iload_n (pc := 94) hx hb dX1_shares_94 rfl (lv_at hl 3 rfl) ?_
        refine lv_iconst (pc := 95) (v := 1) hx hb dX1_shares_95 (by decide) ?_
        refine lv_iadd (pc := 96) hx hb dX1_shares_96 ?_
        obtain ⟨r19, σ17, e18, h⟩ := bnd2 h
        refine cl_X1_49 X hP hS (As := [.ref (ga G a0), .int (1 : Int32), .int a2, .int (a3 + (1 : Int32))]) (rest := []) (ih hk0 e18) ⟨rfl, rfl, Nat.le_refl _, (by show 8 + (4 + 11) + (n * 60 + 524) ≤ (n + 1) * 60 + 524; omega)⟩ rfl hl.1 rfl (Nat.le_of_ble_eq_true rfl) ⟨Nat.zero_le _, Nat.zero_le _⟩ (pc := 97) dX1_shares_97 (fun H locs hP hS => ?_)
        change W p l e _ s m _ below meth c H locs _ _ _ (F0 m (97 + 3) ls (.int r19 :: []))
        refine lv_aload_n (pc := 100) hx hb dX1_shares_100 rfl (lv_at hl 0 rfl) ?_
        refine lv_aload_n (pc := 101) hx hb dX1_shares_101 rfl (lv_at hl 0 rfl) ?_
        refine gt_X1_23 X hP hk0 dX1_shares_102 ?_
        refine lv_aload_n (pc := 105) hx hb dX1_shares_105 rfl (lv_at hl 0 rfl) ?_
        refine gt_X1_29 X hP hk0 dX1_shares_106 ?_
        refine lv_iload_n (pc := 109) hx hb dX1_shares_109 rfl (lv_at hl 3 rfl) ?_
        refine lv_iconst (pc := 110) (v := 1) hx hb dX1_shares_110 (by decide) ?_
        refine lv_iadd (pc := 111) hx hb dX1_shares_111 ?_
        obtain ⟨r22, σ20, e21, h⟩ := bnd2 h
        refine cl_X1_42 X hP hS (As := [.ref (ga G a0), .int (gI σ17 a0 3), .int (gI σ17 a0 5), .int (a3 + (1 : Int32))]) (rest := [.int r19]) (c_X1_calls l G 8 hk0 e21) ⟨rfl, rfl, Nat.le_trans (Nat.le_of_ble_eq_true rfl) (Nat.le_add_left _ _), Nat.le_trans (Nat.le_of_ble_eq_true rfl) (Nat.le_add_left _ _)⟩ rfl hl.1 rfl (Nat.le_of_ble_eq_true rfl) ⟨Nat.zero_le _, Nat.zero_le _⟩ (pc := 112) dX1_shares_112 (fun H locs hP hS => ?_)
        change W p l e _ s m _ below meth c H locs _ _ _ (F0 m (112 + 3) ls (.int r22 :: [.int r19]))
        refine lv_iadd (pc := 115) hx hb dX1_shares_115 ?_
        obtain ⟨rfl, rfl⟩ := inj2 h
        exact r_iret X hP hS dX1_shares_116
      have h := ineg c14 h
      refine lv_lookup (pc := 9) (off := 108) (tgt := 117) hx hb dX1_shares_9 rfl (Eq.trans (lv_osw c2 (by decide)) (Eq.trans (lv_osw c8 (by decide)) (Eq.trans (lv_osw c14 (by decide)) rfl))) (by decide) ?_
      refine lv_aload_n (pc := 117) hx hb dX1_shares_117 rfl (lv_at hl 0 rfl) ?_
      refine lv_iload_n (pc := 118) hx hb dX1_shares_118 rfl (lv_at hl 1 rfl) ?_
      obtain ⟨r25, σ23, e24, h⟩ := bnd2 h
      refine cl_X1_59 X hP hS (As := [.int a1]) (rest := [.ref (ga G a0)]) (c_X9_kindAbove l G  e24) ⟨rfl, rfl, Nat.le_trans (Nat.le_of_ble_eq_true rfl) (Nat.le_add_left _ _), Nat.le_trans (Nat.le_of_ble_eq_true rfl) (Nat.le_add_left _ _)⟩ rfl hl.1 rfl (Nat.le_of_ble_eq_true rfl) ⟨Nat.zero_le _, Nat.zero_le _⟩ (pc := 119) dX1_shares_119 (fun H locs hP hS => ?_)
      change W p l e _ s m _ below meth c H locs _ _ _ (F0 m (119 + 3) ls (.int r25 :: [.ref (ga G a0)]))
      refine lv_iload_n (pc := 122) hx hb dX1_shares_122 rfl (lv_at hl 2 rfl) ?_
      refine lv_iload_n (pc := 123) hx hb dX1_shares_123 rfl (lv_at hl 3 rfl) ?_
      refine lv_iconst (pc := 124) (v := 1) hx hb dX1_shares_124 (by decide) ?_
      refine lv_iadd (pc := 125) hx hb dX1_shares_125 ?_
      obtain ⟨r28, σ26, e27, h⟩ := bnd2 h
      refine cl_X1_49 X hP hS (As := [.ref (ga G a0), .int r25, .int a2, .int (a3 + (1 : Int32))]) (rest := []) (ih hk0 e27) ⟨rfl, rfl, Nat.le_refl _, (by show 8 + (4 + 11) + (n * 60 + 524) ≤ (n + 1) * 60 + 524; omega)⟩ rfl hl.1 rfl (Nat.le_of_ble_eq_true rfl) ⟨Nat.zero_le _, Nat.zero_le _⟩ (pc := 126) dX1_shares_126 (fun H locs hP hS => ?_)
      change W p l e _ s m _ below meth c H locs _ _ _ (F0 m (126 + 3) ls (.int r28 :: []))
      obtain ⟨rfl, rfl⟩ := inj2 h
      exact r_iret X hP hS dX1_shares_129
    · have h := ineg c1 h
      refine lv_iconst (pc := 6) (v := 0) hx hb dX1_shares_6 (by decide) ?_
      obtain ⟨rfl, rfl⟩ := inj2 h
      exact r_iret X hP hS dX1_shares_7
def F_X1_tells (rec : Nat → Int32 → Int32 → Int32 → Mem → Option (Int32 × Mem)) : Nat → Int32 → Int32 → Int32 → Mem → Option (Int32 × Mem) := fun a0 a1 a2 a3 σ =>
  if a3 < (40 : Int32) then
    if a1 = (0 : Int32) then
      bd1 (f_X1_begin a0 (13 : Int32) σ) fun σ3 =>
      bd2 (f_X1_hears 8 a0 (gI σ3 a0 3) a2 (a3 + (1 : Int32)) σ3) fun r7 σ5 =>
      some ((r7 ^^^ (gI σ5 a0 5)), σ5)
    else
    if a1 = (2 : Int32) then
      bd1 (f_X1_begin a0 (31 : Int32) σ) fun σ9 =>
      bd2 (rec a0 (0 : Int32) a2 (a3 + (1 : Int32)) σ9) fun r13 σ11 =>
      bd2 (f_X1_shares 8 a0 (gI σ11 a0 3) (gI σ11 a0 4) (a3 + (1 : Int32)) σ11) fun r16 σ14 =>
      some ((r13 + r16), σ14)
    else
    if a1 = (5 : Int32) then
      bd1 (f_X1_begin a0 (60 : Int32) σ) fun σ18 =>
      bd2 (rec a0 (1 : Int32) a2 (a3 + (1 : Int32)) σ18) fun r22 σ20 =>
      some ((r22 * (2 : Int32)), σ20)
    else
    bd2 (f_X9_kindAbove a1 σ) fun r25 σ23 =>
    bd2 (rec a0 r25 a2 (a3 + (1 : Int32)) σ23) fun r28 σ26 =>
    some (r28, σ26)
  else
    some ((0 : Int32), σ)
def f_X1_tells (n : Nat) : Nat → Int32 → Int32 → Int32 → Mem → Option (Int32 × Mem) := iterF F_X1_tells (fun _ _ _ _ _ => none) n
def RM_X1_tells (n : Nat) : Room := { frames := n + 19, cells := 0, slots := 0, locals := n * 60 + 1027 }
set_option maxHeartbeats 4000000 in
set_option maxRecDepth 100000 in
theorem c_X1_tells (l : Launch) (G : Gh) : ∀ (n : Nat) {a0 : Nat} {a1 : Int32} {a2 : Int32} {a3 : Int32}  {σ : Mem} {rr : Int32} {σr : Mem} (hk0 : kd a0 = 1) (_ : f_X1_tells n a0 a1 a2 a3 σ = some (rr, σr)), Met l yX1_tells [Cond.code yX1_tells prog_3_method_10_code 4 (some .int)] (RM_X1_tells n) (va_Pc [.ref (ga G a0), .int a1, .int a2, .int a3] (Pre G σ)) (QG G (some (.int rr)) σr) 0 0 (AA G) := by
  intro n
  induction n with
  | zero => intro a0 a1 a2 a3 σ rr σr hk0 h; exact nnone (α := (Int32 × Mem)) h
  | succ n ih =>
    intro a0 a1 a2 a3 σ rr σr hk0 h
    refine ct_of (by decide) (fun p e s m below meth c X hP => ?_)
    have hx := X.hx
    have hb := X.hb
    have hS : va_S (AA G) s.heap s.heap [] := va_S.rf
    have hl := lv_entry ([.ref (ga G a0), .int a1, .int a2, .int a3]) (n := 4) (Nat.le_of_ble_eq_true rfl)
    rw [lg_entry_eq]
    generalize (lg_sl ([.ref (ga G a0), .int a1, .int a2, .int a3]) ++ List.replicate (4 - (lg_sl ([.ref (ga G a0), .int a1, .int a2, .int a3])).length) Slot.unset).toArray = ls at hl ⊢
    have hl : lv_has ls 4 [(0, .ref (ga G a0)), (1, .int a1), (2, .int a2), (3, .int a3)] := hl
    have h : F_X1_tells (f_X1_tells n) a0 a1 a2 a3 σ = some _ := h
    unfold F_X1_tells at h
    refine lv_iload_n (pc := 0) hx hb dX1_tells_0 rfl (lv_at hl 3 rfl) ?_
    refine lv_bipush (pc := 1) (v := (40)) hx hb dX1_tells_1 (by decide) ?_
    refine lv_icmp_lt (pc := 3) (tgt := 8) hx hb dX1_tells_3 (by decide) (fun c1 => ?_) (fun c1 => ?_)
    · have h := ipos c1 h
      refine lv_iload_n (pc := 8) hx hb dX1_tells_8 rfl (lv_at hl 1 rfl) ?_
      by_cases c2 : a1 = (0 : Int32)
      · have h := ipos c2 h
        refine r_look X (pc := 9) (tgt := 44) c2 dX1_tells_9 rfl rfl (by decide) ?_
        refine lv_aload_n (pc := 44) hx hb dX1_tells_44 rfl (lv_at hl 0 rfl) ?_
        refine lv_bipush (pc := 45) (v := (13)) hx hb dX1_tells_45 (by decide) ?_
        obtain ⟨σ3, e4, h⟩ := bnd1 h
        refine cl_X1_55 X hP hS hk0 (As := [.int (13 : Int32)]) (rest := []) (c_X1_begin l G hk0 e4) ⟨rfl, rfl, Nat.le_trans (Nat.le_of_ble_eq_true rfl) (Nat.le_add_left _ _), Nat.le_trans (Nat.le_of_ble_eq_true rfl) (Nat.le_add_left _ _)⟩ rfl hl.1 rfl (Nat.le_of_ble_eq_true rfl) ⟨Nat.zero_le _, Nat.zero_le _⟩ (pc := 47) dX1_tells_47 (fun H locs hP hS => ?_)
        change W p l e _ s m _ below meth c H locs _ _ _ (F0 m (47 + 3) ls [])
        refine lv_aload_n (pc := 50) hx hb dX1_tells_50 rfl (lv_at hl 0 rfl) ?_
        refine lv_aload_n (pc := 51) hx hb dX1_tells_51 rfl (lv_at hl 0 rfl) ?_
        refine gt_X1_23 X hP hk0 dX1_tells_52 ?_
        refine lv_iload_n (pc := 55) hx hb dX1_tells_55 rfl (lv_at hl 2 rfl) ?_
        refine lv_iload_n (pc := 56) hx hb dX1_tells_56 rfl (lv_at hl 3 rfl) ?_
        refine lv_iconst (pc := 57) (v := 1) hx hb dX1_tells_57 (by decide) ?_
        refine lv_iadd (pc := 58) hx hb dX1_tells_58 ?_
        obtain ⟨r7, σ5, e6, h⟩ := bnd2 h
        refine cl_X1_46 X hP hS (As := [.ref (ga G a0), .int (gI σ3 a0 3), .int a2, .int (a3 + (1 : Int32))]) (rest := []) (c_X1_hears l G 8 hk0 e6) ⟨rfl, rfl, Nat.le_trans (Nat.le_of_ble_eq_true rfl) (Nat.le_add_left _ _), Nat.le_trans (Nat.le_of_ble_eq_true rfl) (Nat.le_add_left _ _)⟩ rfl hl.1 rfl (Nat.le_of_ble_eq_true rfl) ⟨Nat.zero_le _, Nat.zero_le _⟩ (pc := 59) dX1_tells_59 (fun H locs hP hS => ?_)
        change W p l e _ s m _ below meth c H locs _ _ _ (F0 m (59 + 3) ls (.int r7 :: []))
        refine lv_aload_n (pc := 62) hx hb dX1_tells_62 rfl (lv_at hl 0 rfl) ?_
        refine gt_X1_29 X hP hk0 dX1_tells_63 ?_
        refine lv_ixor (pc := 66) hx hb dX1_tells_66 ?_
        obtain ⟨rfl, rfl⟩ := inj2 h
        exact r_iret X hP hS dX1_tells_67
      have h := ineg c2 h
      by_cases c8 : a1 = (2 : Int32)
      · have h := ipos c8 h
        refine r_look X (pc := 9) (tgt := 68) c8 dX1_tells_9 rfl rfl (by decide) ?_
        refine lv_aload_n (pc := 68) hx hb dX1_tells_68 rfl (lv_at hl 0 rfl) ?_
        refine lv_bipush (pc := 69) (v := (31)) hx hb dX1_tells_69 (by decide) ?_
        obtain ⟨σ9, e10, h⟩ := bnd1 h
        refine cl_X1_55 X hP hS hk0 (As := [.int (31 : Int32)]) (rest := []) (c_X1_begin l G hk0 e10) ⟨rfl, rfl, Nat.le_trans (Nat.le_of_ble_eq_true rfl) (Nat.le_add_left _ _), Nat.le_trans (Nat.le_of_ble_eq_true rfl) (Nat.le_add_left _ _)⟩ rfl hl.1 rfl (Nat.le_of_ble_eq_true rfl) ⟨Nat.zero_le _, Nat.zero_le _⟩ (pc := 71) dX1_tells_71 (fun H locs hP hS => ?_)
        change W p l e _ s m _ below meth c H locs _ _ _ (F0 m (71 + 3) ls [])
        refine lv_aload_n (pc := 74) hx hb dX1_tells_74 rfl (lv_at hl 0 rfl) ?_
        refine lv_iconst (pc := 75) (v := 0) hx hb dX1_tells_75 (by decide) ?_
        refine lv_iload_n (pc := 76) hx hb dX1_tells_76 rfl (lv_at hl 2 rfl) ?_
        refine lv_iload_n (pc := 77) hx hb dX1_tells_77 rfl (lv_at hl 3 rfl) ?_
        refine lv_iconst (pc := 78) (v := 1) hx hb dX1_tells_78 (by decide) ?_
        refine lv_iadd (pc := 79) hx hb dX1_tells_79 ?_
        obtain ⟨r13, σ11, e12, h⟩ := bnd2 h
        refine cl_X1_52 X hP hS (As := [.ref (ga G a0), .int (0 : Int32), .int a2, .int (a3 + (1 : Int32))]) (rest := []) (ih hk0 e12) ⟨rfl, rfl, Nat.le_refl _, (by show 8 + (4 + 11) + (n * 60 + 1027) ≤ (n + 1) * 60 + 1027; omega)⟩ rfl hl.1 rfl (Nat.le_of_ble_eq_true rfl) ⟨Nat.zero_le _, Nat.zero_le _⟩ (pc := 80) dX1_tells_80 (fun H locs hP hS => ?_)
        change W p l e _ s m _ below meth c H locs _ _ _ (F0 m (80 + 3) ls (.int r13 :: []))
        refine lv_aload_n (pc := 83) hx hb dX1_tells_83 rfl (lv_at hl 0 rfl) ?_
        refine lv_aload_n (pc := 84) hx hb dX1_tells_84 rfl (lv_at hl 0 rfl) ?_
        refine gt_X1_23 X hP hk0 dX1_tells_85 ?_
        refine lv_aload_n (pc := 88) hx hb dX1_tells_88 rfl (lv_at hl 0 rfl) ?_
        refine gt_X1_26 X hP hk0 dX1_tells_89 ?_
        refine lv_iload_n (pc := 92) hx hb dX1_tells_92 rfl (lv_at hl 3 rfl) ?_
        refine lv_iconst (pc := 93) (v := 1) hx hb dX1_tells_93 (by decide) ?_
        refine lv_iadd (pc := 94) hx hb dX1_tells_94 ?_
        obtain ⟨r16, σ14, e15, h⟩ := bnd2 h
        refine cl_X1_49 X hP hS (As := [.ref (ga G a0), .int (gI σ11 a0 3), .int (gI σ11 a0 4), .int (a3 + (1 : Int32))]) (rest := [.int r13]) (c_X1_shares l G 8 hk0 e15) ⟨rfl, rfl, Nat.le_trans (Nat.le_of_ble_eq_true rfl) (Nat.le_add_left _ _), Nat.le_trans (Nat.le_of_ble_eq_true rfl) (Nat.le_add_left _ _)⟩ rfl hl.1 rfl (Nat.le_of_ble_eq_true rfl) ⟨Nat.zero_le _, Nat.zero_le _⟩ (pc := 95) dX1_tells_95 (fun H locs hP hS => ?_)
        change W p l e _ s m _ below meth c H locs _ _ _ (F0 m (95 + 3) ls (.int r16 :: [.int r13]))
        refine lv_iadd (pc := 98) hx hb dX1_tells_98 ?_
        obtain ⟨rfl, rfl⟩ := inj2 h
        exact r_iret X hP hS dX1_tells_99
      have h := ineg c8 h
      by_cases c17 : a1 = (5 : Int32)
      · have h := ipos c17 h
        refine r_look X (pc := 9) (tgt := 100) c17 dX1_tells_9 rfl rfl (by decide) ?_
        refine lv_aload_n (pc := 100) hx hb dX1_tells_100 rfl (lv_at hl 0 rfl) ?_
        refine lv_bipush (pc := 101) (v := (60)) hx hb dX1_tells_101 (by decide) ?_
        obtain ⟨σ18, e19, h⟩ := bnd1 h
        refine cl_X1_55 X hP hS hk0 (As := [.int (60 : Int32)]) (rest := []) (c_X1_begin l G hk0 e19) ⟨rfl, rfl, Nat.le_trans (Nat.le_of_ble_eq_true rfl) (Nat.le_add_left _ _), Nat.le_trans (Nat.le_of_ble_eq_true rfl) (Nat.le_add_left _ _)⟩ rfl hl.1 rfl (Nat.le_of_ble_eq_true rfl) ⟨Nat.zero_le _, Nat.zero_le _⟩ (pc := 103) dX1_tells_103 (fun H locs hP hS => ?_)
        change W p l e _ s m _ below meth c H locs _ _ _ (F0 m (103 + 3) ls [])
        refine lv_aload_n (pc := 106) hx hb dX1_tells_106 rfl (lv_at hl 0 rfl) ?_
        refine lv_iconst (pc := 107) (v := 1) hx hb dX1_tells_107 (by decide) ?_
        refine lv_iload_n (pc := 108) hx hb dX1_tells_108 rfl (lv_at hl 2 rfl) ?_
        refine lv_iload_n (pc := 109) hx hb dX1_tells_109 rfl (lv_at hl 3 rfl) ?_
        refine lv_iconst (pc := 110) (v := 1) hx hb dX1_tells_110 (by decide) ?_
        refine lv_iadd (pc := 111) hx hb dX1_tells_111 ?_
        obtain ⟨r22, σ20, e21, h⟩ := bnd2 h
        refine cl_X1_52 X hP hS (As := [.ref (ga G a0), .int (1 : Int32), .int a2, .int (a3 + (1 : Int32))]) (rest := []) (ih hk0 e21) ⟨rfl, rfl, Nat.le_refl _, (by show 8 + (4 + 11) + (n * 60 + 1027) ≤ (n + 1) * 60 + 1027; omega)⟩ rfl hl.1 rfl (Nat.le_of_ble_eq_true rfl) ⟨Nat.zero_le _, Nat.zero_le _⟩ (pc := 112) dX1_tells_112 (fun H locs hP hS => ?_)
        change W p l e _ s m _ below meth c H locs _ _ _ (F0 m (112 + 3) ls (.int r22 :: []))
        refine lv_iconst (pc := 115) (v := 2) hx hb dX1_tells_115 (by decide) ?_
        refine lv_imul (pc := 116) hx hb dX1_tells_116 ?_
        obtain ⟨rfl, rfl⟩ := inj2 h
        exact r_iret X hP hS dX1_tells_117
      have h := ineg c17 h
      refine lv_lookup (pc := 9) (off := 109) (tgt := 118) hx hb dX1_tells_9 rfl (Eq.trans (lv_osw c2 (by decide)) (Eq.trans (lv_osw c8 (by decide)) (Eq.trans (lv_osw c17 (by decide)) rfl))) (by decide) ?_
      refine lv_aload_n (pc := 118) hx hb dX1_tells_118 rfl (lv_at hl 0 rfl) ?_
      refine lv_iload_n (pc := 119) hx hb dX1_tells_119 rfl (lv_at hl 1 rfl) ?_
      obtain ⟨r25, σ23, e24, h⟩ := bnd2 h
      refine cl_X1_59 X hP hS (As := [.int a1]) (rest := [.ref (ga G a0)]) (c_X9_kindAbove l G  e24) ⟨rfl, rfl, Nat.le_trans (Nat.le_of_ble_eq_true rfl) (Nat.le_add_left _ _), Nat.le_trans (Nat.le_of_ble_eq_true rfl) (Nat.le_add_left _ _)⟩ rfl hl.1 rfl (Nat.le_of_ble_eq_true rfl) ⟨Nat.zero_le _, Nat.zero_le _⟩ (pc := 120) dX1_tells_120 (fun H locs hP hS => ?_)
      change W p l e _ s m _ below meth c H locs _ _ _ (F0 m (120 + 3) ls (.int r25 :: [.ref (ga G a0)]))
      refine lv_iload_n (pc := 123) hx hb dX1_tells_123 rfl (lv_at hl 2 rfl) ?_
      refine lv_iload_n (pc := 124) hx hb dX1_tells_124 rfl (lv_at hl 3 rfl) ?_
      refine lv_iconst (pc := 125) (v := 1) hx hb dX1_tells_125 (by decide) ?_
      refine lv_iadd (pc := 126) hx hb dX1_tells_126 ?_
      obtain ⟨r28, σ26, e27, h⟩ := bnd2 h
      refine cl_X1_52 X hP hS (As := [.ref (ga G a0), .int r25, .int a2, .int (a3 + (1 : Int32))]) (rest := []) (ih hk0 e27) ⟨rfl, rfl, Nat.le_refl _, (by show 8 + (4 + 11) + (n * 60 + 1027) ≤ (n + 1) * 60 + 1027; omega)⟩ rfl hl.1 rfl (Nat.le_of_ble_eq_true rfl) ⟨Nat.zero_le _, Nat.zero_le _⟩ (pc := 127) dX1_tells_127 (fun H locs hP hS => ?_)
      change W p l e _ s m _ below meth c H locs _ _ _ (F0 m (127 + 3) ls (.int r28 :: []))
      obtain ⟨rfl, rfl⟩ := inj2 h
      exact r_iret X hP hS dX1_tells_130
    · have h := ineg c1 h
      refine lv_iconst (pc := 6) (v := 0) hx hb dX1_tells_6 (by decide) ?_
      obtain ⟨rfl, rfl⟩ := inj2 h
      exact r_iret X hP hS dX1_tells_7
def f_X1_answerTo (k0 : Nat) (a1 : Int32) (a2 : Int32) (σ : Mem) : Option (Int32 × Mem) :=
  if a1 = (0 : Int32) then
    bd2 (f_X1_calls 8 k0 (gI σ k0 3) a2 (0 : Int32) σ) fun r4 σ2 =>
    some (r4, σ2)
  else
  if a1 = (1 : Int32) then
    bd2 (f_X1_hears 8 k0 (gI σ k0 3) a2 (0 : Int32) σ) fun r8 σ6 =>
    some (r8, σ6)
  else
  if a1 = (2 : Int32) then
    bd2 (f_X1_shares 8 k0 (gI σ k0 3) a2 (0 : Int32) σ) fun r12 σ10 =>
    some (r12, σ10)
  else
  bd2 (f_X1_tells 8 k0 (gI σ k0 3) a2 (0 : Int32) σ) fun r15 σ13 =>
  some (r15, σ13)
abbrev RM_X1_answerTo : Room := { frames := 28, cells := 0, slots := 0, locals := 1530 }
set_option maxHeartbeats 4000000 in
set_option maxRecDepth 100000 in
theorem c_X1_answerTo (l : Launch) (G : Gh) {k0 : Nat} {a1 : Int32} {a2 : Int32} {σ : Mem} {rr : Int32} {σr : Mem} (hk0 : kd k0 = 1) (h : f_X1_answerTo k0 a1 a2 σ = some (rr, σr)) : Met l yX1_answerTo [Cond.code yX1_answerTo prog_3_method_5_code 3 (some .int)] RM_X1_answerTo (va_Pc [.ref (ga G k0), .int a1, .int a2] (Pre G σ)) (QG G (some (.int rr)) σr) 0 0 (AA G) := by
  refine ct_of (by decide) (fun p e s m below meth c X hP => ?_)
  have hx := X.hx
  have hb := X.hb
  have hS : va_S (AA G) s.heap s.heap [] := va_S.rf
  have hl := lv_entry ([.ref (ga G k0), .int a1, .int a2]) (n := 3) (Nat.le_of_ble_eq_true rfl)
  rw [lg_entry_eq]
  generalize (lg_sl ([.ref (ga G k0), .int a1, .int a2]) ++ List.replicate (3 - (lg_sl ([.ref (ga G k0), .int a1, .int a2])).length) Slot.unset).toArray = ls at hl ⊢
  have hl : lv_has ls 3 [(0, .ref (ga G k0)), (1, .int a1), (2, .int a2)] := hl
  unfold f_X1_answerTo at h
  refine lv_iload_n (pc := 0) hx hb dX1_answerTo_0 rfl (lv_at hl 1 rfl) ?_
  by_cases c1 : a1 = (0 : Int32)
  · have h := ipos c1 h
    refine r_tabIn X (pc := 1) (tgt := 28) c1 dX1_answerTo_1 (by decide) (by decide) rfl (by decide) ?_
    refine lv_aload_n (pc := 28) hx hb dX1_answerTo_28 rfl (lv_at hl 0 rfl) ?_
    refine lv_aload_n (pc := 29) hx hb dX1_answerTo_29 rfl (lv_at hl 0 rfl) ?_
    refine gt_X1_23 X hP hk0 dX1_answerTo_30 ?_
    refine lv_iload_n (pc := 33) hx hb dX1_answerTo_33 rfl (lv_at hl 2 rfl) ?_
    refine lv_iconst (pc := 34) (v := 0) hx hb dX1_answerTo_34 (by decide) ?_
    obtain ⟨r4, σ2, e3, h⟩ := bnd2 h
    refine cl_X1_42 X hP hS (As := [.ref (ga G k0), .int (gI σ k0 3), .int a2, .int (0 : Int32)]) (rest := []) (c_X1_calls l G 8 hk0 e3) ⟨rfl, rfl, Nat.le_of_ble_eq_true rfl, Nat.le_of_ble_eq_true rfl⟩ rfl hl.1 rfl (Nat.le_of_ble_eq_true rfl) ⟨Nat.zero_le _, Nat.zero_le _⟩ (pc := 35) dX1_answerTo_35 (fun H locs hP hS => ?_)
    change W p l e _ s m _ below meth c H locs _ _ _ (F0 m (35 + 3) ls (.int r4 :: []))
    obtain ⟨rfl, rfl⟩ := inj2 h
    exact r_iret X hP hS dX1_answerTo_38
  have h := ineg c1 h
  by_cases c5 : a1 = (1 : Int32)
  · have h := ipos c5 h
    refine r_tabIn X (pc := 1) (tgt := 39) c5 dX1_answerTo_1 (by decide) (by decide) rfl (by decide) ?_
    refine lv_aload_n (pc := 39) hx hb dX1_answerTo_39 rfl (lv_at hl 0 rfl) ?_
    refine lv_aload_n (pc := 40) hx hb dX1_answerTo_40 rfl (lv_at hl 0 rfl) ?_
    refine gt_X1_23 X hP hk0 dX1_answerTo_41 ?_
    refine lv_iload_n (pc := 44) hx hb dX1_answerTo_44 rfl (lv_at hl 2 rfl) ?_
    refine lv_iconst (pc := 45) (v := 0) hx hb dX1_answerTo_45 (by decide) ?_
    obtain ⟨r8, σ6, e7, h⟩ := bnd2 h
    refine cl_X1_46 X hP hS (As := [.ref (ga G k0), .int (gI σ k0 3), .int a2, .int (0 : Int32)]) (rest := []) (c_X1_hears l G 8 hk0 e7) ⟨rfl, rfl, Nat.le_of_ble_eq_true rfl, Nat.le_of_ble_eq_true rfl⟩ rfl hl.1 rfl (Nat.le_of_ble_eq_true rfl) ⟨Nat.zero_le _, Nat.zero_le _⟩ (pc := 46) dX1_answerTo_46 (fun H locs hP hS => ?_)
    change W p l e _ s m _ below meth c H locs _ _ _ (F0 m (46 + 3) ls (.int r8 :: []))
    obtain ⟨rfl, rfl⟩ := inj2 h
    exact r_iret X hP hS dX1_answerTo_49
  have h := ineg c5 h
  by_cases c9 : a1 = (2 : Int32)
  · have h := ipos c9 h
    refine r_tabIn X (pc := 1) (tgt := 50) c9 dX1_answerTo_1 (by decide) (by decide) rfl (by decide) ?_
    refine lv_aload_n (pc := 50) hx hb dX1_answerTo_50 rfl (lv_at hl 0 rfl) ?_
    refine lv_aload_n (pc := 51) hx hb dX1_answerTo_51 rfl (lv_at hl 0 rfl) ?_
    refine gt_X1_23 X hP hk0 dX1_answerTo_52 ?_
    refine lv_iload_n (pc := 55) hx hb dX1_answerTo_55 rfl (lv_at hl 2 rfl) ?_
    refine lv_iconst (pc := 56) (v := 0) hx hb dX1_answerTo_56 (by decide) ?_
    obtain ⟨r12, σ10, e11, h⟩ := bnd2 h
    refine cl_X1_49 X hP hS (As := [.ref (ga G k0), .int (gI σ k0 3), .int a2, .int (0 : Int32)]) (rest := []) (c_X1_shares l G 8 hk0 e11) ⟨rfl, rfl, Nat.le_of_ble_eq_true rfl, Nat.le_of_ble_eq_true rfl⟩ rfl hl.1 rfl (Nat.le_of_ble_eq_true rfl) ⟨Nat.zero_le _, Nat.zero_le _⟩ (pc := 57) dX1_answerTo_57 (fun H locs hP hS => ?_)
    change W p l e _ s m _ below meth c H locs _ _ _ (F0 m (57 + 3) ls (.int r12 :: []))
    obtain ⟨rfl, rfl⟩ := inj2 h
    exact r_iret X hP hS dX1_answerTo_60
  have h := ineg c9 h
  refine lv_tableOut (pc := 1) (tgt := 61) hx hb dX1_answerTo_1 (by have := lv_neT c1 (a := 0) (by decide); have := lv_neT c5 (a := 1) (by decide); have := lv_neT c9 (a := 2) (by decide); omega) (by decide) ?_
  refine lv_aload_n (pc := 61) hx hb dX1_answerTo_61 rfl (lv_at hl 0 rfl) ?_
  refine lv_aload_n (pc := 62) hx hb dX1_answerTo_62 rfl (lv_at hl 0 rfl) ?_
  refine gt_X1_23 X hP hk0 dX1_answerTo_63 ?_
  refine lv_iload_n (pc := 66) hx hb dX1_answerTo_66 rfl (lv_at hl 2 rfl) ?_
  refine lv_iconst (pc := 67) (v := 0) hx hb dX1_answerTo_67 (by decide) ?_
  obtain ⟨r15, σ13, e14, h⟩ := bnd2 h
  refine cl_X1_52 X hP hS (As := [.ref (ga G k0), .int (gI σ k0 3), .int a2, .int (0 : Int32)]) (rest := []) (c_X1_tells l G 8 hk0 e14) ⟨rfl, rfl, Nat.le_of_ble_eq_true rfl, Nat.le_of_ble_eq_true rfl⟩ rfl hl.1 rfl (Nat.le_of_ble_eq_true rfl) ⟨Nat.zero_le _, Nat.zero_le _⟩ (pc := 68) dX1_answerTo_68 (fun H locs hP hS => ?_)
  change W p l e _ s m _ below meth c H locs _ _ _ (F0 m (68 + 3) ls (.int r15 :: []))
  obtain ⟨rfl, rfl⟩ := inj2 h
  exact r_iret X hP hS dX1_answerTo_71
def f_X1_doneBy (k0 : Nat) (a1 : Nat) (a2 : Int32) (a3 : Int32) (a4 : Int32) (σ : Mem) : Option (Int32 × Mem) :=
  bd1 (some (pI σ k0 3 (gI σ a1 0))) fun σ1 =>
  bd1 (some (pI σ1 k0 4 a2)) fun σ3 =>
  bd1 (some (pI σ3 k0 5 (gI σ3 a1 1))) fun σ5 =>
  bd2 (f_X1_answerTo k0 a3 a4 σ5) fun r9 σ7 =>
  if (gI σ7 k0 2) = (0 : Int32) then
    some (r9, σ7)
  else
    some ((-15 : Int32), σ7)
abbrev RM_X1_doneBy : Room := { frames := 29, cells := 0, slots := 0, locals := 1552 }
set_option maxHeartbeats 4000000 in
set_option maxRecDepth 100000 in
theorem c_X1_doneBy (l : Launch) (G : Gh) {k0 : Nat} {a1 : Nat} {a2 : Int32} {a3 : Int32} {a4 : Int32} {σ : Mem} {rr : Int32} {σr : Mem} (hk0 : kd k0 = 1) (hk1 : kd a1 = 0) (h : f_X1_doneBy k0 a1 a2 a3 a4 σ = some (rr, σr)) : Met l yX1_doneBy [Cond.code yX1_doneBy prog_3_method_4_code 6 (some .int)] RM_X1_doneBy (va_Pc [.ref (ga G k0), .ref (ga G a1), .int a2, .int a3, .int a4] (Pre G σ)) (QG G (some (.int rr)) σr) 0 0 (AA G) := by
  refine ct_of (by decide) (fun p e s m below meth c X hP => ?_)
  have hx := X.hx
  have hb := X.hb
  have hS : va_S (AA G) s.heap s.heap [] := va_S.rf
  have hl := lv_entry ([.ref (ga G k0), .ref (ga G a1), .int a2, .int a3, .int a4]) (n := 6) (Nat.le_of_ble_eq_true rfl)
  rw [lg_entry_eq]
  generalize (lg_sl ([.ref (ga G k0), .ref (ga G a1), .int a2, .int a3, .int a4]) ++ List.replicate (6 - (lg_sl ([.ref (ga G k0), .ref (ga G a1), .int a2, .int a3, .int a4])).length) Slot.unset).toArray = ls at hl ⊢
  have hl : lv_has ls 6 [(0, .ref (ga G k0)), (1, .ref (ga G a1)), (2, .int a2), (3, .int a3), (4, .int a4)] := hl
  unfold f_X1_doneBy at h
  refine lv_aload_n (pc := 0) hx hb dX1_doneBy_0 rfl (lv_at hl 0 rfl) ?_
  refine lv_aload_n (pc := 1) hx hb dX1_doneBy_1 rfl (lv_at hl 1 rfl) ?_
  refine gt_X1_32 X hP hk1 dX1_doneBy_2 ?_
  obtain ⟨σ1, e2, h⟩ := bnd1 h
  refine pt_X1_23 X hP hS hk0 dX1_doneBy_5 (fun H locs hP hS => ?_)
  rw [Option.some.inj e2] at hP
  refine lv_aload_n (pc := 8) hx hb dX1_doneBy_8 rfl (lv_at hl 0 rfl) ?_
  refine lv_iload_n (pc := 9) hx hb dX1_doneBy_9 rfl (lv_at hl 2 rfl) ?_
  obtain ⟨σ3, e4, h⟩ := bnd1 h
  refine pt_X1_26 X hP hS hk0 dX1_doneBy_10 (fun H locs hP hS => ?_)
  rw [Option.some.inj e4] at hP
  refine lv_aload_n (pc := 13) hx hb dX1_doneBy_13 rfl (lv_at hl 0 rfl) ?_
  refine lv_aload_n (pc := 14) hx hb dX1_doneBy_14 rfl (lv_at hl 1 rfl) ?_
  refine gt_X1_37 X hP hk1 dX1_doneBy_15 ?_
  obtain ⟨σ5, e6, h⟩ := bnd1 h
  refine pt_X1_29 X hP hS hk0 dX1_doneBy_18 (fun H locs hP hS => ?_)
  rw [Option.some.inj e6] at hP
  refine lv_aload_n (pc := 21) hx hb dX1_doneBy_21 rfl (lv_at hl 0 rfl) ?_
  refine lv_iload_n (pc := 22) hx hb dX1_doneBy_22 rfl (lv_at hl 3 rfl) ?_
  refine lv_iload (pc := 23) hx hb dX1_doneBy_23 (lv_at hl 4 rfl) ?_
  obtain ⟨r9, σ7, e8, h⟩ := bnd2 h
  refine cl_X1_38 X hP hS hk0 (As := [.int a3, .int a4]) (rest := []) (c_X1_answerTo l G hk0 e8) ⟨rfl, rfl, Nat.le_of_ble_eq_true rfl, Nat.le_of_ble_eq_true rfl⟩ rfl hl.1 rfl (Nat.le_of_ble_eq_true rfl) ⟨Nat.zero_le _, Nat.zero_le _⟩ (pc := 25) dX1_doneBy_25 (fun H locs hP hS => ?_)
  change W p l e _ s m _ below meth c H locs _ _ _ (F0 m (25 + 3) ls (.int r9 :: []))
  refine lv_istore (pc := 28) (lv' := [(5, .int r9), (0, .ref (ga G k0)), (1, .ref (ga G a1)), (2, .int a2), (3, .int a3), (4, .int a4)]) hx hb dX1_doneBy_28 hl (by decide) rfl (fun ls hl => ?_)
  refine lv_aload_n (pc := 30) hx hb dX1_doneBy_30 rfl (lv_at hl 1 rfl) ?_
  refine gt_X1_19 X hP hk0 dX1_doneBy_31 ?_
  refine lv_if_eq (pc := 34) (tgt := 42) hx hb dX1_doneBy_34 (by decide) (fun c10 => ?_) (fun c10 => ?_)
  · have h := ipos c10 h
    refine lv_iload (pc := 42) hx hb dX1_doneBy_42 (lv_at hl 0 rfl) ?_
    obtain ⟨rfl, rfl⟩ := inj2 h
    exact r_iret X hP hS dX1_doneBy_44
  · have h := ineg c10 h
    refine lv_bipush (pc := 37) (v := (-15)) hx hb dX1_doneBy_37 (by decide) ?_
    refine lv_goto (pc := 39) (tgt := 44) hx hb dX1_doneBy_39 (by decide) ?_
    obtain ⟨rfl, rfl⟩ := inj2 h
    exact r_iret X hP hS dX1_doneBy_44
