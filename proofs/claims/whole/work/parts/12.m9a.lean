def f_X9_feed (k0 : Nat) (a1 : Int64) (a3 : Int32) (σ : Mem) : Option (Int32 × Mem) :=
  bd2 (f_X9_within a3 (1 : Int32) (8 : Int32) σ) fun r3 σ1 =>
  if r3 = (0 : Int32) then
    some ((-1 : Int32), σ1)
  else
    bd2 (f_X7_takes (k0 + 46) a1 a3 σ1) fun r7 σ5 =>
    some (r7, σ5)
abbrev RM_X9_feed : Room := { frames := 1, cells := 0, slots := 0, locals := 24 }
set_option maxHeartbeats 4000000 in
set_option maxRecDepth 100000 in
theorem c_X9_feed (l : Launch) (G : Gh) {k0 : Nat} {a1 : Int64} {a3 : Int32} {σ : Mem} {rr : Int32} {σr : Mem} (hk0 : kd k0 = 9) (h : f_X9_feed k0 a1 a3 σ = some (rr, σr)) : Met l yX9_feed [Cond.code yX9_feed prog_1_method_2_code 4 (some .int)] RM_X9_feed (va_Pc [.ref (ga G k0), .long a1, .int a3] (Pre G σ)) (QG G (some (.int rr)) σr) 0 0 (AA G) := by
  refine ct_of (by decide) (fun p e s m below meth c X hP => ?_)
  have hx := X.hx
  have hb := X.hb
  have hS : va_S (AA G) s.heap s.heap [] := va_S.rf
  have hl := lv_entry ([.ref (ga G k0), .long a1, .int a3]) (n := 4) (Nat.le_of_ble_eq_true rfl)
  rw [lg_entry_eq]
  generalize (lg_sl ([.ref (ga G k0), .long a1, .int a3]) ++ List.replicate (4 - (lg_sl ([.ref (ga G k0), .long a1, .int a3])).length) Slot.unset).toArray = ls at hl ⊢
  have hl : lv_has ls 4 [(0, .ref (ga G k0)), (1, .long a1), (3, .int a3)] := hl
  unfold f_X9_feed at h
  refine lv_iload_n (pc := 0) hx hb dX9_feed_0 rfl (lv_at hl 2 rfl) ?_
  refine lv_iconst (pc := 1) (v := 1) hx hb dX9_feed_1 (by decide) ?_
  refine lv_bipush (pc := 2) (v := (8)) hx hb dX9_feed_2 (by decide) ?_
  obtain ⟨r3, σ1, e2, h⟩ := bnd2 h
  refine cl_X9_71 X hP hS (As := [.int a3, .int (1 : Int32), .int (8 : Int32)]) (rest := []) (c_X9_within l G  e2) ⟨rfl, rfl, Nat.le_of_ble_eq_true rfl, Nat.le_of_ble_eq_true rfl⟩ rfl hl.1 rfl (Nat.le_of_ble_eq_true rfl) ⟨Nat.zero_le _, Nat.zero_le _⟩ (pc := 4) dX9_feed_4 (fun H locs hP hS => ?_)
  change W p l e _ s m _ below meth c H locs _ _ _ (F0 m (4 + 3) ls (.int r3 :: []))
  refine lv_if_ne (pc := 7) (tgt := 12) hx hb dX9_feed_7 (by decide) (fun c4 => ?_) (fun c4 => ?_)
  · have h := ineg c4 h
    refine lv_aload_n (pc := 12) hx hb dX9_feed_12 rfl (lv_at hl 0 rfl) ?_
    refine gt_X9_29 X hP hk0 dX9_feed_13 ?_
    refine lv_lload_n (pc := 16) hx hb dX9_feed_16 rfl (lv_at hl 1 rfl) ?_
    refine lv_iload_n (pc := 17) hx hb dX9_feed_17 rfl (lv_at hl 2 rfl) ?_
    obtain ⟨r7, σ5, e6, h⟩ := bnd2 h
    refine cl_X9_75 X hP hS (kf_9_tape hk0).1 (As := [.long a1, .int a3]) (rest := []) (c_X7_takes l G (kf_9_tape hk0).1 e6) ⟨rfl, rfl, Nat.le_of_ble_eq_true rfl, Nat.le_of_ble_eq_true rfl⟩ rfl hl.1 rfl (Nat.le_of_ble_eq_true rfl) ⟨Nat.zero_le _, Nat.zero_le _⟩ (pc := 18) dX9_feed_18 (fun H locs hP hS => ?_)
    change W p l e _ s m _ below meth c H locs _ _ _ (F0 m (18 + 3) ls (.int r7 :: []))
    obtain ⟨rfl, rfl⟩ := inj2 h
    exact r_iret X hP hS dX9_feed_21
  · have h := ipos c4 h
    refine lv_iconst (pc := 10) (v := (-1)) hx hb dX9_feed_10 (by decide) ?_
    obtain ⟨rfl, rfl⟩ := inj2 h
    exact r_iret X hP hS dX9_feed_11
def f_X9_hall (k0 : Nat) (σ : Mem) : Option (Int32 × Mem) :=
  bd1 (f_X2_clear (k0 + 31) σ) fun σ1 =>
  bd2 (f_X7_readInto (k0 + 46) (k0 + 31) σ1) fun r5 σ3 =>
  bd1 (f_X7_clear (k0 + 46) σ3) fun σ6 =>
  if r5 = (-3 : Int32) then
    bd1 (some (pI σ6 (k0 + 31) 6 (gI σ6 (k0 + 1) 6))) fun σ9 =>
    bd1 (f_X2_copy (k0 + 1) (k0 + 31) σ9) fun σ11 =>
    bd1 (f_X4_clear (k0 + 74) σ11) fun σ13 =>
    some ((gI σ13 (k0 + 1) 1), σ13)
  else
    some (((-100 : Int32) - r5), σ6)
abbrev RM_X9_hall : Room := { frames := 9, cells := 0, slots := 0, locals := 203 }
set_option maxHeartbeats 4000000 in
set_option maxRecDepth 100000 in
theorem c_X9_hall (l : Launch) (G : Gh) {k0 : Nat} {σ : Mem} {rr : Int32} {σr : Mem} (hk0 : kd k0 = 9) (h : f_X9_hall k0 σ = some (rr, σr)) : Met l yX9_hall [Cond.code yX9_hall prog_1_method_3_code 2 (some .int)] RM_X9_hall (va_Pc [.ref (ga G k0)] (Pre G σ)) (QG G (some (.int rr)) σr) 0 0 (AA G) := by
  refine ct_of (by decide) (fun p e s m below meth c X hP => ?_)
  have hx := X.hx
  have hb := X.hb
  have hS : va_S (AA G) s.heap s.heap [] := va_S.rf
  have hl := lv_entry ([.ref (ga G k0)]) (n := 2) (Nat.le_of_ble_eq_true rfl)
  rw [lg_entry_eq]
  generalize (lg_sl ([.ref (ga G k0)]) ++ List.replicate (2 - (lg_sl ([.ref (ga G k0)])).length) Slot.unset).toArray = ls at hl ⊢
  have hl : lv_has ls 2 [(0, .ref (ga G k0))] := hl
  unfold f_X9_hall at h
  refine lv_aload_n (pc := 0) hx hb dX9_hall_0 rfl (lv_at hl 0 rfl) ?_
  refine gt_X9_23 X hP hk0 dX9_hall_1 ?_
  obtain ⟨σ1, e2, h⟩ := bnd1 h
  refine cl_X9_79 X hP hS (kf_9_draft hk0).1 (As := []) (rest := []) (c_X2_clear l G (kf_9_draft hk0).1 e2) ⟨rfl, rfl, Nat.le_of_ble_eq_true rfl, Nat.le_of_ble_eq_true rfl⟩ rfl hl.1 rfl (Nat.le_of_ble_eq_true rfl) ⟨Nat.zero_le _, Nat.zero_le _⟩ (pc := 4) dX9_hall_4 (fun H locs hP hS => ?_)
  change W p l e _ s m _ below meth c H locs _ _ _ (F0 m (4 + 3) ls [])
  refine lv_aload_n (pc := 7) hx hb dX9_hall_7 rfl (lv_at hl 0 rfl) ?_
  refine gt_X9_29 X hP hk0 dX9_hall_8 ?_
  refine lv_aload_n (pc := 11) hx hb dX9_hall_11 rfl (lv_at hl 0 rfl) ?_
  refine gt_X9_23 X hP hk0 dX9_hall_12 ?_
  obtain ⟨r5, σ3, e4, h⟩ := bnd2 h
  refine cl_X9_82 X hP hS (kf_9_tape hk0).1 (As := [.ref (ga G (k0 + 31))]) (rest := []) (c_X7_readInto l G (kf_9_tape hk0).1 (kf_9_draft hk0).1 e4) ⟨rfl, rfl, Nat.le_of_ble_eq_true rfl, Nat.le_of_ble_eq_true rfl⟩ rfl hl.1 rfl (Nat.le_of_ble_eq_true rfl) ⟨Nat.zero_le _, Nat.zero_le _⟩ (pc := 15) dX9_hall_15 (fun H locs hP hS => ?_)
  change W p l e _ s m _ below meth c H locs _ _ _ (F0 m (15 + 3) ls (.int r5 :: []))
  refine lv_istore_n (pc := 18) (lv' := [(1, .int r5), (0, .ref (ga G k0))]) hx hb dX9_hall_18 rfl hl (by decide) rfl (fun ls hl => ?_)
  refine lv_aload_n (pc := 19) hx hb dX9_hall_19 rfl (lv_at hl 1 rfl) ?_
  refine gt_X9_29 X hP hk0 dX9_hall_20 ?_
  obtain ⟨σ6, e7, h⟩ := bnd1 h
  refine cl_X9_86 X hP hS (kf_9_tape hk0).1 (As := []) (rest := []) (c_X7_clear l G (kf_9_tape hk0).1 e7) ⟨rfl, rfl, Nat.le_of_ble_eq_true rfl, Nat.le_of_ble_eq_true rfl⟩ rfl hl.1 rfl (Nat.le_of_ble_eq_true rfl) ⟨Nat.zero_le _, Nat.zero_le _⟩ (pc := 23) dX9_hall_23 (fun H locs hP hS => ?_)
  change W p l e _ s m _ below meth c H locs _ _ _ (F0 m (23 + 3) ls [])
  refine lv_iload_n (pc := 26) hx hb dX9_hall_26 rfl (lv_at hl 0 rfl) ?_
  refine lv_bipush (pc := 27) (v := (-3)) hx hb dX9_hall_27 (by decide) ?_
  refine lv_icmp_eq (pc := 29) (tgt := 37) hx hb dX9_hall_29 (by decide) (fun c8 => ?_) (fun c8 => ?_)
  · have h := ipos c8 h
    refine lv_aload_n (pc := 37) hx hb dX9_hall_37 rfl (lv_at hl 1 rfl) ?_
    refine gt_X9_23 X hP hk0 dX9_hall_38 ?_
    refine lv_aload_n (pc := 41) hx hb dX9_hall_41 rfl (lv_at hl 1 rfl) ?_
    refine gt_X9_12 X hP hk0 dX9_hall_42 ?_
    refine gt_X9_87 X hP (kf_9_hall hk0).1 dX9_hall_45 ?_
    obtain ⟨σ9, e10, h⟩ := bnd1 h
    refine pt_X9_87 X hP hS (kf_9_draft hk0).1 dX9_hall_48 (fun H locs hP hS => ?_)
    rw [Option.some.inj e10] at hP
    refine lv_aload_n (pc := 51) hx hb dX9_hall_51 rfl (lv_at hl 1 rfl) ?_
    refine gt_X9_12 X hP hk0 dX9_hall_52 ?_
    refine lv_aload_n (pc := 55) hx hb dX9_hall_55 rfl (lv_at hl 1 rfl) ?_
    refine gt_X9_23 X hP hk0 dX9_hall_56 ?_
    obtain ⟨σ11, e12, h⟩ := bnd1 h
    refine cl_X9_91 X hP hS (kf_9_hall hk0).1 (As := [.ref (ga G (k0 + 31))]) (rest := []) (c_X2_copy l G (kf_9_hall hk0).1 (kf_9_draft hk0).1 e12) ⟨rfl, rfl, Nat.le_of_ble_eq_true rfl, Nat.le_of_ble_eq_true rfl⟩ rfl hl.1 rfl (Nat.le_of_ble_eq_true rfl) ⟨Nat.zero_le _, Nat.zero_le _⟩ (pc := 59) dX9_hall_59 (fun H locs hP hS => ?_)
    change W p l e _ s m _ below meth c H locs _ _ _ (F0 m (59 + 3) ls [])
    refine lv_aload_n (pc := 62) hx hb dX9_hall_62 rfl (lv_at hl 1 rfl) ?_
    refine gt_X9_43 X hP hk0 dX9_hall_63 ?_
    obtain ⟨σ13, e14, h⟩ := bnd1 h
    refine cl_X9_95 X hP hS (kf_9_rows hk0).1 (As := []) (rest := []) (c_X4_clear l G (kf_9_rows hk0).1 e14) ⟨rfl, rfl, Nat.le_of_ble_eq_true rfl, Nat.le_of_ble_eq_true rfl⟩ rfl hl.1 rfl (Nat.le_of_ble_eq_true rfl) ⟨Nat.zero_le _, Nat.zero_le _⟩ (pc := 66) dX9_hall_66 (fun H locs hP hS => ?_)
    change W p l e _ s m _ below meth c H locs _ _ _ (F0 m (66 + 3) ls [])
    refine lv_aload_n (pc := 69) hx hb dX9_hall_69 rfl (lv_at hl 1 rfl) ?_
    refine gt_X9_12 X hP hk0 dX9_hall_70 ?_
    refine gt_X9_96 X hP (kf_9_hall hk0).1 dX9_hall_73 ?_
    obtain ⟨rfl, rfl⟩ := inj2 h
    exact r_iret X hP hS dX9_hall_76
  · have h := ineg c8 h
    refine lv_bipush (pc := 32) (v := (-100)) hx hb dX9_hall_32 (by decide) ?_
    refine lv_iload_n (pc := 34) hx hb dX9_hall_34 rfl (lv_at hl 0 rfl) ?_
    refine lv_isub (pc := 35) hx hb dX9_hall_35 ?_
    obtain ⟨rfl, rfl⟩ := inj2 h
    exact r_iret X hP hS dX9_hall_36
def f_X9_lot (k0 : Nat) (a1 : Int32) (a2 : Int32) (σ : Mem) : Option (Int32 × Mem) :=
  bd2 (f_X9_within a1 (1 : Int32) (60 : Int32) σ) fun r3 σ1 =>
  if r3 = (0 : Int32) then
    some ((-1 : Int32), σ1)
  else
    bd2 (f_X9_within a2 (1 : Int32) (99 : Int32) σ1) fun r7 σ5 =>
    if r7 = (0 : Int32) then
      some ((-1 : Int32), σ5)
    else
      bd2 (f_X2_addLot (k0 + 1) a1 a2 σ5) fun r11 σ9 =>
      some (r11, σ9)
abbrev RM_X9_lot : Room := { frames := 3, cells := 0, slots := 0, locals := 64 }
set_option maxHeartbeats 4000000 in
set_option maxRecDepth 100000 in
theorem c_X9_lot (l : Launch) (G : Gh) {k0 : Nat} {a1 : Int32} {a2 : Int32} {σ : Mem} {rr : Int32} {σr : Mem} (hk0 : kd k0 = 9) (h : f_X9_lot k0 a1 a2 σ = some (rr, σr)) : Met l yX9_lot [Cond.code yX9_lot prog_1_method_4_code 3 (some .int)] RM_X9_lot (va_Pc [.ref (ga G k0), .int a1, .int a2] (Pre G σ)) (QG G (some (.int rr)) σr) 0 0 (AA G) := by
  refine ct_of (by decide) (fun p e s m below meth c X hP => ?_)
  have hx := X.hx
  have hb := X.hb
  have hS : va_S (AA G) s.heap s.heap [] := va_S.rf
  have hl := lv_entry ([.ref (ga G k0), .int a1, .int a2]) (n := 3) (Nat.le_of_ble_eq_true rfl)
  rw [lg_entry_eq]
  generalize (lg_sl ([.ref (ga G k0), .int a1, .int a2]) ++ List.replicate (3 - (lg_sl ([.ref (ga G k0), .int a1, .int a2])).length) Slot.unset).toArray = ls at hl ⊢
  have hl : lv_has ls 3 [(0, .ref (ga G k0)), (1, .int a1), (2, .int a2)] := hl
  unfold f_X9_lot at h
  refine lv_iload_n (pc := 0) hx hb dX9_lot_0 rfl (lv_at hl 1 rfl) ?_
  refine lv_iconst (pc := 1) (v := 1) hx hb dX9_lot_1 (by decide) ?_
  refine lv_bipush (pc := 2) (v := (60)) hx hb dX9_lot_2 (by decide) ?_
  obtain ⟨r3, σ1, e2, h⟩ := bnd2 h
  refine cl_X9_71 X hP hS (As := [.int a1, .int (1 : Int32), .int (60 : Int32)]) (rest := []) (c_X9_within l G  e2) ⟨rfl, rfl, Nat.le_of_ble_eq_true rfl, Nat.le_of_ble_eq_true rfl⟩ rfl hl.1 rfl (Nat.le_of_ble_eq_true rfl) ⟨Nat.zero_le _, Nat.zero_le _⟩ (pc := 4) dX9_lot_4 (fun H locs hP hS => ?_)
  change W p l e _ s m _ below meth c H locs _ _ _ (F0 m (4 + 3) ls (.int r3 :: []))
  refine lv_if_eq (pc := 7) (tgt := 20) hx hb dX9_lot_7 (by decide) (fun c4 => ?_) (fun c4 => ?_)
  · have h := ipos c4 h
    refine lv_iconst (pc := 20) (v := (-1)) hx hb dX9_lot_20 (by decide) ?_
    obtain ⟨rfl, rfl⟩ := inj2 h
    exact r_iret X hP hS dX9_lot_21
  · have h := ineg c4 h
    refine lv_iload_n (pc := 10) hx hb dX9_lot_10 rfl (lv_at hl 2 rfl) ?_
    refine lv_iconst (pc := 11) (v := 1) hx hb dX9_lot_11 (by decide) ?_
    refine lv_bipush (pc := 12) (v := (99)) hx hb dX9_lot_12 (by decide) ?_
    obtain ⟨r7, σ5, e6, h⟩ := bnd2 h
    refine cl_X9_71 X hP hS (As := [.int a2, .int (1 : Int32), .int (99 : Int32)]) (rest := []) (c_X9_within l G  e6) ⟨rfl, rfl, Nat.le_of_ble_eq_true rfl, Nat.le_of_ble_eq_true rfl⟩ rfl hl.1 rfl (Nat.le_of_ble_eq_true rfl) ⟨Nat.zero_le _, Nat.zero_le _⟩ (pc := 14) dX9_lot_14 (fun H locs hP hS => ?_)
    change W p l e _ s m _ below meth c H locs _ _ _ (F0 m (14 + 3) ls (.int r7 :: []))
    refine lv_if_ne (pc := 17) (tgt := 22) hx hb dX9_lot_17 (by decide) (fun c8 => ?_) (fun c8 => ?_)
    · have h := ineg c8 h
      refine lv_aload_n (pc := 22) hx hb dX9_lot_22 rfl (lv_at hl 0 rfl) ?_
      refine gt_X9_12 X hP hk0 dX9_lot_23 ?_
      refine lv_iload_n (pc := 26) hx hb dX9_lot_26 rfl (lv_at hl 1 rfl) ?_
      refine lv_iload_n (pc := 27) hx hb dX9_lot_27 rfl (lv_at hl 2 rfl) ?_
      obtain ⟨r11, σ9, e10, h⟩ := bnd2 h
      refine cl_X9_99 X hP hS (kf_9_hall hk0).1 (As := [.int a1, .int a2]) (rest := []) (c_X2_addLot l G (kf_9_hall hk0).1 e10) ⟨rfl, rfl, Nat.le_of_ble_eq_true rfl, Nat.le_of_ble_eq_true rfl⟩ rfl hl.1 rfl (Nat.le_of_ble_eq_true rfl) ⟨Nat.zero_le _, Nat.zero_le _⟩ (pc := 28) dX9_lot_28 (fun H locs hP hS => ?_)
      change W p l e _ s m _ below meth c H locs _ _ _ (F0 m (28 + 3) ls (.int r11 :: []))
      obtain ⟨rfl, rfl⟩ := inj2 h
      exact r_iret X hP hS dX9_lot_31
    · have h := ipos c8 h
      refine lv_iconst (pc := 20) (v := (-1)) hx hb dX9_lot_20 (by decide) ?_
      obtain ⟨rfl, rfl⟩ := inj2 h
      exact r_iret X hP hS dX9_lot_21
def f_X9_lotOf (k0 : Nat) (a1 : Int32) (a2 : Int32) (σ : Mem) : Option (Int32 × Mem) :=
  bd2 (f_X2_lotAt (k0 + 1) a1 σ) fun r3 σ1 =>
  onr r3 (
    some ((-1 : Int32), σ1)
    ) fun q4 => grd (kd q4 = 3) <|
    if a2 = (0 : Int32) then
      some ((gI σ1 q4 0), σ1)
    else
    if a2 = (1 : Int32) then
      some ((gI σ1 q4 1), σ1)
    else
    if a2 = (2 : Int32) then
      if (gI σ1 q4 2) = (0 : Int32) then
        some ((0 : Int32), σ1)
      else
        some ((1 : Int32), σ1)
    else
    if a2 = (3 : Int32) then
      some ((gI σ1 q4 3), σ1)
    else
    if a2 = (4 : Int32) then
      some ((gI σ1 q4 4), σ1)
    else
    some ((-1 : Int32), σ1)
abbrev RM_X9_lotOf : Room := { frames := 1, cells := 0, slots := 0, locals := 21 }
set_option maxHeartbeats 4000000 in
set_option maxRecDepth 100000 in
theorem c_X9_lotOf (l : Launch) (G : Gh) {k0 : Nat} {a1 : Int32} {a2 : Int32} {σ : Mem} {rr : Int32} {σr : Mem} (hk0 : kd k0 = 9) (h : f_X9_lotOf k0 a1 a2 σ = some (rr, σr)) : Met l yX9_lotOf [Cond.code yX9_lotOf prog_1_method_5_code 4 (some .int)] RM_X9_lotOf (va_Pc [.ref (ga G k0), .int a1, .int a2] (Pre G σ)) (QG G (some (.int rr)) σr) 0 0 (AA G) := by
  refine ct_of (by decide) (fun p e s m below meth c X hP => ?_)
  have hx := X.hx
  have hb := X.hb
  have hS : va_S (AA G) s.heap s.heap [] := va_S.rf
  have hl := lv_entry ([.ref (ga G k0), .int a1, .int a2]) (n := 4) (Nat.le_of_ble_eq_true rfl)
  rw [lg_entry_eq]
  generalize (lg_sl ([.ref (ga G k0), .int a1, .int a2]) ++ List.replicate (4 - (lg_sl ([.ref (ga G k0), .int a1, .int a2])).length) Slot.unset).toArray = ls at hl ⊢
  have hl : lv_has ls 4 [(0, .ref (ga G k0)), (1, .int a1), (2, .int a2)] := hl
  unfold f_X9_lotOf at h
  refine lv_aload_n (pc := 0) hx hb dX9_lotOf_0 rfl (lv_at hl 0 rfl) ?_
  refine gt_X9_12 X hP hk0 dX9_lotOf_1 ?_
  refine lv_iload_n (pc := 4) hx hb dX9_lotOf_4 rfl (lv_at hl 1 rfl) ?_
  obtain ⟨r3, σ1, e2, h⟩ := bnd2 h
  rcases r3 with _ | q4
  · have h := onr_n h
    refine cl_X9_103 X hP hS (kf_9_hall hk0).1 (As := [.int a1]) (rest := []) (c_X2_lotAt l G (kf_9_hall hk0).1 e2) ⟨rfl, rfl, Nat.le_of_ble_eq_true rfl, Nat.le_of_ble_eq_true rfl⟩ rfl hl.1 rfl (Nat.le_of_ble_eq_true rfl) ⟨Nat.zero_le _, Nat.zero_le _⟩ (pc := 5) dX9_lotOf_5 (fun H locs hP hS => ?_)
    change W p l e _ s m _ below meth c H locs _ _ _ (F0 m (5 + 3) ls (.null :: []))
    refine lv_astore_nN (pc := 8) (lv' := [(3, .null), (0, .ref (ga G k0)), (1, .int a1), (2, .int a2)]) hx hb dX9_lotOf_8 rfl hl (by decide) rfl (fun ls hl => ?_)
    refine lv_aload_nN (pc := 9) hx hb dX9_lotOf_9 rfl (lv_at hl 0 rfl) ?_
    refine lv_ifnonnullN (pc := 10) hx hb dX9_lotOf_10 ?_
    refine lv_iconst (pc := 13) (v := (-1)) hx hb dX9_lotOf_13 (by decide) ?_
    obtain ⟨rfl, rfl⟩ := inj2 h
    exact r_iret X hP hS dX9_lotOf_14
  · have h := onr_s h
    obtain ⟨hq5, h⟩ := grd_inv h
    refine cl_X9_103 X hP hS (kf_9_hall hk0).1 (As := [.int a1]) (rest := []) (c_X2_lotAt l G (kf_9_hall hk0).1 e2) ⟨rfl, rfl, Nat.le_of_ble_eq_true rfl, Nat.le_of_ble_eq_true rfl⟩ rfl hl.1 rfl (Nat.le_of_ble_eq_true rfl) ⟨Nat.zero_le _, Nat.zero_le _⟩ (pc := 5) dX9_lotOf_5 (fun H locs hP hS => ?_)
    change W p l e _ s m _ below meth c H locs _ _ _ (F0 m (5 + 3) ls (.ref (ga G q4) :: []))
    refine lv_astore_n (pc := 8) (lv' := [(3, .ref (ga G q4)), (0, .ref (ga G k0)), (1, .int a1), (2, .int a2)]) hx hb dX9_lotOf_8 rfl hl (by decide) rfl (fun ls hl => ?_)
    refine lv_aload_n (pc := 9) hx hb dX9_lotOf_9 rfl (lv_at hl 0 rfl) ?_
    refine lv_ifnonnull (pc := 10) (tgt := 15) hx hb dX9_lotOf_10 (by decide) ?_
    refine lv_iload_n (pc := 15) hx hb dX9_lotOf_15 rfl (lv_at hl 3 rfl) ?_
    by_cases c6 : a2 = (0 : Int32)
    · have h := ipos c6 h
      refine r_tabIn X (pc := 16) (tgt := 52) c6 dX9_lotOf_16 (by decide) (by decide) rfl (by decide) ?_
      refine lv_aload_n (pc := 52) hx hb dX9_lotOf_52 rfl (lv_at hl 0 rfl) ?_
      refine gt_X9_107 X hP hq5 dX9_lotOf_53 ?_
      obtain ⟨rfl, rfl⟩ := inj2 h
      exact r_iret X hP hS dX9_lotOf_56
    have h := ineg c6 h
    by_cases c7 : a2 = (1 : Int32)
    · have h := ipos c7 h
      refine r_tabIn X (pc := 16) (tgt := 57) c7 dX9_lotOf_16 (by decide) (by decide) rfl (by decide) ?_
      refine lv_aload_n (pc := 57) hx hb dX9_lotOf_57 rfl (lv_at hl 0 rfl) ?_
      refine gt_X9_112 X hP hq5 dX9_lotOf_58 ?_
      obtain ⟨rfl, rfl⟩ := inj2 h
      exact r_iret X hP hS dX9_lotOf_61
    have h := ineg c7 h
    by_cases c8 : a2 = (2 : Int32)
    · have h := ipos c8 h
      refine r_tabIn X (pc := 16) (tgt := 62) c8 dX9_lotOf_16 (by decide) (by decide) rfl (by decide) ?_
      refine lv_aload_n (pc := 62) hx hb dX9_lotOf_62 rfl (lv_at hl 0 rfl) ?_
      refine gt_X9_115 X hP hq5 dX9_lotOf_63 ?_
      refine lv_if_eq (pc := 66) (tgt := 73) hx hb dX9_lotOf_66 (by decide) (fun c9 => ?_) (fun c9 => ?_)
      · have h := ipos c9 h
        refine lv_iconst (pc := 73) (v := 0) hx hb dX9_lotOf_73 (by decide) ?_
        obtain ⟨rfl, rfl⟩ := inj2 h
        exact r_iret X hP hS dX9_lotOf_74
      · have h := ineg c9 h
        refine lv_iconst (pc := 69) (v := 1) hx hb dX9_lotOf_69 (by decide) ?_
        refine lv_goto (pc := 70) (tgt := 74) hx hb dX9_lotOf_70 (by decide) ?_
        obtain ⟨rfl, rfl⟩ := inj2 h
        exact r_iret X hP hS dX9_lotOf_74
    have h := ineg c8 h
    by_cases c10 : a2 = (3 : Int32)
    · have h := ipos c10 h
      refine r_tabIn X (pc := 16) (tgt := 75) c10 dX9_lotOf_16 (by decide) (by decide) rfl (by decide) ?_
      refine lv_aload_n (pc := 75) hx hb dX9_lotOf_75 rfl (lv_at hl 0 rfl) ?_
      refine gt_X9_118 X hP hq5 dX9_lotOf_76 ?_
      obtain ⟨rfl, rfl⟩ := inj2 h
      exact r_iret X hP hS dX9_lotOf_79
    have h := ineg c10 h
    by_cases c11 : a2 = (4 : Int32)
    · have h := ipos c11 h
      refine r_tabIn X (pc := 16) (tgt := 80) c11 dX9_lotOf_16 (by decide) (by decide) rfl (by decide) ?_
      refine lv_aload_n (pc := 80) hx hb dX9_lotOf_80 rfl (lv_at hl 0 rfl) ?_
      refine gt_X9_121 X hP hq5 dX9_lotOf_81 ?_
      obtain ⟨rfl, rfl⟩ := inj2 h
      exact r_iret X hP hS dX9_lotOf_84
    have h := ineg c11 h
    refine lv_tableOut (pc := 16) (tgt := 85) hx hb dX9_lotOf_16 (by have := lv_neT c6 (a := 0) (by decide); have := lv_neT c7 (a := 1) (by decide); have := lv_neT c8 (a := 2) (by decide); have := lv_neT c10 (a := 3) (by decide); have := lv_neT c11 (a := 4) (by decide); omega) (by decide) ?_
    refine lv_iconst (pc := 85) (v := (-1)) hx hb dX9_lotOf_85 (by decide) ?_
    obtain ⟨rfl, rfl⟩ := inj2 h
    exact r_iret X hP hS dX9_lotOf_86
def F_X9_trim_39 (k0z : Nat) (k4z : Nat) (v1 : Int32) (v2 : Int32) (v3 : Int32) (w2 : Int32) (σ : Mem) : Option (Int32 × Mem) :=
  bd2 (f_X9_within w2 (1 : Int32) (99 : Int32) σ) fun r13 σ11 =>
  if r13 = (0 : Int32) then
    some ((-1 : Int32), σ11)
  else
    if (gI σ11 k4z 2) = (0 : Int32) then
      if (gI σ11 (k0z + 1) 7) = v1 then
        some ((-4 : Int32), σ11)
      else
        if v2 = (0 : Int32) then
          if v2 = (0 : Int32) then
            bd1 (some (pI σ11 k4z 0 v3)) fun σ26 =>
            some ((gI σ11 k4z 0), σ26)
          else
            bd1 (some (pI σ11 k4z 1 v3)) fun σ24 =>
            some ((gI σ11 k4z 0), σ24)
        else
          if v2 = (0 : Int32) then
            bd1 (some (pI σ11 k4z 0 v3)) fun σ21 =>
            some ((gI σ11 k4z 1), σ21)
          else
            bd1 (some (pI σ11 k4z 1 v3)) fun σ19 =>
            some ((gI σ11 k4z 1), σ19)
    else
      some ((-4 : Int32), σ11)
def F_X9_trim_39x1 (k0z : Nat) (k4z : Nat) (v1 : Int32) (v2 : Int32) (v3 : Int32) (w2 : Int32) (σ : Mem) : Option (Int32 × Mem) :=
  bd2 (f_X9_within w2 (1 : Int32) (60 : Int32) σ) fun r30 σ28 =>
  if r30 = (0 : Int32) then
    some ((-1 : Int32), σ28)
  else
    if (gI σ28 k4z 2) = (0 : Int32) then
      if (gI σ28 (k0z + 1) 7) = v1 then
        some ((-4 : Int32), σ28)
      else
        if v2 = (0 : Int32) then
          if v2 = (0 : Int32) then
            bd1 (some (pI σ28 k4z 0 v3)) fun σ43 =>
            some ((gI σ28 k4z 0), σ43)
          else
            bd1 (some (pI σ28 k4z 1 v3)) fun σ41 =>
            some ((gI σ28 k4z 0), σ41)
        else
          if v2 = (0 : Int32) then
            bd1 (some (pI σ28 k4z 0 v3)) fun σ38 =>
            some ((gI σ28 k4z 1), σ38)
          else
            bd1 (some (pI σ28 k4z 1 v3)) fun σ36 =>
            some ((gI σ28 k4z 1), σ36)
    else
      some ((-4 : Int32), σ28)
def f_X9_trim (k0 : Nat) (a1 : Int32) (a2 : Int32) (a3 : Int32) (σ : Mem) : Option (Int32 × Mem) :=
  bd2 (f_X2_lotAt (k0 + 1) a1 σ) fun r3 σ1 =>
  onr r3 (
    some ((-1 : Int32), σ1)
    ) fun q4 => grd (kd q4 = 3) <|
    bd2 (f_X9_within a2 (0 : Int32) (1 : Int32) σ1) fun r8 σ6 =>
    if r8 = (0 : Int32) then
      some ((-1 : Int32), σ6)
    else
      if a2 = (0 : Int32) then
        F_X9_trim_39x1 k0 q4 a1 a2 a3 a3 σ6
      else
        F_X9_trim_39 k0 q4 a1 a2 a3 a3 σ6
abbrev RM_X9_trim : Room := { frames := 1, cells := 0, slots := 0, locals := 22 }
set_option maxHeartbeats 4000000 in
set_option maxRecDepth 100000 in
theorem w_X9_trim_39 {l : Launch} {G : Gh} {p : Program} {e : Env} {s : State} {m : MethodId} {args : Array Value} {below : List Frame} {meth : Method} {c : Code} (X : Cx G p s m args meth c prog_1_method_6_code RX9 6 (some .int)) {k0z : Nat} {k4z : Nat} (hz0 : kd k0z = 9) (hz4 : kd k4z = 3) {rr : Int32} {σr : Mem} : ∀ (v1 : Int32) (v2 : Int32) (v3 : Int32) (w2 : Int32) (σ : Mem) (H : Heap) (locs : List Loc) (ls : Array Slot), PW G σ H → va_S (AA G) s.heap H locs → lv_has ls 6 [(0, .ref (ga G k0z)), (1, .int v1), (2, .int v2), (3, .int v3), (4, .ref (ga G k4z))] → F_X9_trim_39 k0z k4z v1 v2 v3 w2 σ = some (rr, σr) → W p l e RM_X9_trim s m args below meth c H locs 0 0 (MQ below (QG G (some (.int rr)) σr) args s 0 0 (AA G)) (F0 m 39 ls [.int (99 : Int32), .int (1 : Int32), .int w2]) := by
  have hx := X.hx
  have hb := X.hb
  intro v1 v2 v3 w2 σ H locs ls hP hS hl h
  unfold F_X9_trim_39 at h
  obtain ⟨r13, σ11, e12, h⟩ := bnd2 h
  refine cl_X9_71 X hP hS (As := [.int w2, .int (1 : Int32), .int (99 : Int32)]) (rest := []) (c_X9_within l G  e12) ⟨rfl, rfl, Nat.le_of_ble_eq_true rfl, Nat.le_of_ble_eq_true rfl⟩ rfl hl.1 rfl (Nat.le_of_ble_eq_true rfl) ⟨Nat.zero_le _, Nat.zero_le _⟩ (pc := 39) dX9_trim_39 (fun H locs hP hS => ?_)
  change W p l e _ s m _ below meth c H locs _ _ _ (F0 m (39 + 3) ls (.int r13 :: []))
  refine lv_if_ne (pc := 42) (tgt := 47) hx hb dX9_trim_42 (by decide) (fun c14 => ?_) (fun c14 => ?_)
  · have h := ineg c14 h
    refine lv_aload (pc := 47) hx hb dX9_trim_47 (lv_at hl 4 rfl) ?_
    refine gt_X9_115 X hP hz4 dX9_trim_49 ?_
    refine lv_if_ne (pc := 52) (tgt := 66) hx hb dX9_trim_52 (by decide) (fun c15 => ?_) (fun c15 => ?_)
    · have h := ineg c15 h
      refine lv_bipush (pc := 66) (v := (-4)) hx hb dX9_trim_66 (by decide) ?_
      obtain ⟨rfl, rfl⟩ := inj2 h
      exact r_iret X hP hS dX9_trim_68
    · have h := ipos c15 h
      refine lv_aload_n (pc := 55) hx hb dX9_trim_55 rfl (lv_at hl 0 rfl) ?_
      refine gt_X9_12 X hP hz0 dX9_trim_56 ?_
      refine gt_X9_124 X hP (kf_9_hall hz0).1 dX9_trim_59 ?_
      refine lv_iload_n (pc := 62) hx hb dX9_trim_62 rfl (lv_at hl 1 rfl) ?_
      refine lv_icmp_ne (pc := 63) (tgt := 69) hx hb dX9_trim_63 (by decide) (fun c16 => ?_) (fun c16 => ?_)
      · have h := ineg c16 h
        refine lv_iload_n (pc := 69) hx hb dX9_trim_69 rfl (lv_at hl 2 rfl) ?_
        refine lv_if_ne (pc := 70) (tgt := 81) hx hb dX9_trim_70 (by decide) (fun c17 => ?_) (fun c17 => ?_)
        · have h := ineg c17 h
          refine lv_aload (pc := 81) hx hb dX9_trim_81 (lv_at hl 4 rfl) ?_
          refine gt_X9_112 X hP hz4 dX9_trim_83 ?_
          refine lv_istore (pc := 86) (lv' := [(5, .int (gI σ11 k4z 1)), (0, .ref (ga G k0z)), (1, .int v1), (2, .int v2), (3, .int v3), (4, .ref (ga G k4z))]) hx hb dX9_trim_86 hl (by decide) rfl (fun ls hl => ?_)
          refine lv_iload_n (pc := 88) hx hb dX9_trim_88 rfl (lv_at hl 3 rfl) ?_
          refine lv_if_ne (pc := 89) (tgt := 101) hx hb dX9_trim_89 (by decide) (fun c18 => ?_) (fun c18 => ?_)
          · have h := ineg c18 h
            refine lv_aload (pc := 101) hx hb dX9_trim_101 (lv_at hl 5 rfl) ?_
            refine lv_iload_n (pc := 103) hx hb dX9_trim_103 rfl (lv_at hl 4 rfl) ?_
            obtain ⟨σ19, e20, h⟩ := bnd1 h
            refine pt_X9_112 X hP hS hz4 dX9_trim_104 (fun H locs hP hS => ?_)
            rw [Option.some.inj e20] at hP
            refine lv_iload (pc := 107) hx hb dX9_trim_107 (lv_at hl 0 rfl) ?_
            obtain ⟨rfl, rfl⟩ := inj2 h
            exact r_iret X hP hS dX9_trim_109
          · have h := ipos c18 h
            refine lv_aload (pc := 92) hx hb dX9_trim_92 (lv_at hl 5 rfl) ?_
            refine lv_iload_n (pc := 94) hx hb dX9_trim_94 rfl (lv_at hl 4 rfl) ?_
            obtain ⟨σ21, e22, h⟩ := bnd1 h
            refine pt_X9_107 X hP hS hz4 dX9_trim_95 (fun H locs hP hS => ?_)
            rw [Option.some.inj e22] at hP
            refine lv_goto (pc := 98) (tgt := 107) hx hb dX9_trim_98 (by decide) ?_
            refine lv_iload (pc := 107) hx hb dX9_trim_107 (lv_at hl 0 rfl) ?_
            obtain ⟨rfl, rfl⟩ := inj2 h
            exact r_iret X hP hS dX9_trim_109
        · have h := ipos c17 h
          refine lv_aload (pc := 73) hx hb dX9_trim_73 (lv_at hl 4 rfl) ?_
          refine gt_X9_107 X hP hz4 dX9_trim_75 ?_
          refine lv_goto (pc := 78) (tgt := 86) hx hb dX9_trim_78 (by decide) ?_
          refine lv_istore (pc := 86) (lv' := [(5, .int (gI σ11 k4z 0)), (0, .ref (ga G k0z)), (1, .int v1), (2, .int v2), (3, .int v3), (4, .ref (ga G k4z))]) hx hb dX9_trim_86 hl (by decide) rfl (fun ls hl => ?_)
          refine lv_iload_n (pc := 88) hx hb dX9_trim_88 rfl (lv_at hl 3 rfl) ?_
          refine lv_if_ne (pc := 89) (tgt := 101) hx hb dX9_trim_89 (by decide) (fun c23 => ?_) (fun c23 => ?_)
          · have h := ineg c23 h
            refine lv_aload (pc := 101) hx hb dX9_trim_101 (lv_at hl 5 rfl) ?_
            refine lv_iload_n (pc := 103) hx hb dX9_trim_103 rfl (lv_at hl 4 rfl) ?_
            obtain ⟨σ24, e25, h⟩ := bnd1 h
            refine pt_X9_112 X hP hS hz4 dX9_trim_104 (fun H locs hP hS => ?_)
            rw [Option.some.inj e25] at hP
            refine lv_iload (pc := 107) hx hb dX9_trim_107 (lv_at hl 0 rfl) ?_
            obtain ⟨rfl, rfl⟩ := inj2 h
            exact r_iret X hP hS dX9_trim_109
          · have h := ipos c23 h
            refine lv_aload (pc := 92) hx hb dX9_trim_92 (lv_at hl 5 rfl) ?_
            refine lv_iload_n (pc := 94) hx hb dX9_trim_94 rfl (lv_at hl 4 rfl) ?_
            obtain ⟨σ26, e27, h⟩ := bnd1 h
            refine pt_X9_107 X hP hS hz4 dX9_trim_95 (fun H locs hP hS => ?_)
            rw [Option.some.inj e27] at hP
            refine lv_goto (pc := 98) (tgt := 107) hx hb dX9_trim_98 (by decide) ?_
            refine lv_iload (pc := 107) hx hb dX9_trim_107 (lv_at hl 0 rfl) ?_
            obtain ⟨rfl, rfl⟩ := inj2 h
            exact r_iret X hP hS dX9_trim_109
      · have h := ipos c16 h
        refine lv_bipush (pc := 66) (v := (-4)) hx hb dX9_trim_66 (by decide) ?_
        obtain ⟨rfl, rfl⟩ := inj2 h
        exact r_iret X hP hS dX9_trim_68
  · have h := ipos c14 h
    refine lv_iconst (pc := 45) (v := (-1)) hx hb dX9_trim_45 (by decide) ?_
    obtain ⟨rfl, rfl⟩ := inj2 h
    exact r_iret X hP hS dX9_trim_46
set_option maxHeartbeats 4000000 in
set_option maxRecDepth 100000 in
theorem w_X9_trim_39x1 {l : Launch} {G : Gh} {p : Program} {e : Env} {s : State} {m : MethodId} {args : Array Value} {below : List Frame} {meth : Method} {c : Code} (X : Cx G p s m args meth c prog_1_method_6_code RX9 6 (some .int)) {k0z : Nat} {k4z : Nat} (hz0 : kd k0z = 9) (hz4 : kd k4z = 3) {rr : Int32} {σr : Mem} : ∀ (v1 : Int32) (v2 : Int32) (v3 : Int32) (w2 : Int32) (σ : Mem) (H : Heap) (locs : List Loc) (ls : Array Slot), PW G σ H → va_S (AA G) s.heap H locs → lv_has ls 6 [(0, .ref (ga G k0z)), (1, .int v1), (2, .int v2), (3, .int v3), (4, .ref (ga G k4z))] → F_X9_trim_39x1 k0z k4z v1 v2 v3 w2 σ = some (rr, σr) → W p l e RM_X9_trim s m args below meth c H locs 0 0 (MQ below (QG G (some (.int rr)) σr) args s 0 0 (AA G)) (F0 m 39 ls [.int (60 : Int32), .int (1 : Int32), .int w2]) := by
  have hx := X.hx
  have hb := X.hb
  intro v1 v2 v3 w2 σ H locs ls hP hS hl h
  unfold F_X9_trim_39x1 at h
  obtain ⟨r30, σ28, e29, h⟩ := bnd2 h
  refine cl_X9_71 X hP hS (As := [.int w2, .int (1 : Int32), .int (60 : Int32)]) (rest := []) (c_X9_within l G  e29) ⟨rfl, rfl, Nat.le_of_ble_eq_true rfl, Nat.le_of_ble_eq_true rfl⟩ rfl hl.1 rfl (Nat.le_of_ble_eq_true rfl) ⟨Nat.zero_le _, Nat.zero_le _⟩ (pc := 39) dX9_trim_39 (fun H locs hP hS => ?_)
  change W p l e _ s m _ below meth c H locs _ _ _ (F0 m (39 + 3) ls (.int r30 :: []))
  refine lv_if_ne (pc := 42) (tgt := 47) hx hb dX9_trim_42 (by decide) (fun c31 => ?_) (fun c31 => ?_)
  · have h := ineg c31 h
    refine lv_aload (pc := 47) hx hb dX9_trim_47 (lv_at hl 4 rfl) ?_
    refine gt_X9_115 X hP hz4 dX9_trim_49 ?_
    refine lv_if_ne (pc := 52) (tgt := 66) hx hb dX9_trim_52 (by decide) (fun c32 => ?_) (fun c32 => ?_)
    · have h := ineg c32 h
      refine lv_bipush (pc := 66) (v := (-4)) hx hb dX9_trim_66 (by decide) ?_
      obtain ⟨rfl, rfl⟩ := inj2 h
      exact r_iret X hP hS dX9_trim_68
    · have h := ipos c32 h
      refine lv_aload_n (pc := 55) hx hb dX9_trim_55 rfl (lv_at hl 0 rfl) ?_
      refine gt_X9_12 X hP hz0 dX9_trim_56 ?_
      refine gt_X9_124 X hP (kf_9_hall hz0).1 dX9_trim_59 ?_
      refine lv_iload_n (pc := 62) hx hb dX9_trim_62 rfl (lv_at hl 1 rfl) ?_
      refine lv_icmp_ne (pc := 63) (tgt := 69) hx hb dX9_trim_63 (by decide) (fun c33 => ?_) (fun c33 => ?_)
      · have h := ineg c33 h
        refine lv_iload_n (pc := 69) hx hb dX9_trim_69 rfl (lv_at hl 2 rfl) ?_
        refine lv_if_ne (pc := 70) (tgt := 81) hx hb dX9_trim_70 (by decide) (fun c34 => ?_) (fun c34 => ?_)
        · have h := ineg c34 h
          refine lv_aload (pc := 81) hx hb dX9_trim_81 (lv_at hl 4 rfl) ?_
          refine gt_X9_112 X hP hz4 dX9_trim_83 ?_
          refine lv_istore (pc := 86) (lv' := [(5, .int (gI σ28 k4z 1)), (0, .ref (ga G k0z)), (1, .int v1), (2, .int v2), (3, .int v3), (4, .ref (ga G k4z))]) hx hb dX9_trim_86 hl (by decide) rfl (fun ls hl => ?_)
          refine lv_iload_n (pc := 88) hx hb dX9_trim_88 rfl (lv_at hl 3 rfl) ?_
          refine lv_if_ne (pc := 89) (tgt := 101) hx hb dX9_trim_89 (by decide) (fun c35 => ?_) (fun c35 => ?_)
          · have h := ineg c35 h
            refine lv_aload (pc := 101) hx hb dX9_trim_101 (lv_at hl 5 rfl) ?_
            refine lv_iload_n (pc := 103) hx hb dX9_trim_103 rfl (lv_at hl 4 rfl) ?_
            obtain ⟨σ36, e37, h⟩ := bnd1 h
            refine pt_X9_112 X hP hS hz4 dX9_trim_104 (fun H locs hP hS => ?_)
            rw [Option.some.inj e37] at hP
            refine lv_iload (pc := 107) hx hb dX9_trim_107 (lv_at hl 0 rfl) ?_
            obtain ⟨rfl, rfl⟩ := inj2 h
            exact r_iret X hP hS dX9_trim_109
          · have h := ipos c35 h
            refine lv_aload (pc := 92) hx hb dX9_trim_92 (lv_at hl 5 rfl) ?_
            refine lv_iload_n (pc := 94) hx hb dX9_trim_94 rfl (lv_at hl 4 rfl) ?_
            obtain ⟨σ38, e39, h⟩ := bnd1 h
            refine pt_X9_107 X hP hS hz4 dX9_trim_95 (fun H locs hP hS => ?_)
            rw [Option.some.inj e39] at hP
            refine lv_goto (pc := 98) (tgt := 107) hx hb dX9_trim_98 (by decide) ?_
            refine lv_iload (pc := 107) hx hb dX9_trim_107 (lv_at hl 0 rfl) ?_
            obtain ⟨rfl, rfl⟩ := inj2 h
            exact r_iret X hP hS dX9_trim_109
        · have h := ipos c34 h
          refine lv_aload (pc := 73) hx hb dX9_trim_73 (lv_at hl 4 rfl) ?_
          refine gt_X9_107 X hP hz4 dX9_trim_75 ?_
          refine lv_goto (pc := 78) (tgt := 86) hx hb dX9_trim_78 (by decide) ?_
          refine lv_istore (pc := 86) (lv' := [(5, .int (gI σ28 k4z 0)), (0, .ref (ga G k0z)), (1, .int v1), (2, .int v2), (3, .int v3), (4, .ref (ga G k4z))]) hx hb dX9_trim_86 hl (by decide) rfl (fun ls hl => ?_)
          refine lv_iload_n (pc := 88) hx hb dX9_trim_88 rfl (lv_at hl 3 rfl) ?_
          refine lv_if_ne (pc := 89) (tgt := 101) hx hb dX9_trim_89 (by decide) (fun c40 => ?_) (fun c40 => ?_)
          · have h := ineg c40 h
            refine lv_aload (pc := 101) hx hb dX9_trim_101 (lv_at hl 5 rfl) ?_
            refine lv_iload_n (pc := 103) hx hb dX9_trim_103 rfl (lv_at hl 4 rfl) ?_
            obtain ⟨σ41, e42, h⟩ := bnd1 h
            refine pt_X9_112 X hP hS hz4 dX9_trim_104 (fun H locs hP hS => ?_)
            rw [Option.some.inj e42] at hP
            refine lv_iload (pc := 107) hx hb dX9_trim_107 (lv_at hl 0 rfl) ?_
            obtain ⟨rfl, rfl⟩ := inj2 h
            exact r_iret X hP hS dX9_trim_109
          · have h := ipos c40 h
            refine lv_aload (pc := 92) hx hb dX9_trim_92 (lv_at hl 5 rfl) ?_
            refine lv_iload_n (pc := 94) hx hb dX9_trim_94 rfl (lv_at hl 4 rfl) ?_
            obtain ⟨σ43, e44, h⟩ := bnd1 h
            refine pt_X9_107 X hP hS hz4 dX9_trim_95 (fun H locs hP hS => ?_)
            rw [Option.some.inj e44] at hP
            refine lv_goto (pc := 98) (tgt := 107) hx hb dX9_trim_98 (by decide) ?_
            refine lv_iload (pc := 107) hx hb dX9_trim_107 (lv_at hl 0 rfl) ?_
            obtain ⟨rfl, rfl⟩ := inj2 h
            exact r_iret X hP hS dX9_trim_109
      · have h := ipos c33 h
        refine lv_bipush (pc := 66) (v := (-4)) hx hb dX9_trim_66 (by decide) ?_
        obtain ⟨rfl, rfl⟩ := inj2 h
        exact r_iret X hP hS dX9_trim_68
  · have h := ipos c31 h
    refine lv_iconst (pc := 45) (v := (-1)) hx hb dX9_trim_45 (by decide) ?_
    obtain ⟨rfl, rfl⟩ := inj2 h
    exact r_iret X hP hS dX9_trim_46
set_option maxHeartbeats 4000000 in
set_option maxRecDepth 100000 in
theorem c_X9_trim (l : Launch) (G : Gh) {k0 : Nat} {a1 : Int32} {a2 : Int32} {a3 : Int32} {σ : Mem} {rr : Int32} {σr : Mem} (hk0 : kd k0 = 9) (h : f_X9_trim k0 a1 a2 a3 σ = some (rr, σr)) : Met l yX9_trim [Cond.code yX9_trim prog_1_method_6_code 6 (some .int)] RM_X9_trim (va_Pc [.ref (ga G k0), .int a1, .int a2, .int a3] (Pre G σ)) (QG G (some (.int rr)) σr) 0 0 (AA G) := by
  refine ct_of (by decide) (fun p e s m below meth c X hP => ?_)
  have hx := X.hx
  have hb := X.hb
  have hS : va_S (AA G) s.heap s.heap [] := va_S.rf
  have hl := lv_entry ([.ref (ga G k0), .int a1, .int a2, .int a3]) (n := 6) (Nat.le_of_ble_eq_true rfl)
  rw [lg_entry_eq]
  generalize (lg_sl ([.ref (ga G k0), .int a1, .int a2, .int a3]) ++ List.replicate (6 - (lg_sl ([.ref (ga G k0), .int a1, .int a2, .int a3])).length) Slot.unset).toArray = ls at hl ⊢
  have hl : lv_has ls 6 [(0, .ref (ga G k0)), (1, .int a1), (2, .int a2), (3, .int a3)] := hl
  unfold f_X9_trim at h
  refine lv_aload_n (pc := 0) hx hb dX9_trim_0 rfl (lv_at hl 0 rfl) ?_
  refine gt_X9_12 X hP hk0 dX9_trim_1 ?_
  refine lv_iload_n (pc := 4) hx hb dX9_trim_4 rfl (lv_at hl 1 rfl) ?_
  obtain ⟨r3, σ1, e2, h⟩ := bnd2 h
  rcases r3 with _ | q4
  · have h := onr_n h
    refine cl_X9_103 X hP hS (kf_9_hall hk0).1 (As := [.int a1]) (rest := []) (c_X2_lotAt l G (kf_9_hall hk0).1 e2) ⟨rfl, rfl, Nat.le_of_ble_eq_true rfl, Nat.le_of_ble_eq_true rfl⟩ rfl hl.1 rfl (Nat.le_of_ble_eq_true rfl) ⟨Nat.zero_le _, Nat.zero_le _⟩ (pc := 5) dX9_trim_5 (fun H locs hP hS => ?_)
    change W p l e _ s m _ below meth c H locs _ _ _ (F0 m (5 + 3) ls (.null :: []))
    refine lv_astoreN (pc := 8) (lv' := [(4, .null), (0, .ref (ga G k0)), (1, .int a1), (2, .int a2), (3, .int a3)]) hx hb dX9_trim_8 hl (by decide) rfl (fun ls hl => ?_)
    refine lv_aloadN (pc := 10) hx hb dX9_trim_10 (lv_at hl 0 rfl) ?_
    refine lv_ifnullN (pc := 12) (tgt := 24) hx hb dX9_trim_12 (by decide) ?_
    refine lv_iconst (pc := 24) (v := (-1)) hx hb dX9_trim_24 (by decide) ?_
    obtain ⟨rfl, rfl⟩ := inj2 h
    exact r_iret X hP hS dX9_trim_25
  · have h := onr_s h
    obtain ⟨hq5, h⟩ := grd_inv h
    refine cl_X9_103 X hP hS (kf_9_hall hk0).1 (As := [.int a1]) (rest := []) (c_X2_lotAt l G (kf_9_hall hk0).1 e2) ⟨rfl, rfl, Nat.le_of_ble_eq_true rfl, Nat.le_of_ble_eq_true rfl⟩ rfl hl.1 rfl (Nat.le_of_ble_eq_true rfl) ⟨Nat.zero_le _, Nat.zero_le _⟩ (pc := 5) dX9_trim_5 (fun H locs hP hS => ?_)
    change W p l e _ s m _ below meth c H locs _ _ _ (F0 m (5 + 3) ls (.ref (ga G q4) :: []))
    refine lv_astore (pc := 8) (lv' := [(4, .ref (ga G q4)), (0, .ref (ga G k0)), (1, .int a1), (2, .int a2), (3, .int a3)]) hx hb dX9_trim_8 hl (by decide) rfl (fun ls hl => ?_)
    refine lv_aload (pc := 10) hx hb dX9_trim_10 (lv_at hl 0 rfl) ?_
    refine lv_ifnull (pc := 12) hx hb dX9_trim_12 ?_
    refine lv_iload_n (pc := 15) hx hb dX9_trim_15 rfl (lv_at hl 3 rfl) ?_
    refine lv_iconst (pc := 16) (v := 0) hx hb dX9_trim_16 (by decide) ?_
    refine lv_iconst (pc := 17) (v := 1) hx hb dX9_trim_17 (by decide) ?_
    obtain ⟨r8, σ6, e7, h⟩ := bnd2 h
    refine cl_X9_71 X hP hS (As := [.int a2, .int (0 : Int32), .int (1 : Int32)]) (rest := []) (c_X9_within l G  e7) ⟨rfl, rfl, Nat.le_of_ble_eq_true rfl, Nat.le_of_ble_eq_true rfl⟩ rfl hl.1 rfl (Nat.le_of_ble_eq_true rfl) ⟨Nat.zero_le _, Nat.zero_le _⟩ (pc := 18) dX9_trim_18 (fun H locs hP hS => ?_)
    change W p l e _ s m _ below meth c H locs _ _ _ (F0 m (18 + 3) ls (.int r8 :: []))
    refine lv_if_ne (pc := 21) (tgt := 26) hx hb dX9_trim_21 (by decide) (fun c9 => ?_) (fun c9 => ?_)
    · have h := ineg c9 h
      refine lv_iload_n (pc := 26) hx hb dX9_trim_26 rfl (lv_at hl 4 rfl) ?_
      refine lv_iconst (pc := 27) (v := 1) hx hb dX9_trim_27 (by decide) ?_
      refine lv_iload_n (pc := 28) hx hb dX9_trim_28 rfl (lv_at hl 3 rfl) ?_
      refine lv_if_ne (pc := 29) (tgt := 37) hx hb dX9_trim_29 (by decide) (fun c10 => ?_) (fun c10 => ?_)
      · have h := ineg c10 h
        refine lv_bipush (pc := 37) (v := (99)) hx hb dX9_trim_37 (by decide) ?_
        exact w_X9_trim_39 X  hk0 hq5  _ _ _ _ _ _ _ _ hP hS (lv_sub hl [1, 2, 3, 4, 0] rfl) h
      · have h := ipos c10 h
        refine lv_bipush (pc := 32) (v := (60)) hx hb dX9_trim_32 (by decide) ?_
        refine lv_goto (pc := 34) (tgt := 39) hx hb dX9_trim_34 (by decide) ?_
        exact w_X9_trim_39x1 X  hk0 hq5  _ _ _ _ _ _ _ _ hP hS (lv_sub hl [1, 2, 3, 4, 0] rfl) h
    · have h := ipos c9 h
      refine lv_iconst (pc := 24) (v := (-1)) hx hb dX9_trim_24 (by decide) ?_
      obtain ⟨rfl, rfl⟩ := inj2 h
      exact r_iret X hP hS dX9_trim_25
def f_X9_draught (k0 : Nat) (a1 : Int32) (a2 : Int32) (σ : Mem) : Option (Int32 × Mem) :=
  bd2 (f_X9_within a1 (0 : Int32) (11 : Int32) σ) fun r3 σ1 =>
  if r3 = (0 : Int32) then
    some ((-1 : Int32), σ1)
  else
    bd2 (f_X9_within a2 (0 : Int32) (3 : Int32) σ1) fun r7 σ5 =>
    if r7 = (0 : Int32) then
      some ((-1 : Int32), σ5)
    else
      bd1 (ixo ((k0 + 1) + 3) a1) fun j9 =>
      bd1 (ixo ((k0 + 1) + 3) a1) fun j11 =>
      bd1 (some (pI σ5 ((k0 + 1) + 3) j11 a2)) fun σ13 =>
      some ((gI σ5 ((k0 + 1) + 3) j9), σ13)
abbrev RM_X9_draught : Room := { frames := 1, cells := 0, slots := 0, locals := 22 }
set_option maxHeartbeats 4000000 in
set_option maxRecDepth 100000 in
theorem c_X9_draught (l : Launch) (G : Gh) {k0 : Nat} {a1 : Int32} {a2 : Int32} {σ : Mem} {rr : Int32} {σr : Mem} (hk0 : kd k0 = 9) (h : f_X9_draught k0 a1 a2 σ = some (rr, σr)) : Met l yX9_draught [Cond.code yX9_draught prog_1_method_7_code 4 (some .int)] RM_X9_draught (va_Pc [.ref (ga G k0), .int a1, .int a2] (Pre G σ)) (QG G (some (.int rr)) σr) 0 0 (AA G) := by
  refine ct_of (by decide) (fun p e s m below meth c X hP => ?_)
  have hx := X.hx
  have hb := X.hb
  have hS : va_S (AA G) s.heap s.heap [] := va_S.rf
  have hl := lv_entry ([.ref (ga G k0), .int a1, .int a2]) (n := 4) (Nat.le_of_ble_eq_true rfl)
  rw [lg_entry_eq]
  generalize (lg_sl ([.ref (ga G k0), .int a1, .int a2]) ++ List.replicate (4 - (lg_sl ([.ref (ga G k0), .int a1, .int a2])).length) Slot.unset).toArray = ls at hl ⊢
  have hl : lv_has ls 4 [(0, .ref (ga G k0)), (1, .int a1), (2, .int a2)] := hl
  unfold f_X9_draught at h
  refine lv_iload_n (pc := 0) hx hb dX9_draught_0 rfl (lv_at hl 1 rfl) ?_
  refine lv_iconst (pc := 1) (v := 0) hx hb dX9_draught_1 (by decide) ?_
  refine lv_bipush (pc := 2) (v := (11)) hx hb dX9_draught_2 (by decide) ?_
  obtain ⟨r3, σ1, e2, h⟩ := bnd2 h
  refine cl_X9_71 X hP hS (As := [.int a1, .int (0 : Int32), .int (11 : Int32)]) (rest := []) (c_X9_within l G  e2) ⟨rfl, rfl, Nat.le_of_ble_eq_true rfl, Nat.le_of_ble_eq_true rfl⟩ rfl hl.1 rfl (Nat.le_of_ble_eq_true rfl) ⟨Nat.zero_le _, Nat.zero_le _⟩ (pc := 4) dX9_draught_4 (fun H locs hP hS => ?_)
  change W p l e _ s m _ below meth c H locs _ _ _ (F0 m (4 + 3) ls (.int r3 :: []))
  refine lv_if_eq (pc := 7) (tgt := 19) hx hb dX9_draught_7 (by decide) (fun c4 => ?_) (fun c4 => ?_)
  · have h := ipos c4 h
    refine lv_iconst (pc := 19) (v := (-1)) hx hb dX9_draught_19 (by decide) ?_
    obtain ⟨rfl, rfl⟩ := inj2 h
    exact r_iret X hP hS dX9_draught_20
  · have h := ineg c4 h
    refine lv_iload_n (pc := 10) hx hb dX9_draught_10 rfl (lv_at hl 2 rfl) ?_
    refine lv_iconst (pc := 11) (v := 0) hx hb dX9_draught_11 (by decide) ?_
    refine lv_iconst (pc := 12) (v := 3) hx hb dX9_draught_12 (by decide) ?_
    obtain ⟨r7, σ5, e6, h⟩ := bnd2 h
    refine cl_X9_71 X hP hS (As := [.int a2, .int (0 : Int32), .int (3 : Int32)]) (rest := []) (c_X9_within l G  e6) ⟨rfl, rfl, Nat.le_of_ble_eq_true rfl, Nat.le_of_ble_eq_true rfl⟩ rfl hl.1 rfl (Nat.le_of_ble_eq_true rfl) ⟨Nat.zero_le _, Nat.zero_le _⟩ (pc := 13) dX9_draught_13 (fun H locs hP hS => ?_)
    change W p l e _ s m _ below meth c H locs _ _ _ (F0 m (13 + 3) ls (.int r7 :: []))
    refine lv_if_ne (pc := 16) (tgt := 21) hx hb dX9_draught_16 (by decide) (fun c8 => ?_) (fun c8 => ?_)
    · have h := ineg c8 h
      refine lv_aload_n (pc := 21) hx hb dX9_draught_21 rfl (lv_at hl 0 rfl) ?_
      refine gt_X9_12 X hP hk0 dX9_draught_22 ?_
      refine gt_X9_127 X hP (kf_9_hall hk0).1 dX9_draught_25 ?_
      refine lv_iload_n (pc := 28) hx hb dX9_draught_28 rfl (lv_at hl 1 rfl) ?_
      obtain ⟨j9, hj10, h⟩ := bnd1 h
      refine r_iald (pc := 29) X hP (kf_2_draughts (kf_9_hall hk0).1).1 hj10 dX9_draught_29 ?_
      refine lv_istore_n (pc := 30) (lv' := [(3, .int (gI σ5 ((k0 + 1) + 3) j9)), (0, .ref (ga G k0)), (1, .int a1), (2, .int a2)]) hx hb dX9_draught_30 rfl hl (by decide) rfl (fun ls hl => ?_)
      refine lv_aload_n (pc := 31) hx hb dX9_draught_31 rfl (lv_at hl 1 rfl) ?_
      refine gt_X9_12 X hP hk0 dX9_draught_32 ?_
      refine gt_X9_127 X hP (kf_9_hall hk0).1 dX9_draught_35 ?_
      refine lv_iload_n (pc := 38) hx hb dX9_draught_38 rfl (lv_at hl 2 rfl) ?_
      refine lv_iload_n (pc := 39) hx hb dX9_draught_39 rfl (lv_at hl 3 rfl) ?_
      obtain ⟨j11, hj12, h⟩ := bnd1 h
      obtain ⟨σ13, e14, h⟩ := bnd1 h
      refine r_iast (pc := 40) X hP hS (kf_2_draughts (kf_9_hall hk0).1).1 hj12 dX9_draught_40 (fun H locs hP hS => ?_)
      rw [Option.some.inj e14] at hP
      refine lv_iload_n (pc := 41) hx hb dX9_draught_41 rfl (lv_at hl 0 rfl) ?_
      obtain ⟨rfl, rfl⟩ := inj2 h
      exact r_iret X hP hS dX9_draught_42
    · have h := ipos c8 h
      refine lv_iconst (pc := 19) (v := (-1)) hx hb dX9_draught_19 (by decide) ?_
      obtain ⟨rfl, rfl⟩ := inj2 h
      exact r_iret X hP hS dX9_draught_20
def f_X9_step (k0 : Nat) (a1 : Int32) (σ : Mem) : Option (Int32 × Mem) :=
  bd2 (f_X9_within a1 (1 : Int32) (20 : Int32) σ) fun r3 σ1 =>
  if r3 = (0 : Int32) then
    some ((-1 : Int32), σ1)
  else
    bd1 (some (pI σ1 (k0 + 1) 5 a1)) fun σ5 =>
    some ((gI σ1 (k0 + 1) 5), σ5)
abbrev RM_X9_step : Room := { frames := 1, cells := 0, slots := 0, locals := 22 }
set_option maxHeartbeats 4000000 in
set_option maxRecDepth 100000 in
theorem c_X9_step (l : Launch) (G : Gh) {k0 : Nat} {a1 : Int32} {σ : Mem} {rr : Int32} {σr : Mem} (hk0 : kd k0 = 9) (h : f_X9_step k0 a1 σ = some (rr, σr)) : Met l yX9_step [Cond.code yX9_step prog_1_method_8_code 3 (some .int)] RM_X9_step (va_Pc [.ref (ga G k0), .int a1] (Pre G σ)) (QG G (some (.int rr)) σr) 0 0 (AA G) := by
  refine ct_of (by decide) (fun p e s m below meth c X hP => ?_)
  have hx := X.hx
  have hb := X.hb
  have hS : va_S (AA G) s.heap s.heap [] := va_S.rf
  have hl := lv_entry ([.ref (ga G k0), .int a1]) (n := 3) (Nat.le_of_ble_eq_true rfl)
  rw [lg_entry_eq]
  generalize (lg_sl ([.ref (ga G k0), .int a1]) ++ List.replicate (3 - (lg_sl ([.ref (ga G k0), .int a1])).length) Slot.unset).toArray = ls at hl ⊢
  have hl : lv_has ls 3 [(0, .ref (ga G k0)), (1, .int a1)] := hl
  unfold f_X9_step at h
  refine lv_iload_n (pc := 0) hx hb dX9_step_0 rfl (lv_at hl 1 rfl) ?_
  refine lv_iconst (pc := 1) (v := 1) hx hb dX9_step_1 (by decide) ?_
  refine lv_bipush (pc := 2) (v := (20)) hx hb dX9_step_2 (by decide) ?_
  obtain ⟨r3, σ1, e2, h⟩ := bnd2 h
  refine cl_X9_71 X hP hS (As := [.int a1, .int (1 : Int32), .int (20 : Int32)]) (rest := []) (c_X9_within l G  e2) ⟨rfl, rfl, Nat.le_of_ble_eq_true rfl, Nat.le_of_ble_eq_true rfl⟩ rfl hl.1 rfl (Nat.le_of_ble_eq_true rfl) ⟨Nat.zero_le _, Nat.zero_le _⟩ (pc := 4) dX9_step_4 (fun H locs hP hS => ?_)
  change W p l e _ s m _ below meth c H locs _ _ _ (F0 m (4 + 3) ls (.int r3 :: []))
  refine lv_if_ne (pc := 7) (tgt := 12) hx hb dX9_step_7 (by decide) (fun c4 => ?_) (fun c4 => ?_)
  · have h := ineg c4 h
    refine lv_aload_n (pc := 12) hx hb dX9_step_12 rfl (lv_at hl 0 rfl) ?_
    refine gt_X9_12 X hP hk0 dX9_step_13 ?_
    refine gt_X9_131 X hP (kf_9_hall hk0).1 dX9_step_16 ?_
    refine lv_istore_n (pc := 19) (lv' := [(2, .int (gI σ1 (k0 + 1) 5)), (0, .ref (ga G k0)), (1, .int a1)]) hx hb dX9_step_19 rfl hl (by decide) rfl (fun ls hl => ?_)
    refine lv_aload_n (pc := 20) hx hb dX9_step_20 rfl (lv_at hl 1 rfl) ?_
    refine gt_X9_12 X hP hk0 dX9_step_21 ?_
    refine lv_iload_n (pc := 24) hx hb dX9_step_24 rfl (lv_at hl 2 rfl) ?_
    obtain ⟨σ5, e6, h⟩ := bnd1 h
    refine pt_X9_131 X hP hS (kf_9_hall hk0).1 dX9_step_25 (fun H locs hP hS => ?_)
    rw [Option.some.inj e6] at hP
    refine lv_iload_n (pc := 28) hx hb dX9_step_28 rfl (lv_at hl 0 rfl) ?_
    obtain ⟨rfl, rfl⟩ := inj2 h
    exact r_iret X hP hS dX9_step_29
  · have h := ipos c4 h
    refine lv_iconst (pc := 10) (v := (-1)) hx hb dX9_step_10 (by decide) ?_
    obtain ⟨rfl, rfl⟩ := inj2 h
    exact r_iret X hP hS dX9_step_11
def f_X9_bidder (k0 : Nat) (a1 : Int32) (a2 : Int32) (a3 : Int32) (a4 : Int32) (σ : Mem) : Option (Int32 × Mem) :=
  bd2 (f_X9_within a1 (0 : Int32) (5 : Int32) σ) fun r3 σ1 =>
  if r3 = (0 : Int32) then
    some ((-1 : Int32), σ1)
  else
    bd2 (f_X9_within a2 (0 : Int32) (9 : Int32) σ1) fun r7 σ5 =>
    if r7 = (0 : Int32) then
      some ((-1 : Int32), σ5)
    else
      bd2 (f_X9_within a3 (0 : Int32) (999 : Int32) σ5) fun r11 σ9 =>
      if r11 = (0 : Int32) then
        some ((-1 : Int32), σ9)
      else
        bd2 (f_X9_within a4 (0 : Int32) (9999 : Int32) σ9) fun r15 σ13 =>
        if r15 = (0 : Int32) then
          some ((-1 : Int32), σ13)
        else
          bd2 (f_X2_addBidder (k0 + 1) a1 a2 a3 a4 σ13) fun r19 σ17 =>
          some (r19, σ17)
abbrev RM_X9_bidder : Room := { frames := 2, cells := 0, slots := 0, locals := 48 }
set_option maxHeartbeats 4000000 in
set_option maxRecDepth 100000 in
theorem c_X9_bidder (l : Launch) (G : Gh) {k0 : Nat} {a1 : Int32} {a2 : Int32} {a3 : Int32} {a4 : Int32} {σ : Mem} {rr : Int32} {σr : Mem} (hk0 : kd k0 = 9) (h : f_X9_bidder k0 a1 a2 a3 a4 σ = some (rr, σr)) : Met l yX9_bidder [Cond.code yX9_bidder prog_1_method_9_code 5 (some .int)] RM_X9_bidder (va_Pc [.ref (ga G k0), .int a1, .int a2, .int a3, .int a4] (Pre G σ)) (QG G (some (.int rr)) σr) 0 0 (AA G) := by
  refine ct_of (by decide) (fun p e s m below meth c X hP => ?_)
  have hx := X.hx
  have hb := X.hb
  have hS : va_S (AA G) s.heap s.heap [] := va_S.rf
  have hl := lv_entry ([.ref (ga G k0), .int a1, .int a2, .int a3, .int a4]) (n := 5) (Nat.le_of_ble_eq_true rfl)
  rw [lg_entry_eq]
  generalize (lg_sl ([.ref (ga G k0), .int a1, .int a2, .int a3, .int a4]) ++ List.replicate (5 - (lg_sl ([.ref (ga G k0), .int a1, .int a2, .int a3, .int a4])).length) Slot.unset).toArray = ls at hl ⊢
  have hl : lv_has ls 5 [(0, .ref (ga G k0)), (1, .int a1), (2, .int a2), (3, .int a3), (4, .int a4)] := hl
  unfold f_X9_bidder at h
  refine lv_iload_n (pc := 0) hx hb dX9_bidder_0 rfl (lv_at hl 1 rfl) ?_
  refine lv_iconst (pc := 1) (v := 0) hx hb dX9_bidder_1 (by decide) ?_
  refine lv_iconst (pc := 2) (v := 5) hx hb dX9_bidder_2 (by decide) ?_
  obtain ⟨r3, σ1, e2, h⟩ := bnd2 h
  refine cl_X9_71 X hP hS (As := [.int a1, .int (0 : Int32), .int (5 : Int32)]) (rest := []) (c_X9_within l G  e2) ⟨rfl, rfl, Nat.le_of_ble_eq_true rfl, Nat.le_of_ble_eq_true rfl⟩ rfl hl.1 rfl (Nat.le_of_ble_eq_true rfl) ⟨Nat.zero_le _, Nat.zero_le _⟩ (pc := 3) dX9_bidder_3 (fun H locs hP hS => ?_)
  change W p l e _ s m _ below meth c H locs _ _ _ (F0 m (3 + 3) ls (.int r3 :: []))
  refine lv_if_eq (pc := 6) (tgt := 42) hx hb dX9_bidder_6 (by decide) (fun c4 => ?_) (fun c4 => ?_)
  · have h := ipos c4 h
    refine lv_iconst (pc := 42) (v := (-1)) hx hb dX9_bidder_42 (by decide) ?_
    obtain ⟨rfl, rfl⟩ := inj2 h
    exact r_iret X hP hS dX9_bidder_43
  · have h := ineg c4 h
    refine lv_iload_n (pc := 9) hx hb dX9_bidder_9 rfl (lv_at hl 2 rfl) ?_
    refine lv_iconst (pc := 10) (v := 0) hx hb dX9_bidder_10 (by decide) ?_
    refine lv_bipush (pc := 11) (v := (9)) hx hb dX9_bidder_11 (by decide) ?_
    obtain ⟨r7, σ5, e6, h⟩ := bnd2 h
    refine cl_X9_71 X hP hS (As := [.int a2, .int (0 : Int32), .int (9 : Int32)]) (rest := []) (c_X9_within l G  e6) ⟨rfl, rfl, Nat.le_of_ble_eq_true rfl, Nat.le_of_ble_eq_true rfl⟩ rfl hl.1 rfl (Nat.le_of_ble_eq_true rfl) ⟨Nat.zero_le _, Nat.zero_le _⟩ (pc := 13) dX9_bidder_13 (fun H locs hP hS => ?_)
    change W p l e _ s m _ below meth c H locs _ _ _ (F0 m (13 + 3) ls (.int r7 :: []))
    refine lv_if_eq (pc := 16) (tgt := 42) hx hb dX9_bidder_16 (by decide) (fun c8 => ?_) (fun c8 => ?_)
    · have h := ipos c8 h
      refine lv_iconst (pc := 42) (v := (-1)) hx hb dX9_bidder_42 (by decide) ?_
      obtain ⟨rfl, rfl⟩ := inj2 h
      exact r_iret X hP hS dX9_bidder_43
    · have h := ineg c8 h
      refine lv_iload_n (pc := 19) hx hb dX9_bidder_19 rfl (lv_at hl 3 rfl) ?_
      refine lv_iconst (pc := 20) (v := 0) hx hb dX9_bidder_20 (by decide) ?_
      refine lv_sipush (pc := 21) (v := (999)) hx hb dX9_bidder_21 (by decide) ?_
      obtain ⟨r11, σ9, e10, h⟩ := bnd2 h
      refine cl_X9_71 X hP hS (As := [.int a3, .int (0 : Int32), .int (999 : Int32)]) (rest := []) (c_X9_within l G  e10) ⟨rfl, rfl, Nat.le_of_ble_eq_true rfl, Nat.le_of_ble_eq_true rfl⟩ rfl hl.1 rfl (Nat.le_of_ble_eq_true rfl) ⟨Nat.zero_le _, Nat.zero_le _⟩ (pc := 24) dX9_bidder_24 (fun H locs hP hS => ?_)
      change W p l e _ s m _ below meth c H locs _ _ _ (F0 m (24 + 3) ls (.int r11 :: []))
      refine lv_if_eq (pc := 27) (tgt := 42) hx hb dX9_bidder_27 (by decide) (fun c12 => ?_) (fun c12 => ?_)
      · have h := ipos c12 h
        refine lv_iconst (pc := 42) (v := (-1)) hx hb dX9_bidder_42 (by decide) ?_
        obtain ⟨rfl, rfl⟩ := inj2 h
        exact r_iret X hP hS dX9_bidder_43
      · have h := ineg c12 h
        refine lv_iload (pc := 30) hx hb dX9_bidder_30 (lv_at hl 4 rfl) ?_
        refine lv_iconst (pc := 32) (v := 0) hx hb dX9_bidder_32 (by decide) ?_
        refine lv_sipush (pc := 33) (v := (9999)) hx hb dX9_bidder_33 (by decide) ?_
        obtain ⟨r15, σ13, e14, h⟩ := bnd2 h
        refine cl_X9_71 X hP hS (As := [.int a4, .int (0 : Int32), .int (9999 : Int32)]) (rest := []) (c_X9_within l G  e14) ⟨rfl, rfl, Nat.le_of_ble_eq_true rfl, Nat.le_of_ble_eq_true rfl⟩ rfl hl.1 rfl (Nat.le_of_ble_eq_true rfl) ⟨Nat.zero_le _, Nat.zero_le _⟩ (pc := 36) dX9_bidder_36 (fun H locs hP hS => ?_)
        change W p l e _ s m _ below meth c H locs _ _ _ (F0 m (36 + 3) ls (.int r15 :: []))
        refine lv_if_ne (pc := 39) (tgt := 44) hx hb dX9_bidder_39 (by decide) (fun c16 => ?_) (fun c16 => ?_)
        · have h := ineg c16 h
          refine lv_aload_n (pc := 44) hx hb dX9_bidder_44 rfl (lv_at hl 0 rfl) ?_
          refine gt_X9_12 X hP hk0 dX9_bidder_45 ?_
          refine lv_iload_n (pc := 48) hx hb dX9_bidder_48 rfl (lv_at hl 1 rfl) ?_
          refine lv_iload_n (pc := 49) hx hb dX9_bidder_49 rfl (lv_at hl 2 rfl) ?_
          refine lv_iload_n (pc := 50) hx hb dX9_bidder_50 rfl (lv_at hl 3 rfl) ?_
          refine lv_iload (pc := 51) hx hb dX9_bidder_51 (lv_at hl 4 rfl) ?_
          obtain ⟨r19, σ17, e18, h⟩ := bnd2 h
          refine cl_X9_134 X hP hS (kf_9_hall hk0).1 (As := [.int a1, .int a2, .int a3, .int a4]) (rest := []) (c_X2_addBidder l G (kf_9_hall hk0).1 e18) ⟨rfl, rfl, Nat.le_of_ble_eq_true rfl, Nat.le_of_ble_eq_true rfl⟩ rfl hl.1 rfl (Nat.le_of_ble_eq_true rfl) ⟨Nat.zero_le _, Nat.zero_le _⟩ (pc := 53) dX9_bidder_53 (fun H locs hP hS => ?_)
          change W p l e _ s m _ below meth c H locs _ _ _ (F0 m (53 + 3) ls (.int r19 :: []))
          obtain ⟨rfl, rfl⟩ := inj2 h
          exact r_iret X hP hS dX9_bidder_56
        · have h := ipos c16 h
          refine lv_iconst (pc := 42) (v := (-1)) hx hb dX9_bidder_42 (by decide) ?_
          obtain ⟨rfl, rfl⟩ := inj2 h
          exact r_iret X hP hS dX9_bidder_43
def f_X9_bidderOf (k0 : Nat) (a1 : Int32) (a2 : Int32) (σ : Mem) : Option (Int32 × Mem) :=
  bd2 (f_X2_bidderAt (k0 + 1) a1 σ) fun r3 σ1 =>
  onr r3 (
    some ((-1 : Int32), σ1)
    ) fun q4 => grd (kd q4 = 0) <|
    if a2 = (0 : Int32) then
      some ((gI σ1 q4 0), σ1)
    else
    if a2 = (1 : Int32) then
      some ((gI σ1 q4 1), σ1)
    else
    if a2 = (2 : Int32) then
      some ((gI σ1 q4 2), σ1)
    else
    if a2 = (3 : Int32) then
      some ((gI σ1 q4 3), σ1)
    else
    if a2 = (4 : Int32) then
      bd2 (f_X2_lotsSoldTo (k0 + 1) a1 σ1) fun r13 σ11 =>
      some (r13, σ11)
    else
    some ((-1 : Int32), σ1)
abbrev RM_X9_bidderOf : Room := { frames := 1, cells := 0, slots := 0, locals := 23 }
set_option maxHeartbeats 4000000 in
set_option maxRecDepth 100000 in
theorem c_X9_bidderOf (l : Launch) (G : Gh) {k0 : Nat} {a1 : Int32} {a2 : Int32} {σ : Mem} {rr : Int32} {σr : Mem} (hk0 : kd k0 = 9) (h : f_X9_bidderOf k0 a1 a2 σ = some (rr, σr)) : Met l yX9_bidderOf [Cond.code yX9_bidderOf prog_1_method_10_code 4 (some .int)] RM_X9_bidderOf (va_Pc [.ref (ga G k0), .int a1, .int a2] (Pre G σ)) (QG G (some (.int rr)) σr) 0 0 (AA G) := by
  refine ct_of (by decide) (fun p e s m below meth c X hP => ?_)
  have hx := X.hx
  have hb := X.hb
  have hS : va_S (AA G) s.heap s.heap [] := va_S.rf
  have hl := lv_entry ([.ref (ga G k0), .int a1, .int a2]) (n := 4) (Nat.le_of_ble_eq_true rfl)
  rw [lg_entry_eq]
  generalize (lg_sl ([.ref (ga G k0), .int a1, .int a2]) ++ List.replicate (4 - (lg_sl ([.ref (ga G k0), .int a1, .int a2])).length) Slot.unset).toArray = ls at hl ⊢
  have hl : lv_has ls 4 [(0, .ref (ga G k0)), (1, .int a1), (2, .int a2)] := hl
  unfold f_X9_bidderOf at h
  refine lv_aload_n (pc := 0) hx hb dX9_bidderOf_0 rfl (lv_at hl 0 rfl) ?_
  refine gt_X9_12 X hP hk0 dX9_bidderOf_1 ?_
  refine lv_iload_n (pc := 4) hx hb dX9_bidderOf_4 rfl (lv_at hl 1 rfl) ?_
  obtain ⟨r3, σ1, e2, h⟩ := bnd2 h
  rcases r3 with _ | q4
  · have h := onr_n h
    refine cl_X9_138 X hP hS (kf_9_hall hk0).1 (As := [.int a1]) (rest := []) (c_X2_bidderAt l G (kf_9_hall hk0).1 e2) ⟨rfl, rfl, Nat.le_of_ble_eq_true rfl, Nat.le_of_ble_eq_true rfl⟩ rfl hl.1 rfl (Nat.le_of_ble_eq_true rfl) ⟨Nat.zero_le _, Nat.zero_le _⟩ (pc := 5) dX9_bidderOf_5 (fun H locs hP hS => ?_)
    change W p l e _ s m _ below meth c H locs _ _ _ (F0 m (5 + 3) ls (.null :: []))
    refine lv_astore_nN (pc := 8) (lv' := [(3, .null), (0, .ref (ga G k0)), (1, .int a1), (2, .int a2)]) hx hb dX9_bidderOf_8 rfl hl (by decide) rfl (fun ls hl => ?_)
    refine lv_aload_nN (pc := 9) hx hb dX9_bidderOf_9 rfl (lv_at hl 0 rfl) ?_
    refine lv_ifnonnullN (pc := 10) hx hb dX9_bidderOf_10 ?_
    refine lv_iconst (pc := 13) (v := (-1)) hx hb dX9_bidderOf_13 (by decide) ?_
    obtain ⟨rfl, rfl⟩ := inj2 h
    exact r_iret X hP hS dX9_bidderOf_14
  · have h := onr_s h
    obtain ⟨hq5, h⟩ := grd_inv h
    refine cl_X9_138 X hP hS (kf_9_hall hk0).1 (As := [.int a1]) (rest := []) (c_X2_bidderAt l G (kf_9_hall hk0).1 e2) ⟨rfl, rfl, Nat.le_of_ble_eq_true rfl, Nat.le_of_ble_eq_true rfl⟩ rfl hl.1 rfl (Nat.le_of_ble_eq_true rfl) ⟨Nat.zero_le _, Nat.zero_le _⟩ (pc := 5) dX9_bidderOf_5 (fun H locs hP hS => ?_)
    change W p l e _ s m _ below meth c H locs _ _ _ (F0 m (5 + 3) ls (.ref (ga G q4) :: []))
    refine lv_astore_n (pc := 8) (lv' := [(3, .ref (ga G q4)), (0, .ref (ga G k0)), (1, .int a1), (2, .int a2)]) hx hb dX9_bidderOf_8 rfl hl (by decide) rfl (fun ls hl => ?_)
    refine lv_aload_n (pc := 9) hx hb dX9_bidderOf_9 rfl (lv_at hl 0 rfl) ?_
    refine lv_ifnonnull (pc := 10) (tgt := 15) hx hb dX9_bidderOf_10 (by decide) ?_
    refine lv_iload_n (pc := 15) hx hb dX9_bidderOf_15 rfl (lv_at hl 3 rfl) ?_
    by_cases c6 : a2 = (0 : Int32)
    · have h := ipos c6 h
      refine r_tabIn X (pc := 16) (tgt := 52) c6 dX9_bidderOf_16 (by decide) (by decide) rfl (by decide) ?_
      refine lv_aload_n (pc := 52) hx hb dX9_bidderOf_52 rfl (lv_at hl 0 rfl) ?_
      refine gt_X9_142 X hP hq5 dX9_bidderOf_53 ?_
      obtain ⟨rfl, rfl⟩ := inj2 h
      exact r_iret X hP hS dX9_bidderOf_56
    have h := ineg c6 h
    by_cases c7 : a2 = (1 : Int32)
    · have h := ipos c7 h
      refine r_tabIn X (pc := 16) (tgt := 57) c7 dX9_bidderOf_16 (by decide) (by decide) rfl (by decide) ?_
      refine lv_aload_n (pc := 57) hx hb dX9_bidderOf_57 rfl (lv_at hl 0 rfl) ?_
      refine gt_X9_147 X hP hq5 dX9_bidderOf_58 ?_
      obtain ⟨rfl, rfl⟩ := inj2 h
      exact r_iret X hP hS dX9_bidderOf_61
    have h := ineg c7 h
    by_cases c8 : a2 = (2 : Int32)
    · have h := ipos c8 h
      refine r_tabIn X (pc := 16) (tgt := 62) c8 dX9_bidderOf_16 (by decide) (by decide) rfl (by decide) ?_
      refine lv_aload_n (pc := 62) hx hb dX9_bidderOf_62 rfl (lv_at hl 0 rfl) ?_
      refine gt_X9_150 X hP hq5 dX9_bidderOf_63 ?_
      obtain ⟨rfl, rfl⟩ := inj2 h
      exact r_iret X hP hS dX9_bidderOf_66
    have h := ineg c8 h
    by_cases c9 : a2 = (3 : Int32)
    · have h := ipos c9 h
      refine r_tabIn X (pc := 16) (tgt := 67) c9 dX9_bidderOf_16 (by decide) (by decide) rfl (by decide) ?_
      refine lv_aload_n (pc := 67) hx hb dX9_bidderOf_67 rfl (lv_at hl 0 rfl) ?_
      refine gt_X9_153 X hP hq5 dX9_bidderOf_68 ?_
      obtain ⟨rfl, rfl⟩ := inj2 h
      exact r_iret X hP hS dX9_bidderOf_71
    have h := ineg c9 h
    by_cases c10 : a2 = (4 : Int32)
    · have h := ipos c10 h
      refine r_tabIn X (pc := 16) (tgt := 72) c10 dX9_bidderOf_16 (by decide) (by decide) rfl (by decide) ?_
      refine lv_aload_n (pc := 72) hx hb dX9_bidderOf_72 rfl (lv_at hl 1 rfl) ?_
      refine gt_X9_12 X hP hk0 dX9_bidderOf_73 ?_
      refine lv_iload_n (pc := 76) hx hb dX9_bidderOf_76 rfl (lv_at hl 2 rfl) ?_
      obtain ⟨r13, σ11, e12, h⟩ := bnd2 h
      refine cl_X9_156 X hP hS (kf_9_hall hk0).1 (As := [.int a1]) (rest := []) (c_X2_lotsSoldTo l G (kf_9_hall hk0).1 e12) ⟨rfl, rfl, Nat.le_of_ble_eq_true rfl, Nat.le_of_ble_eq_true rfl⟩ rfl hl.1 rfl (Nat.le_of_ble_eq_true rfl) ⟨Nat.zero_le _, Nat.zero_le _⟩ (pc := 77) dX9_bidderOf_77 (fun H locs hP hS => ?_)
      change W p l e _ s m _ below meth c H locs _ _ _ (F0 m (77 + 3) ls (.int r13 :: []))
      obtain ⟨rfl, rfl⟩ := inj2 h
      exact r_iret X hP hS dX9_bidderOf_80
    have h := ineg c10 h
    refine lv_tableOut (pc := 16) (tgt := 81) hx hb dX9_bidderOf_16 (by have := lv_neT c6 (a := 0) (by decide); have := lv_neT c7 (a := 1) (by decide); have := lv_neT c8 (a := 2) (by decide); have := lv_neT c9 (a := 3) (by decide); have := lv_neT c10 (a := 4) (by decide); omega) (by decide) ?_
    refine lv_iconst (pc := 81) (v := (-1)) hx hb dX9_bidderOf_81 (by decide) ?_
    obtain ⟨rfl, rfl⟩ := inj2 h
    exact r_iret X hP hS dX9_bidderOf_82
def f_X9_mind (k0 : Nat) (a1 : Int32) (a2 : Int32) (a3 : Int32) (σ : Mem) : Option (Int32 × Mem) :=
  bd2 (f_X2_bidderAt (k0 + 1) a1 σ) fun r3 σ1 =>
  onr r3 (
    some ((-1 : Int32), σ1)
    ) fun q4 => grd (kd q4 = 0) <|
    bd2 (f_X9_within a2 (0 : Int32) (5 : Int32) σ1) fun r8 σ6 =>
    if r8 = (0 : Int32) then
      some ((-1 : Int32), σ6)
    else
      bd2 (f_X9_within a3 (0 : Int32) (9 : Int32) σ6) fun r12 σ10 =>
      if r12 = (0 : Int32) then
        some ((-1 : Int32), σ10)
      else
        bd1 (some (pI σ10 q4 0 a2)) fun σ14 =>
        bd1 (some (pI σ14 q4 1 a3)) fun σ16 =>
        some ((gI σ10 q4 0), σ16)
abbrev RM_X9_mind : Room := { frames := 1, cells := 0, slots := 0, locals := 22 }
set_option maxHeartbeats 4000000 in
set_option maxRecDepth 100000 in
theorem c_X9_mind (l : Launch) (G : Gh) {k0 : Nat} {a1 : Int32} {a2 : Int32} {a3 : Int32} {σ : Mem} {rr : Int32} {σr : Mem} (hk0 : kd k0 = 9) (h : f_X9_mind k0 a1 a2 a3 σ = some (rr, σr)) : Met l yX9_mind [Cond.code yX9_mind prog_1_method_11_code 6 (some .int)] RM_X9_mind (va_Pc [.ref (ga G k0), .int a1, .int a2, .int a3] (Pre G σ)) (QG G (some (.int rr)) σr) 0 0 (AA G) := by
  refine ct_of (by decide) (fun p e s m below meth c X hP => ?_)
  have hx := X.hx
  have hb := X.hb
  have hS : va_S (AA G) s.heap s.heap [] := va_S.rf
  have hl := lv_entry ([.ref (ga G k0), .int a1, .int a2, .int a3]) (n := 6) (Nat.le_of_ble_eq_true rfl)
  rw [lg_entry_eq]
  generalize (lg_sl ([.ref (ga G k0), .int a1, .int a2, .int a3]) ++ List.replicate (6 - (lg_sl ([.ref (ga G k0), .int a1, .int a2, .int a3])).length) Slot.unset).toArray = ls at hl ⊢
  have hl : lv_has ls 6 [(0, .ref (ga G k0)), (1, .int a1), (2, .int a2), (3, .int a3)] := hl
  unfold f_X9_mind at h
  refine lv_aload_n (pc := 0) hx hb dX9_mind_0 rfl (lv_at hl 0 rfl) ?_
  refine gt_X9_12 X hP hk0 dX9_mind_1 ?_
  refine lv_iload_n (pc := 4) hx hb dX9_mind_4 rfl (lv_at hl 1 rfl) ?_
  obtain ⟨r3, σ1, e2, h⟩ := bnd2 h
  rcases r3 with _ | q4
  · have h := onr_n h
    refine cl_X9_138 X hP hS (kf_9_hall hk0).1 (As := [.int a1]) (rest := []) (c_X2_bidderAt l G (kf_9_hall hk0).1 e2) ⟨rfl, rfl, Nat.le_of_ble_eq_true rfl, Nat.le_of_ble_eq_true rfl⟩ rfl hl.1 rfl (Nat.le_of_ble_eq_true rfl) ⟨Nat.zero_le _, Nat.zero_le _⟩ (pc := 5) dX9_mind_5 (fun H locs hP hS => ?_)
    change W p l e _ s m _ below meth c H locs _ _ _ (F0 m (5 + 3) ls (.null :: []))
    refine lv_astoreN (pc := 8) (lv' := [(4, .null), (0, .ref (ga G k0)), (1, .int a1), (2, .int a2), (3, .int a3)]) hx hb dX9_mind_8 hl (by decide) rfl (fun ls hl => ?_)
    refine lv_aloadN (pc := 10) hx hb dX9_mind_10 (lv_at hl 0 rfl) ?_
    refine lv_ifnullN (pc := 12) (tgt := 34) hx hb dX9_mind_12 (by decide) ?_
    refine lv_iconst (pc := 34) (v := (-1)) hx hb dX9_mind_34 (by decide) ?_
    obtain ⟨rfl, rfl⟩ := inj2 h
    exact r_iret X hP hS dX9_mind_35
  · have h := onr_s h
    obtain ⟨hq5, h⟩ := grd_inv h
    refine cl_X9_138 X hP hS (kf_9_hall hk0).1 (As := [.int a1]) (rest := []) (c_X2_bidderAt l G (kf_9_hall hk0).1 e2) ⟨rfl, rfl, Nat.le_of_ble_eq_true rfl, Nat.le_of_ble_eq_true rfl⟩ rfl hl.1 rfl (Nat.le_of_ble_eq_true rfl) ⟨Nat.zero_le _, Nat.zero_le _⟩ (pc := 5) dX9_mind_5 (fun H locs hP hS => ?_)
    change W p l e _ s m _ below meth c H locs _ _ _ (F0 m (5 + 3) ls (.ref (ga G q4) :: []))
    refine lv_astore (pc := 8) (lv' := [(4, .ref (ga G q4)), (0, .ref (ga G k0)), (1, .int a1), (2, .int a2), (3, .int a3)]) hx hb dX9_mind_8 hl (by decide) rfl (fun ls hl => ?_)
    refine lv_aload (pc := 10) hx hb dX9_mind_10 (lv_at hl 0 rfl) ?_
    refine lv_ifnull (pc := 12) hx hb dX9_mind_12 ?_
    refine lv_iload_n (pc := 15) hx hb dX9_mind_15 rfl (lv_at hl 3 rfl) ?_
    refine lv_iconst (pc := 16) (v := 0) hx hb dX9_mind_16 (by decide) ?_
    refine lv_iconst (pc := 17) (v := 5) hx hb dX9_mind_17 (by decide) ?_
    obtain ⟨r8, σ6, e7, h⟩ := bnd2 h
    refine cl_X9_71 X hP hS (As := [.int a2, .int (0 : Int32), .int (5 : Int32)]) (rest := []) (c_X9_within l G  e7) ⟨rfl, rfl, Nat.le_of_ble_eq_true rfl, Nat.le_of_ble_eq_true rfl⟩ rfl hl.1 rfl (Nat.le_of_ble_eq_true rfl) ⟨Nat.zero_le _, Nat.zero_le _⟩ (pc := 18) dX9_mind_18 (fun H locs hP hS => ?_)
    change W p l e _ s m _ below meth c H locs _ _ _ (F0 m (18 + 3) ls (.int r8 :: []))
    refine lv_if_eq (pc := 21) (tgt := 34) hx hb dX9_mind_21 (by decide) (fun c9 => ?_) (fun c9 => ?_)
    · have h := ipos c9 h
      refine lv_iconst (pc := 34) (v := (-1)) hx hb dX9_mind_34 (by decide) ?_
      obtain ⟨rfl, rfl⟩ := inj2 h
      exact r_iret X hP hS dX9_mind_35
    · have h := ineg c9 h
      refine lv_iload_n (pc := 24) hx hb dX9_mind_24 rfl (lv_at hl 4 rfl) ?_
      refine lv_iconst (pc := 25) (v := 0) hx hb dX9_mind_25 (by decide) ?_
      refine lv_bipush (pc := 26) (v := (9)) hx hb dX9_mind_26 (by decide) ?_
      obtain ⟨r12, σ10, e11, h⟩ := bnd2 h
      refine cl_X9_71 X hP hS (As := [.int a3, .int (0 : Int32), .int (9 : Int32)]) (rest := []) (c_X9_within l G  e11) ⟨rfl, rfl, Nat.le_of_ble_eq_true rfl, Nat.le_of_ble_eq_true rfl⟩ rfl hl.1 rfl (Nat.le_of_ble_eq_true rfl) ⟨Nat.zero_le _, Nat.zero_le _⟩ (pc := 28) dX9_mind_28 (fun H locs hP hS => ?_)
      change W p l e _ s m _ below meth c H locs _ _ _ (F0 m (28 + 3) ls (.int r12 :: []))
      refine lv_if_ne (pc := 31) (tgt := 36) hx hb dX9_mind_31 (by decide) (fun c13 => ?_) (fun c13 => ?_)
      · have h := ineg c13 h
        refine lv_aload (pc := 36) hx hb dX9_mind_36 (lv_at hl 0 rfl) ?_
        refine gt_X9_142 X hP hq5 dX9_mind_38 ?_
        refine lv_istore (pc := 41) (lv' := [(5, .int (gI σ10 q4 0)), (4, .ref (ga G q4)), (0, .ref (ga G k0)), (1, .int a1), (2, .int a2), (3, .int a3)]) hx hb dX9_mind_41 hl (by decide) rfl (fun ls hl => ?_)
        refine lv_aload (pc := 43) hx hb dX9_mind_43 (lv_at hl 1 rfl) ?_
        refine lv_iload_n (pc := 45) hx hb dX9_mind_45 rfl (lv_at hl 4 rfl) ?_
        obtain ⟨σ14, e15, h⟩ := bnd1 h
        refine pt_X9_142 X hP hS hq5 dX9_mind_46 (fun H locs hP hS => ?_)
        rw [Option.some.inj e15] at hP
        refine lv_aload (pc := 49) hx hb dX9_mind_49 (lv_at hl 1 rfl) ?_
        refine lv_iload_n (pc := 51) hx hb dX9_mind_51 rfl (lv_at hl 5 rfl) ?_
        obtain ⟨σ16, e17, h⟩ := bnd1 h
        refine pt_X9_147 X hP hS hq5 dX9_mind_52 (fun H locs hP hS => ?_)
        rw [Option.some.inj e17] at hP
        refine lv_iload (pc := 55) hx hb dX9_mind_55 (lv_at hl 0 rfl) ?_
        obtain ⟨rfl, rfl⟩ := inj2 h
        exact r_iret X hP hS dX9_mind_57
      · have h := ipos c13 h
        refine lv_iconst (pc := 34) (v := (-1)) hx hb dX9_mind_34 (by decide) ?_
        obtain ⟨rfl, rfl⟩ := inj2 h
        exact r_iret X hP hS dX9_mind_35
def F_X9_purse_41 (k4z : Nat) (v2 : Int32) (v3 : Int32) (w2 : Int32) (σ : Mem) : Option (Int32 × Mem) :=
  bd2 (f_X9_within w2 (0 : Int32) (9999 : Int32) σ) fun r13 σ11 =>
  if r13 = (0 : Int32) then
    some ((-1 : Int32), σ11)
  else
    if v2 = (0 : Int32) then
      if v2 = (0 : Int32) then
        bd1 (some (pI σ11 k4z 2 v3)) fun σ24 =>
        some ((gI σ11 k4z 2), σ24)
      else
        bd1 (some (pI σ11 k4z 3 v3)) fun σ22 =>
        some ((gI σ11 k4z 2), σ22)
    else
      if v2 = (0 : Int32) then
        bd1 (some (pI σ11 k4z 2 v3)) fun σ19 =>
        some ((gI σ11 k4z 3), σ19)
      else
        bd1 (some (pI σ11 k4z 3 v3)) fun σ17 =>
        some ((gI σ11 k4z 3), σ17)
def F_X9_purse_41x1 (k4z : Nat) (v2 : Int32) (v3 : Int32) (w2 : Int32) (σ : Mem) : Option (Int32 × Mem) :=
  bd2 (f_X9_within w2 (0 : Int32) (999 : Int32) σ) fun r28 σ26 =>
  if r28 = (0 : Int32) then
    some ((-1 : Int32), σ26)
  else
    if v2 = (0 : Int32) then
      if v2 = (0 : Int32) then
        bd1 (some (pI σ26 k4z 2 v3)) fun σ39 =>
        some ((gI σ26 k4z 2), σ39)
      else
        bd1 (some (pI σ26 k4z 3 v3)) fun σ37 =>
        some ((gI σ26 k4z 2), σ37)
    else
      if v2 = (0 : Int32) then
        bd1 (some (pI σ26 k4z 2 v3)) fun σ34 =>
        some ((gI σ26 k4z 3), σ34)
      else
        bd1 (some (pI σ26 k4z 3 v3)) fun σ32 =>
        some ((gI σ26 k4z 3), σ32)
def f_X9_purse (k0 : Nat) (a1 : Int32) (a2 : Int32) (a3 : Int32) (σ : Mem) : Option (Int32 × Mem) :=
  bd2 (f_X2_bidderAt (k0 + 1) a1 σ) fun r3 σ1 =>
  onr r3 (
    some ((-1 : Int32), σ1)
    ) fun q4 => grd (kd q4 = 0) <|
    bd2 (f_X9_within a2 (0 : Int32) (1 : Int32) σ1) fun r8 σ6 =>
    if r8 = (0 : Int32) then
      some ((-1 : Int32), σ6)
    else
      if a2 = (0 : Int32) then
        F_X9_purse_41x1 q4 a2 a3 a3 σ6
      else
        F_X9_purse_41 q4 a2 a3 a3 σ6
abbrev RM_X9_purse : Room := { frames := 1, cells := 0, slots := 0, locals := 22 }
set_option maxHeartbeats 4000000 in
set_option maxRecDepth 100000 in
theorem w_X9_purse_41 {l : Launch} {G : Gh} {p : Program} {e : Env} {s : State} {m : MethodId} {args : Array Value} {below : List Frame} {meth : Method} {c : Code} (X : Cx G p s m args meth c prog_1_method_12_code RX9 6 (some .int)) {k4z : Nat} (hz4 : kd k4z = 0) {rr : Int32} {σr : Mem} : ∀ (v2 : Int32) (v3 : Int32) (w2 : Int32) (σ : Mem) (H : Heap) (locs : List Loc) (ls : Array Slot), PW G σ H → va_S (AA G) s.heap H locs → lv_has ls 6 [(2, .int v2), (3, .int v3), (4, .ref (ga G k4z))] → F_X9_purse_41 k4z v2 v3 w2 σ = some (rr, σr) → W p l e RM_X9_purse s m args below meth c H locs 0 0 (MQ below (QG G (some (.int rr)) σr) args s 0 0 (AA G)) (F0 m 41 ls [.int (9999 : Int32), .int (0 : Int32), .int w2]) := by
  have hx := X.hx
  have hb := X.hb
  intro v2 v3 w2 σ H locs ls hP hS hl h
  unfold F_X9_purse_41 at h
  obtain ⟨r13, σ11, e12, h⟩ := bnd2 h
  refine cl_X9_71 X hP hS (As := [.int w2, .int (0 : Int32), .int (9999 : Int32)]) (rest := []) (c_X9_within l G  e12) ⟨rfl, rfl, Nat.le_of_ble_eq_true rfl, Nat.le_of_ble_eq_true rfl⟩ rfl hl.1 rfl (Nat.le_of_ble_eq_true rfl) ⟨Nat.zero_le _, Nat.zero_le _⟩ (pc := 41) dX9_purse_41 (fun H locs hP hS => ?_)
  change W p l e _ s m _ below meth c H locs _ _ _ (F0 m (41 + 3) ls (.int r13 :: []))
  refine lv_if_ne (pc := 44) (tgt := 49) hx hb dX9_purse_44 (by decide) (fun c14 => ?_) (fun c14 => ?_)
  · have h := ineg c14 h
    refine lv_iload_n (pc := 49) hx hb dX9_purse_49 rfl (lv_at hl 0 rfl) ?_
    refine lv_if_ne (pc := 50) (tgt := 61) hx hb dX9_purse_50 (by decide) (fun c15 => ?_) (fun c15 => ?_)
    · have h := ineg c15 h
      refine lv_aload (pc := 61) hx hb dX9_purse_61 (lv_at hl 2 rfl) ?_
      refine gt_X9_153 X hP hz4 dX9_purse_63 ?_
      refine lv_istore (pc := 66) (lv' := [(5, .int (gI σ11 k4z 3)), (2, .int v2), (3, .int v3), (4, .ref (ga G k4z))]) hx hb dX9_purse_66 hl (by decide) rfl (fun ls hl => ?_)
      refine lv_iload_n (pc := 68) hx hb dX9_purse_68 rfl (lv_at hl 1 rfl) ?_
      refine lv_if_ne (pc := 69) (tgt := 81) hx hb dX9_purse_69 (by decide) (fun c16 => ?_) (fun c16 => ?_)
      · have h := ineg c16 h
        refine lv_aload (pc := 81) hx hb dX9_purse_81 (lv_at hl 3 rfl) ?_
        refine lv_iload_n (pc := 83) hx hb dX9_purse_83 rfl (lv_at hl 2 rfl) ?_
        obtain ⟨σ17, e18, h⟩ := bnd1 h
        refine pt_X9_153 X hP hS hz4 dX9_purse_84 (fun H locs hP hS => ?_)
        rw [Option.some.inj e18] at hP
        refine lv_iload (pc := 87) hx hb dX9_purse_87 (lv_at hl 0 rfl) ?_
        obtain ⟨rfl, rfl⟩ := inj2 h
        exact r_iret X hP hS dX9_purse_89
      · have h := ipos c16 h
        refine lv_aload (pc := 72) hx hb dX9_purse_72 (lv_at hl 3 rfl) ?_
        refine lv_iload_n (pc := 74) hx hb dX9_purse_74 rfl (lv_at hl 2 rfl) ?_
        obtain ⟨σ19, e20, h⟩ := bnd1 h
        refine pt_X9_150 X hP hS hz4 dX9_purse_75 (fun H locs hP hS => ?_)
        rw [Option.some.inj e20] at hP
        refine lv_goto (pc := 78) (tgt := 87) hx hb dX9_purse_78 (by decide) ?_
        refine lv_iload (pc := 87) hx hb dX9_purse_87 (lv_at hl 0 rfl) ?_
        obtain ⟨rfl, rfl⟩ := inj2 h
        exact r_iret X hP hS dX9_purse_89
    · have h := ipos c15 h
      refine lv_aload (pc := 53) hx hb dX9_purse_53 (lv_at hl 2 rfl) ?_
      refine gt_X9_150 X hP hz4 dX9_purse_55 ?_
      refine lv_goto (pc := 58) (tgt := 66) hx hb dX9_purse_58 (by decide) ?_
      refine lv_istore (pc := 66) (lv' := [(5, .int (gI σ11 k4z 2)), (2, .int v2), (3, .int v3), (4, .ref (ga G k4z))]) hx hb dX9_purse_66 hl (by decide) rfl (fun ls hl => ?_)
      refine lv_iload_n (pc := 68) hx hb dX9_purse_68 rfl (lv_at hl 1 rfl) ?_
      refine lv_if_ne (pc := 69) (tgt := 81) hx hb dX9_purse_69 (by decide) (fun c21 => ?_) (fun c21 => ?_)
      · have h := ineg c21 h
        refine lv_aload (pc := 81) hx hb dX9_purse_81 (lv_at hl 3 rfl) ?_
        refine lv_iload_n (pc := 83) hx hb dX9_purse_83 rfl (lv_at hl 2 rfl) ?_
        obtain ⟨σ22, e23, h⟩ := bnd1 h
        refine pt_X9_153 X hP hS hz4 dX9_purse_84 (fun H locs hP hS => ?_)
        rw [Option.some.inj e23] at hP
        refine lv_iload (pc := 87) hx hb dX9_purse_87 (lv_at hl 0 rfl) ?_
        obtain ⟨rfl, rfl⟩ := inj2 h
        exact r_iret X hP hS dX9_purse_89
      · have h := ipos c21 h
        refine lv_aload (pc := 72) hx hb dX9_purse_72 (lv_at hl 3 rfl) ?_
        refine lv_iload_n (pc := 74) hx hb dX9_purse_74 rfl (lv_at hl 2 rfl) ?_
        obtain ⟨σ24, e25, h⟩ := bnd1 h
        refine pt_X9_150 X hP hS hz4 dX9_purse_75 (fun H locs hP hS => ?_)
        rw [Option.some.inj e25] at hP
        refine lv_goto (pc := 78) (tgt := 87) hx hb dX9_purse_78 (by decide) ?_
        refine lv_iload (pc := 87) hx hb dX9_purse_87 (lv_at hl 0 rfl) ?_
        obtain ⟨rfl, rfl⟩ := inj2 h
        exact r_iret X hP hS dX9_purse_89
  · have h := ipos c14 h
    refine lv_iconst (pc := 47) (v := (-1)) hx hb dX9_purse_47 (by decide) ?_
    obtain ⟨rfl, rfl⟩ := inj2 h
    exact r_iret X hP hS dX9_purse_48
set_option maxHeartbeats 4000000 in
set_option maxRecDepth 100000 in
theorem w_X9_purse_41x1 {l : Launch} {G : Gh} {p : Program} {e : Env} {s : State} {m : MethodId} {args : Array Value} {below : List Frame} {meth : Method} {c : Code} (X : Cx G p s m args meth c prog_1_method_12_code RX9 6 (some .int)) {k4z : Nat} (hz4 : kd k4z = 0) {rr : Int32} {σr : Mem} : ∀ (v2 : Int32) (v3 : Int32) (w2 : Int32) (σ : Mem) (H : Heap) (locs : List Loc) (ls : Array Slot), PW G σ H → va_S (AA G) s.heap H locs → lv_has ls 6 [(2, .int v2), (3, .int v3), (4, .ref (ga G k4z))] → F_X9_purse_41x1 k4z v2 v3 w2 σ = some (rr, σr) → W p l e RM_X9_purse s m args below meth c H locs 0 0 (MQ below (QG G (some (.int rr)) σr) args s 0 0 (AA G)) (F0 m 41 ls [.int (999 : Int32), .int (0 : Int32), .int w2]) := by
  have hx := X.hx
  have hb := X.hb
  intro v2 v3 w2 σ H locs ls hP hS hl h
  unfold F_X9_purse_41x1 at h
  obtain ⟨r28, σ26, e27, h⟩ := bnd2 h
  refine cl_X9_71 X hP hS (As := [.int w2, .int (0 : Int32), .int (999 : Int32)]) (rest := []) (c_X9_within l G  e27) ⟨rfl, rfl, Nat.le_of_ble_eq_true rfl, Nat.le_of_ble_eq_true rfl⟩ rfl hl.1 rfl (Nat.le_of_ble_eq_true rfl) ⟨Nat.zero_le _, Nat.zero_le _⟩ (pc := 41) dX9_purse_41 (fun H locs hP hS => ?_)
  change W p l e _ s m _ below meth c H locs _ _ _ (F0 m (41 + 3) ls (.int r28 :: []))
  refine lv_if_ne (pc := 44) (tgt := 49) hx hb dX9_purse_44 (by decide) (fun c29 => ?_) (fun c29 => ?_)
  · have h := ineg c29 h
    refine lv_iload_n (pc := 49) hx hb dX9_purse_49 rfl (lv_at hl 0 rfl) ?_
    refine lv_if_ne (pc := 50) (tgt := 61) hx hb dX9_purse_50 (by decide) (fun c30 => ?_) (fun c30 => ?_)
    · have h := ineg c30 h
      refine lv_aload (pc := 61) hx hb dX9_purse_61 (lv_at hl 2 rfl) ?_
      refine gt_X9_153 X hP hz4 dX9_purse_63 ?_
      refine lv_istore (pc := 66) (lv' := [(5, .int (gI σ26 k4z 3)), (2, .int v2), (3, .int v3), (4, .ref (ga G k4z))]) hx hb dX9_purse_66 hl (by decide) rfl (fun ls hl => ?_)
      refine lv_iload_n (pc := 68) hx hb dX9_purse_68 rfl (lv_at hl 1 rfl) ?_
      refine lv_if_ne (pc := 69) (tgt := 81) hx hb dX9_purse_69 (by decide) (fun c31 => ?_) (fun c31 => ?_)
      · have h := ineg c31 h
        refine lv_aload (pc := 81) hx hb dX9_purse_81 (lv_at hl 3 rfl) ?_
        refine lv_iload_n (pc := 83) hx hb dX9_purse_83 rfl (lv_at hl 2 rfl) ?_
        obtain ⟨σ32, e33, h⟩ := bnd1 h
        refine pt_X9_153 X hP hS hz4 dX9_purse_84 (fun H locs hP hS => ?_)
        rw [Option.some.inj e33] at hP
        refine lv_iload (pc := 87) hx hb dX9_purse_87 (lv_at hl 0 rfl) ?_
        obtain ⟨rfl, rfl⟩ := inj2 h
        exact r_iret X hP hS dX9_purse_89
      · have h := ipos c31 h
        refine lv_aload (pc := 72) hx hb dX9_purse_72 (lv_at hl 3 rfl) ?_
        refine lv_iload_n (pc := 74) hx hb dX9_purse_74 rfl (lv_at hl 2 rfl) ?_
        obtain ⟨σ34, e35, h⟩ := bnd1 h
        refine pt_X9_150 X hP hS hz4 dX9_purse_75 (fun H locs hP hS => ?_)
        rw [Option.some.inj e35] at hP
        refine lv_goto (pc := 78) (tgt := 87) hx hb dX9_purse_78 (by decide) ?_
        refine lv_iload (pc := 87) hx hb dX9_purse_87 (lv_at hl 0 rfl) ?_
        obtain ⟨rfl, rfl⟩ := inj2 h
        exact r_iret X hP hS dX9_purse_89
    · have h := ipos c30 h
      refine lv_aload (pc := 53) hx hb dX9_purse_53 (lv_at hl 2 rfl) ?_
      refine gt_X9_150 X hP hz4 dX9_purse_55 ?_
      refine lv_goto (pc := 58) (tgt := 66) hx hb dX9_purse_58 (by decide) ?_
      refine lv_istore (pc := 66) (lv' := [(5, .int (gI σ26 k4z 2)), (2, .int v2), (3, .int v3), (4, .ref (ga G k4z))]) hx hb dX9_purse_66 hl (by decide) rfl (fun ls hl => ?_)
      refine lv_iload_n (pc := 68) hx hb dX9_purse_68 rfl (lv_at hl 1 rfl) ?_
      refine lv_if_ne (pc := 69) (tgt := 81) hx hb dX9_purse_69 (by decide) (fun c36 => ?_) (fun c36 => ?_)
      · have h := ineg c36 h
        refine lv_aload (pc := 81) hx hb dX9_purse_81 (lv_at hl 3 rfl) ?_
        refine lv_iload_n (pc := 83) hx hb dX9_purse_83 rfl (lv_at hl 2 rfl) ?_
        obtain ⟨σ37, e38, h⟩ := bnd1 h
        refine pt_X9_153 X hP hS hz4 dX9_purse_84 (fun H locs hP hS => ?_)
        rw [Option.some.inj e38] at hP
        refine lv_iload (pc := 87) hx hb dX9_purse_87 (lv_at hl 0 rfl) ?_
        obtain ⟨rfl, rfl⟩ := inj2 h
        exact r_iret X hP hS dX9_purse_89
      · have h := ipos c36 h
        refine lv_aload (pc := 72) hx hb dX9_purse_72 (lv_at hl 3 rfl) ?_
        refine lv_iload_n (pc := 74) hx hb dX9_purse_74 rfl (lv_at hl 2 rfl) ?_
        obtain ⟨σ39, e40, h⟩ := bnd1 h
        refine pt_X9_150 X hP hS hz4 dX9_purse_75 (fun H locs hP hS => ?_)
        rw [Option.some.inj e40] at hP
        refine lv_goto (pc := 78) (tgt := 87) hx hb dX9_purse_78 (by decide) ?_
        refine lv_iload (pc := 87) hx hb dX9_purse_87 (lv_at hl 0 rfl) ?_
        obtain ⟨rfl, rfl⟩ := inj2 h
        exact r_iret X hP hS dX9_purse_89
  · have h := ipos c29 h
    refine lv_iconst (pc := 47) (v := (-1)) hx hb dX9_purse_47 (by decide) ?_
    obtain ⟨rfl, rfl⟩ := inj2 h
    exact r_iret X hP hS dX9_purse_48
set_option maxHeartbeats 4000000 in
set_option maxRecDepth 100000 in
theorem c_X9_purse (l : Launch) (G : Gh) {k0 : Nat} {a1 : Int32} {a2 : Int32} {a3 : Int32} {σ : Mem} {rr : Int32} {σr : Mem} (hk0 : kd k0 = 9) (h : f_X9_purse k0 a1 a2 a3 σ = some (rr, σr)) : Met l yX9_purse [Cond.code yX9_purse prog_1_method_12_code 6 (some .int)] RM_X9_purse (va_Pc [.ref (ga G k0), .int a1, .int a2, .int a3] (Pre G σ)) (QG G (some (.int rr)) σr) 0 0 (AA G) := by
  refine ct_of (by decide) (fun p e s m below meth c X hP => ?_)
  have hx := X.hx
  have hb := X.hb
  have hS : va_S (AA G) s.heap s.heap [] := va_S.rf
  have hl := lv_entry ([.ref (ga G k0), .int a1, .int a2, .int a3]) (n := 6) (Nat.le_of_ble_eq_true rfl)
  rw [lg_entry_eq]
  generalize (lg_sl ([.ref (ga G k0), .int a1, .int a2, .int a3]) ++ List.replicate (6 - (lg_sl ([.ref (ga G k0), .int a1, .int a2, .int a3])).length) Slot.unset).toArray = ls at hl ⊢
  have hl : lv_has ls 6 [(0, .ref (ga G k0)), (1, .int a1), (2, .int a2), (3, .int a3)] := hl
  unfold f_X9_purse at h
  refine lv_aload_n (pc := 0) hx hb dX9_purse_0 rfl (lv_at hl 0 rfl) ?_
  refine gt_X9_12 X hP hk0 dX9_purse_1 ?_
  refine lv_iload_n (pc := 4) hx hb dX9_purse_4 rfl (lv_at hl 1 rfl) ?_
  obtain ⟨r3, σ1, e2, h⟩ := bnd2 h
  rcases r3 with _ | q4
  · have h := onr_n h
    refine cl_X9_138 X hP hS (kf_9_hall hk0).1 (As := [.int a1]) (rest := []) (c_X2_bidderAt l G (kf_9_hall hk0).1 e2) ⟨rfl, rfl, Nat.le_of_ble_eq_true rfl, Nat.le_of_ble_eq_true rfl⟩ rfl hl.1 rfl (Nat.le_of_ble_eq_true rfl) ⟨Nat.zero_le _, Nat.zero_le _⟩ (pc := 5) dX9_purse_5 (fun H locs hP hS => ?_)
    change W p l e _ s m _ below meth c H locs _ _ _ (F0 m (5 + 3) ls (.null :: []))
    refine lv_astoreN (pc := 8) (lv' := [(4, .null), (0, .ref (ga G k0)), (1, .int a1), (2, .int a2), (3, .int a3)]) hx hb dX9_purse_8 hl (by decide) rfl (fun ls hl => ?_)
    refine lv_aloadN (pc := 10) hx hb dX9_purse_10 (lv_at hl 0 rfl) ?_
    refine lv_ifnullN (pc := 12) (tgt := 24) hx hb dX9_purse_12 (by decide) ?_
    refine lv_iconst (pc := 24) (v := (-1)) hx hb dX9_purse_24 (by decide) ?_
    obtain ⟨rfl, rfl⟩ := inj2 h
    exact r_iret X hP hS dX9_purse_25
  · have h := onr_s h
    obtain ⟨hq5, h⟩ := grd_inv h
    refine cl_X9_138 X hP hS (kf_9_hall hk0).1 (As := [.int a1]) (rest := []) (c_X2_bidderAt l G (kf_9_hall hk0).1 e2) ⟨rfl, rfl, Nat.le_of_ble_eq_true rfl, Nat.le_of_ble_eq_true rfl⟩ rfl hl.1 rfl (Nat.le_of_ble_eq_true rfl) ⟨Nat.zero_le _, Nat.zero_le _⟩ (pc := 5) dX9_purse_5 (fun H locs hP hS => ?_)
    change W p l e _ s m _ below meth c H locs _ _ _ (F0 m (5 + 3) ls (.ref (ga G q4) :: []))
    refine lv_astore (pc := 8) (lv' := [(4, .ref (ga G q4)), (0, .ref (ga G k0)), (1, .int a1), (2, .int a2), (3, .int a3)]) hx hb dX9_purse_8 hl (by decide) rfl (fun ls hl => ?_)
    refine lv_aload (pc := 10) hx hb dX9_purse_10 (lv_at hl 0 rfl) ?_
    refine lv_ifnull (pc := 12) hx hb dX9_purse_12 ?_
    refine lv_iload_n (pc := 15) hx hb dX9_purse_15 rfl (lv_at hl 3 rfl) ?_
    refine lv_iconst (pc := 16) (v := 0) hx hb dX9_purse_16 (by decide) ?_
    refine lv_iconst (pc := 17) (v := 1) hx hb dX9_purse_17 (by decide) ?_
    obtain ⟨r8, σ6, e7, h⟩ := bnd2 h
    refine cl_X9_71 X hP hS (As := [.int a2, .int (0 : Int32), .int (1 : Int32)]) (rest := []) (c_X9_within l G  e7) ⟨rfl, rfl, Nat.le_of_ble_eq_true rfl, Nat.le_of_ble_eq_true rfl⟩ rfl hl.1 rfl (Nat.le_of_ble_eq_true rfl) ⟨Nat.zero_le _, Nat.zero_le _⟩ (pc := 18) dX9_purse_18 (fun H locs hP hS => ?_)
    change W p l e _ s m _ below meth c H locs _ _ _ (F0 m (18 + 3) ls (.int r8 :: []))
    refine lv_if_ne (pc := 21) (tgt := 26) hx hb dX9_purse_21 (by decide) (fun c9 => ?_) (fun c9 => ?_)
    · have h := ineg c9 h
      refine lv_iload_n (pc := 26) hx hb dX9_purse_26 rfl (lv_at hl 4 rfl) ?_
      refine lv_iconst (pc := 27) (v := 0) hx hb dX9_purse_27 (by decide) ?_
      refine lv_iload_n (pc := 28) hx hb dX9_purse_28 rfl (lv_at hl 3 rfl) ?_
      refine lv_if_ne (pc := 29) (tgt := 38) hx hb dX9_purse_29 (by decide) (fun c10 => ?_) (fun c10 => ?_)
      · have h := ineg c10 h
        refine lv_sipush (pc := 38) (v := (9999)) hx hb dX9_purse_38 (by decide) ?_
        exact w_X9_purse_41 X  hq5  _ _ _ _ _ _ _ hP hS (lv_sub hl [3, 4, 0] rfl) h
      · have h := ipos c10 h
        refine lv_sipush (pc := 32) (v := (999)) hx hb dX9_purse_32 (by decide) ?_
        refine lv_goto (pc := 35) (tgt := 41) hx hb dX9_purse_35 (by decide) ?_
        exact w_X9_purse_41x1 X  hq5  _ _ _ _ _ _ _ hP hS (lv_sub hl [3, 4, 0] rfl) h
    · have h := ipos c9 h
      refine lv_iconst (pc := 24) (v := (-1)) hx hb dX9_purse_24 (by decide) ?_
      obtain ⟨rfl, rfl⟩ := inj2 h
      exact r_iret X hP hS dX9_purse_25
def f_X9_limit (k0 : Nat) (a1 : Int32) (a2 : Int32) (σ : Mem) : Option (Int32 × Mem) :=
  bd2 (f_X2_bidderAt (k0 + 1) a1 σ) fun r3 σ1 =>
  onr r3 (
    bd2 (f_X2_lotAt (k0 + 1) a2 σ1) fun r8 σ6 =>
    onr r8 (
      some ((-1 : Int32), σ6)
      ) fun q9 => grd (kd q9 = 3) <|
      some ((-1 : Int32), σ6)
    ) fun q4 => grd (kd q4 = 0) <|
    bd2 (f_X2_lotAt (k0 + 1) a2 σ1) fun r13 σ11 =>
    onr r13 (
      some ((-1 : Int32), σ11)
      ) fun q14 => grd (kd q14 = 3) <|
      bd2 (f_X0_limitFor q4 (gI σ11 q14 1) σ11) fun r18 σ16 =>
      some (r18, σ16)
abbrev RM_X9_limit : Room := { frames := 2, cells := 0, slots := 0, locals := 43 }
set_option maxHeartbeats 4000000 in
set_option maxRecDepth 100000 in
theorem c_X9_limit (l : Launch) (G : Gh) {k0 : Nat} {a1 : Int32} {a2 : Int32} {σ : Mem} {rr : Int32} {σr : Mem} (hk0 : kd k0 = 9) (h : f_X9_limit k0 a1 a2 σ = some (rr, σr)) : Met l yX9_limit [Cond.code yX9_limit prog_1_method_13_code 5 (some .int)] RM_X9_limit (va_Pc [.ref (ga G k0), .int a1, .int a2] (Pre G σ)) (QG G (some (.int rr)) σr) 0 0 (AA G) := by
  refine ct_of (by decide) (fun p e s m below meth c X hP => ?_)
  have hx := X.hx
  have hb := X.hb
  have hS : va_S (AA G) s.heap s.heap [] := va_S.rf
  have hl := lv_entry ([.ref (ga G k0), .int a1, .int a2]) (n := 5) (Nat.le_of_ble_eq_true rfl)
  rw [lg_entry_eq]
  generalize (lg_sl ([.ref (ga G k0), .int a1, .int a2]) ++ List.replicate (5 - (lg_sl ([.ref (ga G k0), .int a1, .int a2])).length) Slot.unset).toArray = ls at hl ⊢
  have hl : lv_has ls 5 [(0, .ref (ga G k0)), (1, .int a1), (2, .int a2)] := hl
  unfold f_X9_limit at h
  refine lv_aload_n (pc := 0) hx hb dX9_limit_0 rfl (lv_at hl 0 rfl) ?_
  refine gt_X9_12 X hP hk0 dX9_limit_1 ?_
  refine lv_iload_n (pc := 4) hx hb dX9_limit_4 rfl (lv_at hl 1 rfl) ?_
  obtain ⟨r3, σ1, e2, h⟩ := bnd2 h
  rcases r3 with _ | q4
  · have h := onr_n h
    refine cl_X9_138 X hP hS (kf_9_hall hk0).1 (As := [.int a1]) (rest := []) (c_X2_bidderAt l G (kf_9_hall hk0).1 e2) ⟨rfl, rfl, Nat.le_of_ble_eq_true rfl, Nat.le_of_ble_eq_true rfl⟩ rfl hl.1 rfl (Nat.le_of_ble_eq_true rfl) ⟨Nat.zero_le _, Nat.zero_le _⟩ (pc := 5) dX9_limit_5 (fun H locs hP hS => ?_)
    change W p l e _ s m _ below meth c H locs _ _ _ (F0 m (5 + 3) ls (.null :: []))
    refine lv_astore_nN (pc := 8) (lv' := [(3, .null), (0, .ref (ga G k0)), (1, .int a1), (2, .int a2)]) hx hb dX9_limit_8 rfl hl (by decide) rfl (fun ls hl => ?_)
    refine lv_aload_n (pc := 9) hx hb dX9_limit_9 rfl (lv_at hl 1 rfl) ?_
    refine gt_X9_12 X hP hk0 dX9_limit_10 ?_
    refine lv_iload_n (pc := 13) hx hb dX9_limit_13 rfl (lv_at hl 3 rfl) ?_
    obtain ⟨r8, σ6, e7, h⟩ := bnd2 h
    rcases r8 with _ | q9
    · have h := onr_n h
      refine cl_X9_103 X hP hS (kf_9_hall hk0).1 (As := [.int a2]) (rest := []) (c_X2_lotAt l G (kf_9_hall hk0).1 e7) ⟨rfl, rfl, Nat.le_of_ble_eq_true rfl, Nat.le_of_ble_eq_true rfl⟩ rfl hl.1 rfl (Nat.le_of_ble_eq_true rfl) ⟨Nat.zero_le _, Nat.zero_le _⟩ (pc := 14) dX9_limit_14 (fun H locs hP hS => ?_)
      change W p l e _ s m _ below meth c H locs _ _ _ (F0 m (14 + 3) ls (.null :: []))
      refine lv_astoreN (pc := 17) (lv' := [(4, .null), (3, .null), (0, .ref (ga G k0)), (1, .int a1), (2, .int a2)]) hx hb dX9_limit_17 hl (by decide) rfl (fun ls hl => ?_)
      refine lv_aload_nN (pc := 19) hx hb dX9_limit_19 rfl (lv_at hl 1 rfl) ?_
      refine lv_ifnullN (pc := 20) (tgt := 28) hx hb dX9_limit_20 (by decide) ?_
      refine lv_iconst (pc := 28) (v := (-1)) hx hb dX9_limit_28 (by decide) ?_
      obtain ⟨rfl, rfl⟩ := inj2 h
      exact r_iret X hP hS dX9_limit_29
    · have h := onr_s h
      obtain ⟨hq10, h⟩ := grd_inv h
      refine cl_X9_103 X hP hS (kf_9_hall hk0).1 (As := [.int a2]) (rest := []) (c_X2_lotAt l G (kf_9_hall hk0).1 e7) ⟨rfl, rfl, Nat.le_of_ble_eq_true rfl, Nat.le_of_ble_eq_true rfl⟩ rfl hl.1 rfl (Nat.le_of_ble_eq_true rfl) ⟨Nat.zero_le _, Nat.zero_le _⟩ (pc := 14) dX9_limit_14 (fun H locs hP hS => ?_)
      change W p l e _ s m _ below meth c H locs _ _ _ (F0 m (14 + 3) ls (.ref (ga G q9) :: []))
      refine lv_astore (pc := 17) (lv' := [(4, .ref (ga G q9)), (3, .null), (0, .ref (ga G k0)), (1, .int a1), (2, .int a2)]) hx hb dX9_limit_17 hl (by decide) rfl (fun ls hl => ?_)
      refine lv_aload_nN (pc := 19) hx hb dX9_limit_19 rfl (lv_at hl 1 rfl) ?_
      refine lv_ifnullN (pc := 20) (tgt := 28) hx hb dX9_limit_20 (by decide) ?_
      refine lv_iconst (pc := 28) (v := (-1)) hx hb dX9_limit_28 (by decide) ?_
      obtain ⟨rfl, rfl⟩ := inj2 h
      exact r_iret X hP hS dX9_limit_29
  · have h := onr_s h
    obtain ⟨hq5, h⟩ := grd_inv h
    refine cl_X9_138 X hP hS (kf_9_hall hk0).1 (As := [.int a1]) (rest := []) (c_X2_bidderAt l G (kf_9_hall hk0).1 e2) ⟨rfl, rfl, Nat.le_of_ble_eq_true rfl, Nat.le_of_ble_eq_true rfl⟩ rfl hl.1 rfl (Nat.le_of_ble_eq_true rfl) ⟨Nat.zero_le _, Nat.zero_le _⟩ (pc := 5) dX9_limit_5 (fun H locs hP hS => ?_)
    change W p l e _ s m _ below meth c H locs _ _ _ (F0 m (5 + 3) ls (.ref (ga G q4) :: []))
    refine lv_astore_n (pc := 8) (lv' := [(3, .ref (ga G q4)), (0, .ref (ga G k0)), (1, .int a1), (2, .int a2)]) hx hb dX9_limit_8 rfl hl (by decide) rfl (fun ls hl => ?_)
    refine lv_aload_n (pc := 9) hx hb dX9_limit_9 rfl (lv_at hl 1 rfl) ?_
    refine gt_X9_12 X hP hk0 dX9_limit_10 ?_
    refine lv_iload_n (pc := 13) hx hb dX9_limit_13 rfl (lv_at hl 3 rfl) ?_
    obtain ⟨r13, σ11, e12, h⟩ := bnd2 h
    rcases r13 with _ | q14
    · have h := onr_n h
      refine cl_X9_103 X hP hS (kf_9_hall hk0).1 (As := [.int a2]) (rest := []) (c_X2_lotAt l G (kf_9_hall hk0).1 e12) ⟨rfl, rfl, Nat.le_of_ble_eq_true rfl, Nat.le_of_ble_eq_true rfl⟩ rfl hl.1 rfl (Nat.le_of_ble_eq_true rfl) ⟨Nat.zero_le _, Nat.zero_le _⟩ (pc := 14) dX9_limit_14 (fun H locs hP hS => ?_)
      change W p l e _ s m _ below meth c H locs _ _ _ (F0 m (14 + 3) ls (.null :: []))
      refine lv_astoreN (pc := 17) (lv' := [(4, .null), (3, .ref (ga G q4)), (0, .ref (ga G k0)), (1, .int a1), (2, .int a2)]) hx hb dX9_limit_17 hl (by decide) rfl (fun ls hl => ?_)
      refine lv_aload_n (pc := 19) hx hb dX9_limit_19 rfl (lv_at hl 1 rfl) ?_
      refine lv_ifnull (pc := 20) hx hb dX9_limit_20 ?_
      refine lv_aloadN (pc := 23) hx hb dX9_limit_23 (lv_at hl 0 rfl) ?_
      refine lv_ifnonnullN (pc := 25) hx hb dX9_limit_25 ?_
      refine lv_iconst (pc := 28) (v := (-1)) hx hb dX9_limit_28 (by decide) ?_
      obtain ⟨rfl, rfl⟩ := inj2 h
      exact r_iret X hP hS dX9_limit_29
    · have h := onr_s h
      obtain ⟨hq15, h⟩ := grd_inv h
      refine cl_X9_103 X hP hS (kf_9_hall hk0).1 (As := [.int a2]) (rest := []) (c_X2_lotAt l G (kf_9_hall hk0).1 e12) ⟨rfl, rfl, Nat.le_of_ble_eq_true rfl, Nat.le_of_ble_eq_true rfl⟩ rfl hl.1 rfl (Nat.le_of_ble_eq_true rfl) ⟨Nat.zero_le _, Nat.zero_le _⟩ (pc := 14) dX9_limit_14 (fun H locs hP hS => ?_)
      change W p l e _ s m _ below meth c H locs _ _ _ (F0 m (14 + 3) ls (.ref (ga G q14) :: []))
      refine lv_astore (pc := 17) (lv' := [(4, .ref (ga G q14)), (3, .ref (ga G q4)), (0, .ref (ga G k0)), (1, .int a1), (2, .int a2)]) hx hb dX9_limit_17 hl (by decide) rfl (fun ls hl => ?_)
      refine lv_aload_n (pc := 19) hx hb dX9_limit_19 rfl (lv_at hl 1 rfl) ?_
      refine lv_ifnull (pc := 20) hx hb dX9_limit_20 ?_
      refine lv_aload (pc := 23) hx hb dX9_limit_23 (lv_at hl 0 rfl) ?_
      refine lv_ifnonnull (pc := 25) (tgt := 30) hx hb dX9_limit_25 (by decide) ?_
      refine lv_aload_n (pc := 30) hx hb dX9_limit_30 rfl (lv_at hl 1 rfl) ?_
      refine lv_aload (pc := 31) hx hb dX9_limit_31 (lv_at hl 0 rfl) ?_
      refine gt_X9_112 X hP hq15 dX9_limit_33 ?_
      obtain ⟨r18, σ16, e17, h⟩ := bnd2 h
      refine cl_X9_160 X hP hS hq5 (As := [.int (gI σ11 q14 1)]) (rest := []) (c_X0_limitFor l G hq5 e17) ⟨rfl, rfl, Nat.le_of_ble_eq_true rfl, Nat.le_of_ble_eq_true rfl⟩ rfl hl.1 rfl (Nat.le_of_ble_eq_true rfl) ⟨Nat.zero_le _, Nat.zero_le _⟩ (pc := 36) dX9_limit_36 (fun H locs hP hS => ?_)
      change W p l e _ s m _ below meth c H locs _ _ _ (F0 m (36 + 3) ls (.int r18 :: []))
      obtain ⟨rfl, rfl⟩ := inj2 h
      exact r_iret X hP hS dX9_limit_39
def f_X9_light (k0 : Nat) (a1 : Int32) (σ : Mem) : Option (Int32 × Mem) :=
  bd2 (f_X2_lotAt (k0 + 1) a1 σ) fun r3 σ1 =>
  onr r3 (
    some ((-1 : Int32), σ1)
    ) fun q4 => grd (kd q4 = 3) <|
    if (gI σ1 q4 2) = (0 : Int32) then
      bd2 (f_X2_burning (k0 + 1) σ1) fun r9 σ7 =>
      onr r9 (
        bd1 (f_X2_setAlight (k0 + 1) a1 σ7) fun σ12 =>
        some ((1 : Int32), σ12)
        ) fun q10 => grd (kd q10 = 3) <|
        some ((-4 : Int32), σ7)
    else
      some ((-4 : Int32), σ1)
abbrev RM_X9_light : Room := { frames := 2, cells := 0, slots := 0, locals := 41 }
set_option maxHeartbeats 4000000 in
set_option maxRecDepth 100000 in
theorem c_X9_light (l : Launch) (G : Gh) {k0 : Nat} {a1 : Int32} {σ : Mem} {rr : Int32} {σr : Mem} (hk0 : kd k0 = 9) (h : f_X9_light k0 a1 σ = some (rr, σr)) : Met l yX9_light [Cond.code yX9_light prog_1_method_14_code 3 (some .int)] RM_X9_light (va_Pc [.ref (ga G k0), .int a1] (Pre G σ)) (QG G (some (.int rr)) σr) 0 0 (AA G) := by
  refine ct_of (by decide) (fun p e s m below meth c X hP => ?_)
  have hx := X.hx
  have hb := X.hb
  have hS : va_S (AA G) s.heap s.heap [] := va_S.rf
  have hl := lv_entry ([.ref (ga G k0), .int a1]) (n := 3) (Nat.le_of_ble_eq_true rfl)
  rw [lg_entry_eq]
  generalize (lg_sl ([.ref (ga G k0), .int a1]) ++ List.replicate (3 - (lg_sl ([.ref (ga G k0), .int a1])).length) Slot.unset).toArray = ls at hl ⊢
  have hl : lv_has ls 3 [(0, .ref (ga G k0)), (1, .int a1)] := hl
  unfold f_X9_light at h
  refine lv_aload_n (pc := 0) hx hb dX9_light_0 rfl (lv_at hl 0 rfl) ?_
  refine gt_X9_12 X hP hk0 dX9_light_1 ?_
  refine lv_iload_n (pc := 4) hx hb dX9_light_4 rfl (lv_at hl 1 rfl) ?_
  obtain ⟨r3, σ1, e2, h⟩ := bnd2 h
  rcases r3 with _ | q4
  · have h := onr_n h
    refine cl_X9_103 X hP hS (kf_9_hall hk0).1 (As := [.int a1]) (rest := []) (c_X2_lotAt l G (kf_9_hall hk0).1 e2) ⟨rfl, rfl, Nat.le_of_ble_eq_true rfl, Nat.le_of_ble_eq_true rfl⟩ rfl hl.1 rfl (Nat.le_of_ble_eq_true rfl) ⟨Nat.zero_le _, Nat.zero_le _⟩ (pc := 5) dX9_light_5 (fun H locs hP hS => ?_)
    change W p l e _ s m _ below meth c H locs _ _ _ (F0 m (5 + 3) ls (.null :: []))
    refine lv_astore_nN (pc := 8) (lv' := [(2, .null), (0, .ref (ga G k0)), (1, .int a1)]) hx hb dX9_light_8 rfl hl (by decide) rfl (fun ls hl => ?_)
    refine lv_aload_nN (pc := 9) hx hb dX9_light_9 rfl (lv_at hl 0 rfl) ?_
    refine lv_ifnonnullN (pc := 10) hx hb dX9_light_10 ?_
    refine lv_iconst (pc := 13) (v := (-1)) hx hb dX9_light_13 (by decide) ?_
    obtain ⟨rfl, rfl⟩ := inj2 h
    exact r_iret X hP hS dX9_light_14
  · have h := onr_s h
    obtain ⟨hq5, h⟩ := grd_inv h
    refine cl_X9_103 X hP hS (kf_9_hall hk0).1 (As := [.int a1]) (rest := []) (c_X2_lotAt l G (kf_9_hall hk0).1 e2) ⟨rfl, rfl, Nat.le_of_ble_eq_true rfl, Nat.le_of_ble_eq_true rfl⟩ rfl hl.1 rfl (Nat.le_of_ble_eq_true rfl) ⟨Nat.zero_le _, Nat.zero_le _⟩ (pc := 5) dX9_light_5 (fun H locs hP hS => ?_)
    change W p l e _ s m _ below meth c H locs _ _ _ (F0 m (5 + 3) ls (.ref (ga G q4) :: []))
    refine lv_astore_n (pc := 8) (lv' := [(2, .ref (ga G q4)), (0, .ref (ga G k0)), (1, .int a1)]) hx hb dX9_light_8 rfl hl (by decide) rfl (fun ls hl => ?_)
    refine lv_aload_n (pc := 9) hx hb dX9_light_9 rfl (lv_at hl 0 rfl) ?_
    refine lv_ifnonnull (pc := 10) (tgt := 15) hx hb dX9_light_10 (by decide) ?_
    refine lv_aload_n (pc := 15) hx hb dX9_light_15 rfl (lv_at hl 0 rfl) ?_
    refine gt_X9_115 X hP hq5 dX9_light_16 ?_
    refine lv_if_ne (pc := 19) (tgt := 32) hx hb dX9_light_19 (by decide) (fun c6 => ?_) (fun c6 => ?_)
    · have h := ineg c6 h
      refine lv_bipush (pc := 32) (v := (-4)) hx hb dX9_light_32 (by decide) ?_
      obtain ⟨rfl, rfl⟩ := inj2 h
      exact r_iret X hP hS dX9_light_34
    · have h := ipos c6 h
      refine lv_aload_n (pc := 22) hx hb dX9_light_22 rfl (lv_at hl 1 rfl) ?_
      refine gt_X9_12 X hP hk0 dX9_light_23 ?_
      obtain ⟨r9, σ7, e8, h⟩ := bnd2 h
      rcases r9 with _ | q10
      · have h := onr_n h
        refine cl_X9_163 X hP hS (kf_9_hall hk0).1 (As := []) (rest := []) (c_X2_burning l G (kf_9_hall hk0).1 e8) ⟨rfl, rfl, Nat.le_of_ble_eq_true rfl, Nat.le_of_ble_eq_true rfl⟩ rfl hl.1 rfl (Nat.le_of_ble_eq_true rfl) ⟨Nat.zero_le _, Nat.zero_le _⟩ (pc := 26) dX9_light_26 (fun H locs hP hS => ?_)
        change W p l e _ s m _ below meth c H locs _ _ _ (F0 m (26 + 3) ls (.null :: []))
        refine lv_ifnullN (pc := 29) (tgt := 35) hx hb dX9_light_29 (by decide) ?_
        refine lv_aload_n (pc := 35) hx hb dX9_light_35 rfl (lv_at hl 1 rfl) ?_
        refine gt_X9_12 X hP hk0 dX9_light_36 ?_
        refine lv_iload_n (pc := 39) hx hb dX9_light_39 rfl (lv_at hl 2 rfl) ?_
        obtain ⟨σ12, e13, h⟩ := bnd1 h
        refine cl_X9_167 X hP hS (kf_9_hall hk0).1 (As := [.int a1]) (rest := []) (c_X2_setAlight l G (kf_9_hall hk0).1 e13) ⟨rfl, rfl, Nat.le_of_ble_eq_true rfl, Nat.le_of_ble_eq_true rfl⟩ rfl hl.1 rfl (Nat.le_of_ble_eq_true rfl) ⟨Nat.zero_le _, Nat.zero_le _⟩ (pc := 40) dX9_light_40 (fun H locs hP hS => ?_)
        change W p l e _ s m _ below meth c H locs _ _ _ (F0 m (40 + 3) ls [])
        refine lv_iconst (pc := 43) (v := 1) hx hb dX9_light_43 (by decide) ?_
        obtain ⟨rfl, rfl⟩ := inj2 h
        exact r_iret X hP hS dX9_light_44
      · have h := onr_s h
        obtain ⟨hq11, h⟩ := grd_inv h
        refine cl_X9_163 X hP hS (kf_9_hall hk0).1 (As := []) (rest := []) (c_X2_burning l G (kf_9_hall hk0).1 e8) ⟨rfl, rfl, Nat.le_of_ble_eq_true rfl, Nat.le_of_ble_eq_true rfl⟩ rfl hl.1 rfl (Nat.le_of_ble_eq_true rfl) ⟨Nat.zero_le _, Nat.zero_le _⟩ (pc := 26) dX9_light_26 (fun H locs hP hS => ?_)
        change W p l e _ s m _ below meth c H locs _ _ _ (F0 m (26 + 3) ls (.ref (ga G q10) :: []))
        refine lv_ifnull (pc := 29) hx hb dX9_light_29 ?_
        refine lv_bipush (pc := 32) (v := (-4)) hx hb dX9_light_32 (by decide) ?_
        obtain ⟨rfl, rfl⟩ := inj2 h
        exact r_iret X hP hS dX9_light_34
def f_X9_now (k0 : Nat) (a1 : Int32) (σ : Mem) : Option (Int32 × Mem) :=
  bd2 (f_X9_within a1 (0 : Int32) (6 : Int32) σ) fun r3 σ1 =>
  if r3 = (0 : Int32) then
    some ((-1 : Int32), σ1)
  else
    bd2 (f_X2_burning (k0 + 1) σ1) fun r7 σ5 =>
    onr r7 (
      if a1 = (0 : Int32) then
        some ((-9 : Int32), σ5)
      else
        if a1 = (4 : Int32) then
          some ((-9 : Int32), σ5)
        else
          some ((0 : Int32), σ5)
      ) fun q8 => grd (kd q8 = 3) <|
      if a1 = (0 : Int32) then
        some ((gI σ5 (k0 + 1) 7), σ5)
      else
      if a1 = (1 : Int32) then
        some ((gI σ5 (k0 + 1) 8), σ5)
      else
      if a1 = (2 : Int32) then
        some ((gI σ5 (k0 + 1) 9), σ5)
      else
      if a1 = (3 : Int32) then
        some ((gI σ5 (k0 + 1) 10), σ5)
      else
      if a1 = (4 : Int32) then
        some ((gI σ5 (k0 + 1) 11), σ5)
      else
      if a1 = (5 : Int32) then
        some (((gI σ5 q8 0) - (gI σ5 (k0 + 1) 9)), σ5)
      else
      bd2 (f_X2_burnsNow (k0 + 1) σ5) fun r20 σ18 =>
      some (r20, σ18)
abbrev RM_X9_now : Room := { frames := 2, cells := 0, slots := 0, locals := 42 }
set_option maxHeartbeats 4000000 in
set_option maxRecDepth 100000 in
theorem c_X9_now (l : Launch) (G : Gh) {k0 : Nat} {a1 : Int32} {σ : Mem} {rr : Int32} {σr : Mem} (hk0 : kd k0 = 9) (h : f_X9_now k0 a1 σ = some (rr, σr)) : Met l yX9_now [Cond.code yX9_now prog_1_method_15_code 3 (some .int)] RM_X9_now (va_Pc [.ref (ga G k0), .int a1] (Pre G σ)) (QG G (some (.int rr)) σr) 0 0 (AA G) := by
  refine ct_of (by decide) (fun p e s m below meth c X hP => ?_)
  have hx := X.hx
  have hb := X.hb
  have hS : va_S (AA G) s.heap s.heap [] := va_S.rf
  have hl := lv_entry ([.ref (ga G k0), .int a1]) (n := 3) (Nat.le_of_ble_eq_true rfl)
  rw [lg_entry_eq]
  generalize (lg_sl ([.ref (ga G k0), .int a1]) ++ List.replicate (3 - (lg_sl ([.ref (ga G k0), .int a1])).length) Slot.unset).toArray = ls at hl ⊢
  have hl : lv_has ls 3 [(0, .ref (ga G k0)), (1, .int a1)] := hl
  unfold f_X9_now at h
  refine lv_iload_n (pc := 0) hx hb dX9_now_0 rfl (lv_at hl 1 rfl) ?_
  refine lv_iconst (pc := 1) (v := 0) hx hb dX9_now_1 (by decide) ?_
  refine lv_bipush (pc := 2) (v := (6)) hx hb dX9_now_2 (by decide) ?_
  obtain ⟨r3, σ1, e2, h⟩ := bnd2 h
  refine cl_X9_71 X hP hS (As := [.int a1, .int (0 : Int32), .int (6 : Int32)]) (rest := []) (c_X9_within l G  e2) ⟨rfl, rfl, Nat.le_of_ble_eq_true rfl, Nat.le_of_ble_eq_true rfl⟩ rfl hl.1 rfl (Nat.le_of_ble_eq_true rfl) ⟨Nat.zero_le _, Nat.zero_le _⟩ (pc := 4) dX9_now_4 (fun H locs hP hS => ?_)
  change W p l e _ s m _ below meth c H locs _ _ _ (F0 m (4 + 3) ls (.int r3 :: []))
  refine lv_if_ne (pc := 7) (tgt := 12) hx hb dX9_now_7 (by decide) (fun c4 => ?_) (fun c4 => ?_)
  · have h := ineg c4 h
    refine lv_aload_n (pc := 12) hx hb dX9_now_12 rfl (lv_at hl 0 rfl) ?_
    refine gt_X9_12 X hP hk0 dX9_now_13 ?_
    obtain ⟨r7, σ5, e6, h⟩ := bnd2 h
    rcases r7 with _ | q8
    · have h := onr_n h
      refine cl_X9_163 X hP hS (kf_9_hall hk0).1 (As := []) (rest := []) (c_X2_burning l G (kf_9_hall hk0).1 e6) ⟨rfl, rfl, Nat.le_of_ble_eq_true rfl, Nat.le_of_ble_eq_true rfl⟩ rfl hl.1 rfl (Nat.le_of_ble_eq_true rfl) ⟨Nat.zero_le _, Nat.zero_le _⟩ (pc := 16) dX9_now_16 (fun H locs hP hS => ?_)
      change W p l e _ s m _ below meth c H locs _ _ _ (F0 m (16 + 3) ls (.null :: []))
      refine lv_astore_nN (pc := 19) (lv' := [(2, .null), (0, .ref (ga G k0)), (1, .int a1)]) hx hb dX9_now_19 rfl hl (by decide) rfl (fun ls hl => ?_)
      refine lv_aload_nN (pc := 20) hx hb dX9_now_20 rfl (lv_at hl 0 rfl) ?_
      refine lv_ifnonnullN (pc := 21) hx hb dX9_now_21 ?_
      refine lv_iload_n (pc := 24) hx hb dX9_now_24 rfl (lv_at hl 2 rfl) ?_
      refine lv_if_eq (pc := 25) (tgt := 33) hx hb dX9_now_25 (by decide) (fun c10 => ?_) (fun c10 => ?_)
      · have h := ipos c10 h
        refine lv_bipush (pc := 33) (v := (-9)) hx hb dX9_now_33 (by decide) ?_
        refine lv_goto (pc := 35) (tgt := 39) hx hb dX9_now_35 (by decide) ?_
        obtain ⟨rfl, rfl⟩ := inj2 h
        exact r_iret X hP hS dX9_now_39
      · have h := ineg c10 h
        refine lv_iload_n (pc := 28) hx hb dX9_now_28 rfl (lv_at hl 2 rfl) ?_
        refine lv_iconst (pc := 29) (v := 4) hx hb dX9_now_29 (by decide) ?_
        refine lv_icmp_ne (pc := 30) (tgt := 38) hx hb dX9_now_30 (by decide) (fun c11 => ?_) (fun c11 => ?_)
        · have h := ineg c11 h
          refine lv_iconst (pc := 38) (v := 0) hx hb dX9_now_38 (by decide) ?_
          obtain ⟨rfl, rfl⟩ := inj2 h
          exact r_iret X hP hS dX9_now_39
        · have h := ipos c11 h
          refine lv_bipush (pc := 33) (v := (-9)) hx hb dX9_now_33 (by decide) ?_
          refine lv_goto (pc := 35) (tgt := 39) hx hb dX9_now_35 (by decide) ?_
          obtain ⟨rfl, rfl⟩ := inj2 h
          exact r_iret X hP hS dX9_now_39
    · have h := onr_s h
      obtain ⟨hq9, h⟩ := grd_inv h
      refine cl_X9_163 X hP hS (kf_9_hall hk0).1 (As := []) (rest := []) (c_X2_burning l G (kf_9_hall hk0).1 e6) ⟨rfl, rfl, Nat.le_of_ble_eq_true rfl, Nat.le_of_ble_eq_true rfl⟩ rfl hl.1 rfl (Nat.le_of_ble_eq_true rfl) ⟨Nat.zero_le _, Nat.zero_le _⟩ (pc := 16) dX9_now_16 (fun H locs hP hS => ?_)
      change W p l e _ s m _ below meth c H locs _ _ _ (F0 m (16 + 3) ls (.ref (ga G q8) :: []))
      refine lv_astore_n (pc := 19) (lv' := [(2, .ref (ga G q8)), (0, .ref (ga G k0)), (1, .int a1)]) hx hb dX9_now_19 rfl hl (by decide) rfl (fun ls hl => ?_)
      refine lv_aload_n (pc := 20) hx hb dX9_now_20 rfl (lv_at hl 0 rfl) ?_
      refine lv_ifnonnull (pc := 21) (tgt := 40) hx hb dX9_now_21 (by decide) ?_
      refine lv_iload_n (pc := 40) hx hb dX9_now_40 rfl (lv_at hl 2 rfl) ?_
      by_cases c12 : a1 = (0 : Int32)
      · have h := ipos c12 h
        refine r_tabIn X (pc := 41) (tgt := 80) c12 dX9_now_41 (by decide) (by decide) rfl (by decide) ?_
        refine lv_aload_n (pc := 80) hx hb dX9_now_80 rfl (lv_at hl 1 rfl) ?_
        refine gt_X9_12 X hP hk0 dX9_now_81 ?_
        refine gt_X9_124 X hP (kf_9_hall hk0).1 dX9_now_84 ?_
        obtain ⟨rfl, rfl⟩ := inj2 h
        exact r_iret X hP hS dX9_now_87
      have h := ineg c12 h
      by_cases c13 : a1 = (1 : Int32)
      · have h := ipos c13 h
        refine r_tabIn X (pc := 41) (tgt := 88) c13 dX9_now_41 (by decide) (by decide) rfl (by decide) ?_
        refine lv_aload_n (pc := 88) hx hb dX9_now_88 rfl (lv_at hl 1 rfl) ?_
        refine gt_X9_12 X hP hk0 dX9_now_89 ?_
        refine gt_X9_171 X hP (kf_9_hall hk0).1 dX9_now_92 ?_
        obtain ⟨rfl, rfl⟩ := inj2 h
        exact r_iret X hP hS dX9_now_95
      have h := ineg c13 h
      by_cases c14 : a1 = (2 : Int32)
      · have h := ipos c14 h
        refine r_tabIn X (pc := 41) (tgt := 96) c14 dX9_now_41 (by decide) (by decide) rfl (by decide) ?_
        refine lv_aload_n (pc := 96) hx hb dX9_now_96 rfl (lv_at hl 1 rfl) ?_
        refine gt_X9_12 X hP hk0 dX9_now_97 ?_
        refine gt_X9_174 X hP (kf_9_hall hk0).1 dX9_now_100 ?_
        obtain ⟨rfl, rfl⟩ := inj2 h
        exact r_iret X hP hS dX9_now_103
      have h := ineg c14 h
      by_cases c15 : a1 = (3 : Int32)
      · have h := ipos c15 h
        refine r_tabIn X (pc := 41) (tgt := 104) c15 dX9_now_41 (by decide) (by decide) rfl (by decide) ?_
        refine lv_aload_n (pc := 104) hx hb dX9_now_104 rfl (lv_at hl 1 rfl) ?_
        refine gt_X9_12 X hP hk0 dX9_now_105 ?_
        refine gt_X9_177 X hP (kf_9_hall hk0).1 dX9_now_108 ?_
        obtain ⟨rfl, rfl⟩ := inj2 h
        exact r_iret X hP hS dX9_now_111
      have h := ineg c15 h
      by_cases c16 : a1 = (4 : Int32)
      · have h := ipos c16 h
        refine r_tabIn X (pc := 41) (tgt := 112) c16 dX9_now_41 (by decide) (by decide) rfl (by decide) ?_
        refine lv_aload_n (pc := 112) hx hb dX9_now_112 rfl (lv_at hl 1 rfl) ?_
        refine gt_X9_12 X hP hk0 dX9_now_113 ?_
        refine gt_X9_180 X hP (kf_9_hall hk0).1 dX9_now_116 ?_
        obtain ⟨rfl, rfl⟩ := inj2 h
        exact r_iret X hP hS dX9_now_119
      have h := ineg c16 h
      by_cases c17 : a1 = (5 : Int32)
      · have h := ipos c17 h
        refine r_tabIn X (pc := 41) (tgt := 120) c17 dX9_now_41 (by decide) (by decide) rfl (by decide) ?_
        refine lv_aload_n (pc := 120) hx hb dX9_now_120 rfl (lv_at hl 0 rfl) ?_
        refine gt_X9_107 X hP hq9 dX9_now_121 ?_
        refine lv_aload_n (pc := 124) hx hb dX9_now_124 rfl (lv_at hl 1 rfl) ?_
        refine gt_X9_12 X hP hk0 dX9_now_125 ?_
        refine gt_X9_174 X hP (kf_9_hall hk0).1 dX9_now_128 ?_
        refine lv_isub (pc := 131) hx hb dX9_now_131 ?_
        obtain ⟨rfl, rfl⟩ := inj2 h
        exact r_iret X hP hS dX9_now_132
      have h := ineg c17 h
      refine lv_tableOut (pc := 41) (tgt := 133) hx hb dX9_now_41 (by have := lv_neT c12 (a := 0) (by decide); have := lv_neT c13 (a := 1) (by decide); have := lv_neT c14 (a := 2) (by decide); have := lv_neT c15 (a := 3) (by decide); have := lv_neT c16 (a := 4) (by decide); have := lv_neT c17 (a := 5) (by decide); omega) (by decide) ?_
      refine lv_aload_n (pc := 133) hx hb dX9_now_133 rfl (lv_at hl 1 rfl) ?_
      refine gt_X9_12 X hP hk0 dX9_now_134 ?_
      obtain ⟨r20, σ18, e19, h⟩ := bnd2 h
      refine cl_X9_183 X hP hS (kf_9_hall hk0).1 (As := []) (rest := []) (c_X2_burnsNow l G (kf_9_hall hk0).1 e19) ⟨rfl, rfl, Nat.le_of_ble_eq_true rfl, Nat.le_of_ble_eq_true rfl⟩ rfl hl.1 rfl (Nat.le_of_ble_eq_true rfl) ⟨Nat.zero_le _, Nat.zero_le _⟩ (pc := 137) dX9_now_137 (fun H locs hP hS => ?_)
      change W p l e _ s m _ below meth c H locs _ _ _ (F0 m (137 + 3) ls (.int r20 :: []))
      obtain ⟨rfl, rfl⟩ := inj2 h
      exact r_iret X hP hS dX9_now_140
  · have h := ipos c4 h
    refine lv_iconst (pc := 10) (v := (-1)) hx hb dX9_now_10 (by decide) ?_
    obtain ⟨rfl, rfl⟩ := inj2 h
    exact r_iret X hP hS dX9_now_11
def f_X9_would (k0 : Nat) (a1 : Int32) (σ : Mem) : Option (Int32 × Mem) :=
  bd2 (f_X2_bidderAt (k0 + 1) a1 σ) fun r3 σ1 =>
  onr r3 (
    some ((-1 : Int32), σ1)
    ) fun q4 => grd (kd q4 = 0) <|
    bd2 (f_X2_callOf (k0 + 1) a1 σ1) fun r8 σ6 =>
    some (r8, σ6)
abbrev RM_X9_would : Room := { frames := 3, cells := 0, slots := 0, locals := 67 }
set_option maxHeartbeats 4000000 in
set_option maxRecDepth 100000 in
theorem c_X9_would (l : Launch) (G : Gh) {k0 : Nat} {a1 : Int32} {σ : Mem} {rr : Int32} {σr : Mem} (hk0 : kd k0 = 9) (h : f_X9_would k0 a1 σ = some (rr, σr)) : Met l yX9_would [Cond.code yX9_would prog_1_method_16_code 2 (some .int)] RM_X9_would (va_Pc [.ref (ga G k0), .int a1] (Pre G σ)) (QG G (some (.int rr)) σr) 0 0 (AA G) := by
  refine ct_of (by decide) (fun p e s m below meth c X hP => ?_)
  have hx := X.hx
  have hb := X.hb
  have hS : va_S (AA G) s.heap s.heap [] := va_S.rf
  have hl := lv_entry ([.ref (ga G k0), .int a1]) (n := 2) (Nat.le_of_ble_eq_true rfl)
  rw [lg_entry_eq]
  generalize (lg_sl ([.ref (ga G k0), .int a1]) ++ List.replicate (2 - (lg_sl ([.ref (ga G k0), .int a1])).length) Slot.unset).toArray = ls at hl ⊢
  have hl : lv_has ls 2 [(0, .ref (ga G k0)), (1, .int a1)] := hl
  unfold f_X9_would at h
  refine lv_aload_n (pc := 0) hx hb dX9_would_0 rfl (lv_at hl 0 rfl) ?_
  refine gt_X9_12 X hP hk0 dX9_would_1 ?_
  refine lv_iload_n (pc := 4) hx hb dX9_would_4 rfl (lv_at hl 1 rfl) ?_
  obtain ⟨r3, σ1, e2, h⟩ := bnd2 h
  rcases r3 with _ | q4
  · have h := onr_n h
    refine cl_X9_138 X hP hS (kf_9_hall hk0).1 (As := [.int a1]) (rest := []) (c_X2_bidderAt l G (kf_9_hall hk0).1 e2) ⟨rfl, rfl, Nat.le_of_ble_eq_true rfl, Nat.le_of_ble_eq_true rfl⟩ rfl hl.1 rfl (Nat.le_of_ble_eq_true rfl) ⟨Nat.zero_le _, Nat.zero_le _⟩ (pc := 5) dX9_would_5 (fun H locs hP hS => ?_)
    change W p l e _ s m _ below meth c H locs _ _ _ (F0 m (5 + 3) ls (.null :: []))
    refine lv_ifnonnullN (pc := 8) hx hb dX9_would_8 ?_
    refine lv_iconst (pc := 11) (v := (-1)) hx hb dX9_would_11 (by decide) ?_
    obtain ⟨rfl, rfl⟩ := inj2 h
    exact r_iret X hP hS dX9_would_12
  · have h := onr_s h
    obtain ⟨hq5, h⟩ := grd_inv h
    refine cl_X9_138 X hP hS (kf_9_hall hk0).1 (As := [.int a1]) (rest := []) (c_X2_bidderAt l G (kf_9_hall hk0).1 e2) ⟨rfl, rfl, Nat.le_of_ble_eq_true rfl, Nat.le_of_ble_eq_true rfl⟩ rfl hl.1 rfl (Nat.le_of_ble_eq_true rfl) ⟨Nat.zero_le _, Nat.zero_le _⟩ (pc := 5) dX9_would_5 (fun H locs hP hS => ?_)
    change W p l e _ s m _ below meth c H locs _ _ _ (F0 m (5 + 3) ls (.ref (ga G q4) :: []))
    refine lv_ifnonnull (pc := 8) (tgt := 13) hx hb dX9_would_8 (by decide) ?_
    refine lv_aload_n (pc := 13) hx hb dX9_would_13 rfl (lv_at hl 0 rfl) ?_
    refine gt_X9_12 X hP hk0 dX9_would_14 ?_
    refine lv_iload_n (pc := 17) hx hb dX9_would_17 rfl (lv_at hl 1 rfl) ?_
    obtain ⟨r8, σ6, e7, h⟩ := bnd2 h
    refine cl_X9_187 X hP hS (kf_9_hall hk0).1 (As := [.int a1]) (rest := []) (c_X2_callOf l G (kf_9_hall hk0).1 e7) ⟨rfl, rfl, Nat.le_of_ble_eq_true rfl, Nat.le_of_ble_eq_true rfl⟩ rfl hl.1 rfl (Nat.le_of_ble_eq_true rfl) ⟨Nat.zero_le _, Nat.zero_le _⟩ (pc := 18) dX9_would_18 (fun H locs hP hS => ?_)
    change W p l e _ s m _ below meth c H locs _ _ _ (F0 m (18 + 3) ls (.int r8 :: []))
    obtain ⟨rfl, rfl⟩ := inj2 h
    exact r_iret X hP hS dX9_would_21
def f_X9_ticks (k0 : Nat) (a1 : Int32) (σ : Mem) : Option (Int32 × Mem) :=
  bd2 (f_X9_within a1 (0 : Int32) (60 : Int32) σ) fun r3 σ1 =>
  if r3 = (0 : Int32) then
    some ((-1 : Int32), σ1)
  else
    bd2 (f_X2_goTicks_IN (k0 + 1) a1 σ1) fun r7 σ5 =>
    some (r7, σ5)
abbrev RM_X9_ticks : Room := { frames := 5, cells := 0, slots := 0, locals := 114 }
set_option maxHeartbeats 4000000 in
set_option maxRecDepth 100000 in
theorem c_X9_ticks (l : Launch) (G : Gh) {k0 : Nat} {a1 : Int32} {σ : Mem} {rr : Int32} {σr : Mem} (hk0 : kd k0 = 9) (h : f_X9_ticks k0 a1 σ = some (rr, σr)) : Met l yX9_ticks [Cond.code yX9_ticks prog_1_method_17_code 2 (some .int)] RM_X9_ticks (va_Pc [.ref (ga G k0), .int a1] (Pre G σ)) (QG G (some (.int rr)) σr) 0 0 (AA G) := by
  refine ct_of (by decide) (fun p e s m below meth c X hP => ?_)
  have hx := X.hx
  have hb := X.hb
  have hS : va_S (AA G) s.heap s.heap [] := va_S.rf
  have hl := lv_entry ([.ref (ga G k0), .int a1]) (n := 2) (Nat.le_of_ble_eq_true rfl)
  rw [lg_entry_eq]
  generalize (lg_sl ([.ref (ga G k0), .int a1]) ++ List.replicate (2 - (lg_sl ([.ref (ga G k0), .int a1])).length) Slot.unset).toArray = ls at hl ⊢
  have hl : lv_has ls 2 [(0, .ref (ga G k0)), (1, .int a1)] := hl
  unfold f_X9_ticks at h
  refine lv_iload_n (pc := 0) hx hb dX9_ticks_0 rfl (lv_at hl 1 rfl) ?_
  refine lv_iconst (pc := 1) (v := 0) hx hb dX9_ticks_1 (by decide) ?_
  refine lv_bipush (pc := 2) (v := (60)) hx hb dX9_ticks_2 (by decide) ?_
  obtain ⟨r3, σ1, e2, h⟩ := bnd2 h
  refine cl_X9_71 X hP hS (As := [.int a1, .int (0 : Int32), .int (60 : Int32)]) (rest := []) (c_X9_within l G  e2) ⟨rfl, rfl, Nat.le_of_ble_eq_true rfl, Nat.le_of_ble_eq_true rfl⟩ rfl hl.1 rfl (Nat.le_of_ble_eq_true rfl) ⟨Nat.zero_le _, Nat.zero_le _⟩ (pc := 4) dX9_ticks_4 (fun H locs hP hS => ?_)
  change W p l e _ s m _ below meth c H locs _ _ _ (F0 m (4 + 3) ls (.int r3 :: []))
  refine lv_if_ne (pc := 7) (tgt := 12) hx hb dX9_ticks_7 (by decide) (fun c4 => ?_) (fun c4 => ?_)
  · have h := ineg c4 h
    refine lv_aload_n (pc := 12) hx hb dX9_ticks_12 rfl (lv_at hl 0 rfl) ?_
    refine gt_X9_12 X hP hk0 dX9_ticks_13 ?_
    refine lv_iload_n (pc := 16) hx hb dX9_ticks_16 rfl (lv_at hl 1 rfl) ?_
    refine lv_null (pc := 17) hx hb dX9_ticks_17 ?_
    obtain ⟨r7, σ5, e6, h⟩ := bnd2 h
    refine cl_X9_190 X hP hS (kf_9_hall hk0).1 (As := [.int a1, .null]) (rest := []) (c_X2_goTicks_IN l G (kf_9_hall hk0).1 e6) ⟨rfl, rfl, Nat.le_of_ble_eq_true rfl, Nat.le_of_ble_eq_true rfl⟩ rfl hl.1 rfl (Nat.le_of_ble_eq_true rfl) ⟨Nat.zero_le _, Nat.zero_le _⟩ (pc := 18) dX9_ticks_18 (fun H locs hP hS => ?_)
    change W p l e _ s m _ below meth c H locs _ _ _ (F0 m (18 + 3) ls (.int r7 :: []))
    obtain ⟨rfl, rfl⟩ := inj2 h
    exact r_iret X hP hS dX9_ticks_21
  · have h := ipos c4 h
    refine lv_iconst (pc := 10) (v := (-1)) hx hb dX9_ticks_10 (by decide) ?_
    obtain ⟨rfl, rfl⟩ := inj2 h
    exact r_iret X hP hS dX9_ticks_11
def f_X9_call (k0 : Nat) (a1 : Int32) (a2 : Int32) (σ : Mem) : Option (Int32 × Mem) :=
  bd2 (f_X2_bidderAt (k0 + 1) a1 σ) fun r3 σ1 =>
  onr r3 (
    some ((-1 : Int32), σ1)
    ) fun q4 => grd (kd q4 = 0) <|
    bd2 (f_X9_within a2 (1 : Int32) (9999 : Int32) σ1) fun r8 σ6 =>
    if r8 = (0 : Int32) then
      some ((-1 : Int32), σ6)
    else
      bd2 (f_X2_burning (k0 + 1) σ6) fun r12 σ10 =>
      onr r12 (
        some ((-4 : Int32), σ10)
        ) fun q13 => grd (kd q13 = 3) <|
        if a2 ≤ (gI σ10 (k0 + 1) 10) then
          some ((-4 : Int32), σ10)
        else
          if a2 ≤ (gI σ10 q4 3) then
            bd1 (f_X2_takeCall_IIN (k0 + 1) a1 a2 σ10) fun σ17 =>
            some ((gI σ10 (k0 + 1) 10), σ17)
          else
            some ((-4 : Int32), σ10)
abbrev RM_X9_call : Room := { frames := 2, cells := 0, slots := 0, locals := 41 }
set_option maxHeartbeats 4000000 in
set_option maxRecDepth 100000 in
theorem c_X9_call (l : Launch) (G : Gh) {k0 : Nat} {a1 : Int32} {a2 : Int32} {σ : Mem} {rr : Int32} {σr : Mem} (hk0 : kd k0 = 9) (h : f_X9_call k0 a1 a2 σ = some (rr, σr)) : Met l yX9_call [Cond.code yX9_call prog_1_method_18_code 5 (some .int)] RM_X9_call (va_Pc [.ref (ga G k0), .int a1, .int a2] (Pre G σ)) (QG G (some (.int rr)) σr) 0 0 (AA G) := by
  refine ct_of (by decide) (fun p e s m below meth c X hP => ?_)
  have hx := X.hx
  have hb := X.hb
  have hS : va_S (AA G) s.heap s.heap [] := va_S.rf
  have hl := lv_entry ([.ref (ga G k0), .int a1, .int a2]) (n := 5) (Nat.le_of_ble_eq_true rfl)
  rw [lg_entry_eq]
  generalize (lg_sl ([.ref (ga G k0), .int a1, .int a2]) ++ List.replicate (5 - (lg_sl ([.ref (ga G k0), .int a1, .int a2])).length) Slot.unset).toArray = ls at hl ⊢
  have hl : lv_has ls 5 [(0, .ref (ga G k0)), (1, .int a1), (2, .int a2)] := hl
  unfold f_X9_call at h
  refine lv_aload_n (pc := 0) hx hb dX9_call_0 rfl (lv_at hl 0 rfl) ?_
  refine gt_X9_12 X hP hk0 dX9_call_1 ?_
  refine lv_iload_n (pc := 4) hx hb dX9_call_4 rfl (lv_at hl 1 rfl) ?_
  obtain ⟨r3, σ1, e2, h⟩ := bnd2 h
  rcases r3 with _ | q4
  · have h := onr_n h
    refine cl_X9_138 X hP hS (kf_9_hall hk0).1 (As := [.int a1]) (rest := []) (c_X2_bidderAt l G (kf_9_hall hk0).1 e2) ⟨rfl, rfl, Nat.le_of_ble_eq_true rfl, Nat.le_of_ble_eq_true rfl⟩ rfl hl.1 rfl (Nat.le_of_ble_eq_true rfl) ⟨Nat.zero_le _, Nat.zero_le _⟩ (pc := 5) dX9_call_5 (fun H locs hP hS => ?_)
    change W p l e _ s m _ below meth c H locs _ _ _ (F0 m (5 + 3) ls (.null :: []))
    refine lv_astore_nN (pc := 8) (lv' := [(3, .null), (0, .ref (ga G k0)), (1, .int a1), (2, .int a2)]) hx hb dX9_call_8 rfl hl (by decide) rfl (fun ls hl => ?_)
    refine lv_aload_nN (pc := 9) hx hb dX9_call_9 rfl (lv_at hl 0 rfl) ?_
    refine lv_ifnullN (pc := 10) (tgt := 24) hx hb dX9_call_10 (by decide) ?_
    refine lv_iconst (pc := 24) (v := (-1)) hx hb dX9_call_24 (by decide) ?_
    obtain ⟨rfl, rfl⟩ := inj2 h
    exact r_iret X hP hS dX9_call_25
  · have h := onr_s h
    obtain ⟨hq5, h⟩ := grd_inv h
    refine cl_X9_138 X hP hS (kf_9_hall hk0).1 (As := [.int a1]) (rest := []) (c_X2_bidderAt l G (kf_9_hall hk0).1 e2) ⟨rfl, rfl, Nat.le_of_ble_eq_true rfl, Nat.le_of_ble_eq_true rfl⟩ rfl hl.1 rfl (Nat.le_of_ble_eq_true rfl) ⟨Nat.zero_le _, Nat.zero_le _⟩ (pc := 5) dX9_call_5 (fun H locs hP hS => ?_)
    change W p l e _ s m _ below meth c H locs _ _ _ (F0 m (5 + 3) ls (.ref (ga G q4) :: []))
    refine lv_astore_n (pc := 8) (lv' := [(3, .ref (ga G q4)), (0, .ref (ga G k0)), (1, .int a1), (2, .int a2)]) hx hb dX9_call_8 rfl hl (by decide) rfl (fun ls hl => ?_)
    refine lv_aload_n (pc := 9) hx hb dX9_call_9 rfl (lv_at hl 0 rfl) ?_
    refine lv_ifnull (pc := 10) hx hb dX9_call_10 ?_
    refine lv_iload_n (pc := 13) hx hb dX9_call_13 rfl (lv_at hl 3 rfl) ?_
    refine lv_iconst (pc := 14) (v := 1) hx hb dX9_call_14 (by decide) ?_
    refine lv_sipush (pc := 15) (v := (9999)) hx hb dX9_call_15 (by decide) ?_
    obtain ⟨r8, σ6, e7, h⟩ := bnd2 h
    refine cl_X9_71 X hP hS (As := [.int a2, .int (1 : Int32), .int (9999 : Int32)]) (rest := []) (c_X9_within l G  e7) ⟨rfl, rfl, Nat.le_of_ble_eq_true rfl, Nat.le_of_ble_eq_true rfl⟩ rfl hl.1 rfl (Nat.le_of_ble_eq_true rfl) ⟨Nat.zero_le _, Nat.zero_le _⟩ (pc := 18) dX9_call_18 (fun H locs hP hS => ?_)
    change W p l e _ s m _ below meth c H locs _ _ _ (F0 m (18 + 3) ls (.int r8 :: []))
    refine lv_if_ne (pc := 21) (tgt := 26) hx hb dX9_call_21 (by decide) (fun c9 => ?_) (fun c9 => ?_)
    · have h := ineg c9 h
      refine lv_aload_n (pc := 26) hx hb dX9_call_26 rfl (lv_at hl 1 rfl) ?_
      refine gt_X9_12 X hP hk0 dX9_call_27 ?_
      obtain ⟨r12, σ10, e11, h⟩ := bnd2 h
      rcases r12 with _ | q13
      · have h := onr_n h
        refine cl_X9_163 X hP hS (kf_9_hall hk0).1 (As := []) (rest := []) (c_X2_burning l G (kf_9_hall hk0).1 e11) ⟨rfl, rfl, Nat.le_of_ble_eq_true rfl, Nat.le_of_ble_eq_true rfl⟩ rfl hl.1 rfl (Nat.le_of_ble_eq_true rfl) ⟨Nat.zero_le _, Nat.zero_le _⟩ (pc := 30) dX9_call_30 (fun H locs hP hS => ?_)
        change W p l e _ s m _ below meth c H locs _ _ _ (F0 m (30 + 3) ls (.null :: []))
        refine lv_ifnullN (pc := 33) (tgt := 55) hx hb dX9_call_33 (by decide) ?_
        refine lv_bipush (pc := 55) (v := (-4)) hx hb dX9_call_55 (by decide) ?_
        obtain ⟨rfl, rfl⟩ := inj2 h
        exact r_iret X hP hS dX9_call_57
      · have h := onr_s h
        obtain ⟨hq14, h⟩ := grd_inv h
        refine cl_X9_163 X hP hS (kf_9_hall hk0).1 (As := []) (rest := []) (c_X2_burning l G (kf_9_hall hk0).1 e11) ⟨rfl, rfl, Nat.le_of_ble_eq_true rfl, Nat.le_of_ble_eq_true rfl⟩ rfl hl.1 rfl (Nat.le_of_ble_eq_true rfl) ⟨Nat.zero_le _, Nat.zero_le _⟩ (pc := 30) dX9_call_30 (fun H locs hP hS => ?_)
        change W p l e _ s m _ below meth c H locs _ _ _ (F0 m (30 + 3) ls (.ref (ga G q13) :: []))
        refine lv_ifnull (pc := 33) hx hb dX9_call_33 ?_
        refine lv_iload_n (pc := 36) hx hb dX9_call_36 rfl (lv_at hl 3 rfl) ?_
        refine lv_aload_n (pc := 37) hx hb dX9_call_37 rfl (lv_at hl 1 rfl) ?_
        refine gt_X9_12 X hP hk0 dX9_call_38 ?_
        refine gt_X9_177 X hP (kf_9_hall hk0).1 dX9_call_41 ?_
        refine lv_icmp_le (pc := 44) (tgt := 55) hx hb dX9_call_44 (by decide) (fun c15 => ?_) (fun c15 => ?_)
        · have h := ipos c15 h
          refine lv_bipush (pc := 55) (v := (-4)) hx hb dX9_call_55 (by decide) ?_
          obtain ⟨rfl, rfl⟩ := inj2 h
          exact r_iret X hP hS dX9_call_57
        · have h := ineg c15 h
          refine lv_iload_n (pc := 47) hx hb dX9_call_47 rfl (lv_at hl 3 rfl) ?_
          refine lv_aload_n (pc := 48) hx hb dX9_call_48 rfl (lv_at hl 0 rfl) ?_
          refine gt_X9_153 X hP hq5 dX9_call_49 ?_
          refine lv_icmp_le (pc := 52) (tgt := 58) hx hb dX9_call_52 (by decide) (fun c16 => ?_) (fun c16 => ?_)
          · have h := ipos c16 h
            refine lv_aload_n (pc := 58) hx hb dX9_call_58 rfl (lv_at hl 1 rfl) ?_
            refine gt_X9_12 X hP hk0 dX9_call_59 ?_
            refine gt_X9_177 X hP (kf_9_hall hk0).1 dX9_call_62 ?_
            refine lv_istore (pc := 65) (lv' := [(4, .int (gI σ10 (k0 + 1) 10)), (3, .ref (ga G q4)), (0, .ref (ga G k0)), (1, .int a1), (2, .int a2)]) hx hb dX9_call_65 hl (by decide) rfl (fun ls hl => ?_)
            refine lv_aload_n (pc := 67) hx hb dX9_call_67 rfl (lv_at hl 2 rfl) ?_
            refine gt_X9_12 X hP hk0 dX9_call_68 ?_
            refine lv_iload_n (pc := 71) hx hb dX9_call_71 rfl (lv_at hl 3 rfl) ?_
            refine lv_iload_n (pc := 72) hx hb dX9_call_72 rfl (lv_at hl 4 rfl) ?_
            refine lv_null (pc := 73) hx hb dX9_call_73 ?_
            obtain ⟨σ17, e18, h⟩ := bnd1 h
            refine cl_X9_194 X hP hS (kf_9_hall hk0).1 (As := [.int a1, .int a2, .null]) (rest := []) (c_X2_takeCall_IIN l G (kf_9_hall hk0).1 e18) ⟨rfl, rfl, Nat.le_of_ble_eq_true rfl, Nat.le_of_ble_eq_true rfl⟩ rfl hl.1 rfl (Nat.le_of_ble_eq_true rfl) ⟨Nat.zero_le _, Nat.zero_le _⟩ (pc := 74) dX9_call_74 (fun H locs hP hS => ?_)
            change W p l e _ s m _ below meth c H locs _ _ _ (F0 m (74 + 3) ls [])
            refine lv_iload (pc := 77) hx hb dX9_call_77 (lv_at hl 0 rfl) ?_
            obtain ⟨rfl, rfl⟩ := inj2 h
            exact r_iret X hP hS dX9_call_79
          · have h := ineg c16 h
            refine lv_bipush (pc := 55) (v := (-4)) hx hb dX9_call_55 (by decide) ?_
            obtain ⟨rfl, rfl⟩ := inj2 h
            exact r_iret X hP hS dX9_call_57
    · have h := ipos c9 h
      refine lv_iconst (pc := 24) (v := (-1)) hx hb dX9_call_24 (by decide) ?_
      obtain ⟨rfl, rfl⟩ := inj2 h
      exact r_iret X hP hS dX9_call_25
def f_X9_snuff (k0 : Nat) (σ : Mem) : Option (Int32 × Mem) :=
  bd2 (f_X2_burning (k0 + 1) σ) fun r3 σ1 =>
  onr r3 (
    some ((-4 : Int32), σ1)
    ) fun q4 => grd (kd q4 = 3) <|
    bd1 (f_X2_putOut (k0 + 1) σ1) fun σ6 =>
    some ((gI σ6 q4 4), σ6)
abbrev RM_X9_snuff : Room := { frames := 3, cells := 0, slots := 0, locals := 63 }
set_option maxHeartbeats 4000000 in
set_option maxRecDepth 100000 in
theorem c_X9_snuff (l : Launch) (G : Gh) {k0 : Nat} {σ : Mem} {rr : Int32} {σr : Mem} (hk0 : kd k0 = 9) (h : f_X9_snuff k0 σ = some (rr, σr)) : Met l yX9_snuff [Cond.code yX9_snuff prog_1_method_19_code 2 (some .int)] RM_X9_snuff (va_Pc [.ref (ga G k0)] (Pre G σ)) (QG G (some (.int rr)) σr) 0 0 (AA G) := by
  refine ct_of (by decide) (fun p e s m below meth c X hP => ?_)
  have hx := X.hx
  have hb := X.hb
  have hS : va_S (AA G) s.heap s.heap [] := va_S.rf
  have hl := lv_entry ([.ref (ga G k0)]) (n := 2) (Nat.le_of_ble_eq_true rfl)
  rw [lg_entry_eq]
  generalize (lg_sl ([.ref (ga G k0)]) ++ List.replicate (2 - (lg_sl ([.ref (ga G k0)])).length) Slot.unset).toArray = ls at hl ⊢
  have hl : lv_has ls 2 [(0, .ref (ga G k0))] := hl
  unfold f_X9_snuff at h
  refine lv_aload_n (pc := 0) hx hb dX9_snuff_0 rfl (lv_at hl 0 rfl) ?_
  refine gt_X9_12 X hP hk0 dX9_snuff_1 ?_
  obtain ⟨r3, σ1, e2, h⟩ := bnd2 h
  rcases r3 with _ | q4
  · have h := onr_n h
    refine cl_X9_163 X hP hS (kf_9_hall hk0).1 (As := []) (rest := []) (c_X2_burning l G (kf_9_hall hk0).1 e2) ⟨rfl, rfl, Nat.le_of_ble_eq_true rfl, Nat.le_of_ble_eq_true rfl⟩ rfl hl.1 rfl (Nat.le_of_ble_eq_true rfl) ⟨Nat.zero_le _, Nat.zero_le _⟩ (pc := 4) dX9_snuff_4 (fun H locs hP hS => ?_)
    change W p l e _ s m _ below meth c H locs _ _ _ (F0 m (4 + 3) ls (.null :: []))
    refine lv_astore_nN (pc := 7) (lv' := [(1, .null), (0, .ref (ga G k0))]) hx hb dX9_snuff_7 rfl hl (by decide) rfl (fun ls hl => ?_)
    refine lv_aload_nN (pc := 8) hx hb dX9_snuff_8 rfl (lv_at hl 0 rfl) ?_
    refine lv_ifnonnullN (pc := 9) hx hb dX9_snuff_9 ?_
    refine lv_bipush (pc := 12) (v := (-4)) hx hb dX9_snuff_12 (by decide) ?_
    obtain ⟨rfl, rfl⟩ := inj2 h
    exact r_iret X hP hS dX9_snuff_14
  · have h := onr_s h
    obtain ⟨hq5, h⟩ := grd_inv h
    refine cl_X9_163 X hP hS (kf_9_hall hk0).1 (As := []) (rest := []) (c_X2_burning l G (kf_9_hall hk0).1 e2) ⟨rfl, rfl, Nat.le_of_ble_eq_true rfl, Nat.le_of_ble_eq_true rfl⟩ rfl hl.1 rfl (Nat.le_of_ble_eq_true rfl) ⟨Nat.zero_le _, Nat.zero_le _⟩ (pc := 4) dX9_snuff_4 (fun H locs hP hS => ?_)
    change W p l e _ s m _ below meth c H locs _ _ _ (F0 m (4 + 3) ls (.ref (ga G q4) :: []))
    refine lv_astore_n (pc := 7) (lv' := [(1, .ref (ga G q4)), (0, .ref (ga G k0))]) hx hb dX9_snuff_7 rfl hl (by decide) rfl (fun ls hl => ?_)
    refine lv_aload_n (pc := 8) hx hb dX9_snuff_8 rfl (lv_at hl 0 rfl) ?_
    refine lv_ifnonnull (pc := 9) (tgt := 15) hx hb dX9_snuff_9 (by decide) ?_
    refine lv_aload_n (pc := 15) hx hb dX9_snuff_15 rfl (lv_at hl 1 rfl) ?_
    refine gt_X9_12 X hP hk0 dX9_snuff_16 ?_
    obtain ⟨σ6, e7, h⟩ := bnd1 h
    refine cl_X9_198 X hP hS (kf_9_hall hk0).1 (As := []) (rest := []) (c_X2_putOut l G (kf_9_hall hk0).1 e7) ⟨rfl, rfl, Nat.le_of_ble_eq_true rfl, Nat.le_of_ble_eq_true rfl⟩ rfl hl.1 rfl (Nat.le_of_ble_eq_true rfl) ⟨Nat.zero_le _, Nat.zero_le _⟩ (pc := 19) dX9_snuff_19 (fun H locs hP hS => ?_)
    change W p l e _ s m _ below meth c H locs _ _ _ (F0 m (19 + 3) ls [])
    refine lv_aload_n (pc := 22) hx hb dX9_snuff_22 rfl (lv_at hl 0 rfl) ?_
    refine gt_X9_121 X hP hq5 dX9_snuff_23 ?_
    obtain ⟨rfl, rfl⟩ := inj2 h
    exact r_iret X hP hS dX9_snuff_26
def f_X9_back (k0 : Nat) (a1 : Int32) (σ : Mem) : Option (Int32 × Mem) :=
  bd2 (f_X2_lotAt (k0 + 1) a1 σ) fun r3 σ1 =>
  onr r3 (
    some ((-1 : Int32), σ1)
    ) fun q4 => grd (kd q4 = 3) <|
    if (gI σ1 q4 2) = (0 : Int32) then
      some ((-4 : Int32), σ1)
    else
      bd2 (f_X2_bidderAt (k0 + 1) (gI σ1 q4 4) σ1) fun r9 σ7 =>
      onr r9 (
        bd1 (f_X3_unsell q4 σ7) fun σ12 =>
        some ((1 : Int32), σ12)
        ) fun q10 => grd (kd q10 = 0) <|
        bd1 (some (pI σ7 q10 3 (if (9999 : Int32) < ((gI σ7 q10 3) + (gI σ7 q4 3)) then (9999 : Int32) else ((gI σ7 q10 3) + (gI σ7 q4 3))))) fun σ14 =>
        bd1 (f_X3_unsell q4 σ14) fun σ16 =>
        some ((1 : Int32), σ16)
abbrev RM_X9_back : Room := { frames := 1, cells := 0, slots := 0, locals := 22 }
set_option maxHeartbeats 4000000 in
set_option maxRecDepth 100000 in
theorem c_X9_back (l : Launch) (G : Gh) {k0 : Nat} {a1 : Int32} {σ : Mem} {rr : Int32} {σr : Mem} (hk0 : kd k0 = 9) (h : f_X9_back k0 a1 σ = some (rr, σr)) : Met l yX9_back [Cond.code yX9_back prog_1_method_20_code 4 (some .int)] RM_X9_back (va_Pc [.ref (ga G k0), .int a1] (Pre G σ)) (QG G (some (.int rr)) σr) 0 0 (AA G) := by
  refine ct_of (by decide) (fun p e s m below meth c X hP => ?_)
  have hx := X.hx
  have hb := X.hb
  have hS : va_S (AA G) s.heap s.heap [] := va_S.rf
  have hl := lv_entry ([.ref (ga G k0), .int a1]) (n := 4) (Nat.le_of_ble_eq_true rfl)
  rw [lg_entry_eq]
  generalize (lg_sl ([.ref (ga G k0), .int a1]) ++ List.replicate (4 - (lg_sl ([.ref (ga G k0), .int a1])).length) Slot.unset).toArray = ls at hl ⊢
  have hl : lv_has ls 4 [(0, .ref (ga G k0)), (1, .int a1)] := hl
  unfold f_X9_back at h
  refine lv_aload_n (pc := 0) hx hb dX9_back_0 rfl (lv_at hl 0 rfl) ?_
  refine gt_X9_12 X hP hk0 dX9_back_1 ?_
  refine lv_iload_n (pc := 4) hx hb dX9_back_4 rfl (lv_at hl 1 rfl) ?_
  obtain ⟨r3, σ1, e2, h⟩ := bnd2 h
  rcases r3 with _ | q4
  · have h := onr_n h
    refine cl_X9_103 X hP hS (kf_9_hall hk0).1 (As := [.int a1]) (rest := []) (c_X2_lotAt l G (kf_9_hall hk0).1 e2) ⟨rfl, rfl, Nat.le_of_ble_eq_true rfl, Nat.le_of_ble_eq_true rfl⟩ rfl hl.1 rfl (Nat.le_of_ble_eq_true rfl) ⟨Nat.zero_le _, Nat.zero_le _⟩ (pc := 5) dX9_back_5 (fun H locs hP hS => ?_)
    change W p l e _ s m _ below meth c H locs _ _ _ (F0 m (5 + 3) ls (.null :: []))
    refine lv_astore_nN (pc := 8) (lv' := [(2, .null), (0, .ref (ga G k0)), (1, .int a1)]) hx hb dX9_back_8 rfl hl (by decide) rfl (fun ls hl => ?_)
    refine lv_aload_nN (pc := 9) hx hb dX9_back_9 rfl (lv_at hl 0 rfl) ?_
    refine lv_ifnonnullN (pc := 10) hx hb dX9_back_10 ?_
    refine lv_iconst (pc := 13) (v := (-1)) hx hb dX9_back_13 (by decide) ?_
    obtain ⟨rfl, rfl⟩ := inj2 h
    exact r_iret X hP hS dX9_back_14
  · have h := onr_s h
    obtain ⟨hq5, h⟩ := grd_inv h
    refine cl_X9_103 X hP hS (kf_9_hall hk0).1 (As := [.int a1]) (rest := []) (c_X2_lotAt l G (kf_9_hall hk0).1 e2) ⟨rfl, rfl, Nat.le_of_ble_eq_true rfl, Nat.le_of_ble_eq_true rfl⟩ rfl hl.1 rfl (Nat.le_of_ble_eq_true rfl) ⟨Nat.zero_le _, Nat.zero_le _⟩ (pc := 5) dX9_back_5 (fun H locs hP hS => ?_)
    change W p l e _ s m _ below meth c H locs _ _ _ (F0 m (5 + 3) ls (.ref (ga G q4) :: []))
    refine lv_astore_n (pc := 8) (lv' := [(2, .ref (ga G q4)), (0, .ref (ga G k0)), (1, .int a1)]) hx hb dX9_back_8 rfl hl (by decide) rfl (fun ls hl => ?_)
    refine lv_aload_n (pc := 9) hx hb dX9_back_9 rfl (lv_at hl 0 rfl) ?_
    refine lv_ifnonnull (pc := 10) (tgt := 15) hx hb dX9_back_10 (by decide) ?_
    refine lv_aload_n (pc := 15) hx hb dX9_back_15 rfl (lv_at hl 0 rfl) ?_
    refine gt_X9_115 X hP hq5 dX9_back_16 ?_
    refine lv_if_ne (pc := 19) (tgt := 25) hx hb dX9_back_19 (by decide) (fun c6 => ?_) (fun c6 => ?_)
    · have h := ineg c6 h
      refine lv_aload_n (pc := 25) hx hb dX9_back_25 rfl (lv_at hl 1 rfl) ?_
      refine gt_X9_12 X hP hk0 dX9_back_26 ?_
      refine lv_aload_n (pc := 29) hx hb dX9_back_29 rfl (lv_at hl 0 rfl) ?_
      refine gt_X9_121 X hP hq5 dX9_back_30 ?_
      obtain ⟨r9, σ7, e8, h⟩ := bnd2 h
      rcases r9 with _ | q10
      · have h := onr_n h
        refine cl_X9_138 X hP hS (kf_9_hall hk0).1 (As := [.int (gI σ1 q4 4)]) (rest := []) (c_X2_bidderAt l G (kf_9_hall hk0).1 e8) ⟨rfl, rfl, Nat.le_of_ble_eq_true rfl, Nat.le_of_ble_eq_true rfl⟩ rfl hl.1 rfl (Nat.le_of_ble_eq_true rfl) ⟨Nat.zero_le _, Nat.zero_le _⟩ (pc := 33) dX9_back_33 (fun H locs hP hS => ?_)
        change W p l e _ s m _ below meth c H locs _ _ _ (F0 m (33 + 3) ls (.null :: []))
        refine lv_astore_nN (pc := 36) (lv' := [(3, .null), (2, .ref (ga G q4)), (0, .ref (ga G k0)), (1, .int a1)]) hx hb dX9_back_36 rfl hl (by decide) rfl (fun ls hl => ?_)
        refine lv_aload_nN (pc := 37) hx hb dX9_back_37 rfl (lv_at hl 0 rfl) ?_
        refine lv_ifnullN (pc := 38) (tgt := 60) hx hb dX9_back_38 (by decide) ?_
        refine lv_aload_n (pc := 60) hx hb dX9_back_60 rfl (lv_at hl 1 rfl) ?_
        obtain ⟨σ12, e13, h⟩ := bnd1 h
        refine cl_X9_206 X hP hS hq5 (As := []) (rest := []) (c_X3_unsell l G hq5 e13) ⟨rfl, rfl, Nat.le_of_ble_eq_true rfl, Nat.le_of_ble_eq_true rfl⟩ rfl hl.1 rfl (Nat.le_of_ble_eq_true rfl) ⟨Nat.zero_le _, Nat.zero_le _⟩ (pc := 61) dX9_back_61 (fun H locs hP hS => ?_)
        change W p l e _ s m _ below meth c H locs _ _ _ (F0 m (61 + 3) ls [])
        refine lv_iconst (pc := 64) (v := 1) hx hb dX9_back_64 (by decide) ?_
        obtain ⟨rfl, rfl⟩ := inj2 h
        exact r_iret X hP hS dX9_back_65
      · have h := onr_s h
        obtain ⟨hq11, h⟩ := grd_inv h
        refine cl_X9_138 X hP hS (kf_9_hall hk0).1 (As := [.int (gI σ1 q4 4)]) (rest := []) (c_X2_bidderAt l G (kf_9_hall hk0).1 e8) ⟨rfl, rfl, Nat.le_of_ble_eq_true rfl, Nat.le_of_ble_eq_true rfl⟩ rfl hl.1 rfl (Nat.le_of_ble_eq_true rfl) ⟨Nat.zero_le _, Nat.zero_le _⟩ (pc := 33) dX9_back_33 (fun H locs hP hS => ?_)
        change W p l e _ s m _ below meth c H locs _ _ _ (F0 m (33 + 3) ls (.ref (ga G q10) :: []))
        refine lv_astore_n (pc := 36) (lv' := [(3, .ref (ga G q10)), (2, .ref (ga G q4)), (0, .ref (ga G k0)), (1, .int a1)]) hx hb dX9_back_36 rfl hl (by decide) rfl (fun ls hl => ?_)
        refine lv_aload_n (pc := 37) hx hb dX9_back_37 rfl (lv_at hl 0 rfl) ?_
        refine lv_ifnull (pc := 38) hx hb dX9_back_38 ?_
        refine lv_aload_n (pc := 41) hx hb dX9_back_41 rfl (lv_at hl 0 rfl) ?_
        refine lv_aload_n (pc := 42) hx hb dX9_back_42 rfl (lv_at hl 0 rfl) ?_
        refine gt_X9_153 X hP hq11 dX9_back_43 ?_
        refine lv_aload_n (pc := 46) hx hb dX9_back_46 rfl (lv_at hl 1 rfl) ?_
        refine gt_X9_118 X hP hq5 dX9_back_47 ?_
        refine lv_iadd (pc := 50) hx hb dX9_back_50 ?_
        refine lv_sipush (pc := 51) (v := (9999)) hx hb dX9_back_51 (by decide) ?_
        refine va_mmin (pc := 54) hx hb (X.hml.trans hl.1.symm) X.hown (X.tb tw_652 rfl) (X.tb tw_560 rfl) (X.tb tw_17 rfl) (X.tb tw_561 rfl) (Nat.le_of_ble_eq_true rfl) (Nat.le_of_ble_eq_true rfl) (Nat.le_of_ble_eq_true rfl) (Nat.le_of_ble_eq_true rfl) dX9_back_54 ?_
        obtain ⟨σ14, e15, h⟩ := bnd1 h
        refine pt_X9_153 X hP hS hq11 dX9_back_57 (fun H locs hP hS => ?_)
        rw [Option.some.inj e15] at hP
        refine lv_aload_n (pc := 60) hx hb dX9_back_60 rfl (lv_at hl 1 rfl) ?_
        obtain ⟨σ16, e17, h⟩ := bnd1 h
        refine cl_X9_206 X hP hS hq5 (As := []) (rest := []) (c_X3_unsell l G hq5 e17) ⟨rfl, rfl, Nat.le_of_ble_eq_true rfl, Nat.le_of_ble_eq_true rfl⟩ rfl hl.1 rfl (Nat.le_of_ble_eq_true rfl) ⟨Nat.zero_le _, Nat.zero_le _⟩ (pc := 61) dX9_back_61 (fun H locs hP hS => ?_)
        change W p l e _ s m _ below meth c H locs _ _ _ (F0 m (61 + 3) ls [])
        refine lv_iconst (pc := 64) (v := 1) hx hb dX9_back_64 (by decide) ?_
        obtain ⟨rfl, rfl⟩ := inj2 h
        exact r_iret X hP hS dX9_back_65
    · have h := ipos c6 h
      refine lv_bipush (pc := 22) (v := (-4)) hx hb dX9_back_22 (by decide) ?_
      obtain ⟨rfl, rfl⟩ := inj2 h
      exact r_iret X hP hS dX9_back_24
def f_X8_burnAnew_RIN (k0 : Nat) (a1 : Nat) (a2 : Int32) (σ : Mem) : Option (Int32 × Mem) :=
  bd1 (f_X8_setStage k0 a1 a2 σ) fun σ1 =>
  bd2 (f_X2_goTicks_IN (k0 + 1) (60 : Int32) σ1) fun r5 σ3 =>
  some (r5, σ3)
abbrev RM_X8_burnAnew_RIN : Room := { frames := 5, cells := 0, slots := 0, locals := 114 }
set_option maxHeartbeats 4000000 in
set_option maxRecDepth 100000 in
theorem c_X8_burnAnew_RIN (l : Launch) (G : Gh) {k0 : Nat} {a1 : Nat} {a2 : Int32} {σ : Mem} {rr : Int32} {σr : Mem} (hk0 : kd k0 = 8) (hk1 : kd a1 = 2) (h : f_X8_burnAnew_RIN k0 a1 a2 σ = some (rr, σr)) : Met l yX8_burnAnew [Cond.code yX8_burnAnew prog_10_method_2_code 4 (some .int)] RM_X8_burnAnew_RIN (va_Pc [.ref (ga G k0), .ref (ga G a1), .int a2, .null] (Pre G σ)) (QG G (some (.int rr)) σr) 0 0 (AA G) := by
  refine ct_of (by decide) (fun p e s m below meth c X hP => ?_)
  have hx := X.hx
  have hb := X.hb
  have hS : va_S (AA G) s.heap s.heap [] := va_S.rf
  have hl := lv_entry ([.ref (ga G k0), .ref (ga G a1), .int a2, .null]) (n := 4) (Nat.le_of_ble_eq_true rfl)
  rw [lg_entry_eq]
  generalize (lg_sl ([.ref (ga G k0), .ref (ga G a1), .int a2, .null]) ++ List.replicate (4 - (lg_sl ([.ref (ga G k0), .ref (ga G a1), .int a2, .null])).length) Slot.unset).toArray = ls at hl ⊢
  have hl : lv_has ls 4 [(0, .ref (ga G k0)), (1, .ref (ga G a1)), (2, .int a2), (3, .null)] := hl
  unfold f_X8_burnAnew_RIN at h
  refine lv_aload_n (pc := 0) hx hb dX8_burnAnew_0 rfl (lv_at hl 0 rfl) ?_
  refine lv_aload_n (pc := 1) hx hb dX8_burnAnew_1 rfl (lv_at hl 1 rfl) ?_
  refine lv_iload_n (pc := 2) hx hb dX8_burnAnew_2 rfl (lv_at hl 2 rfl) ?_
  obtain ⟨σ1, e2, h⟩ := bnd1 h
  refine cl_X8_40 X hP hS hk0 (As := [.ref (ga G a1), .int a2]) (rest := []) (c_X8_setStage l G hk0 hk1 e2) ⟨rfl, rfl, Nat.le_of_ble_eq_true rfl, Nat.le_of_ble_eq_true rfl⟩ rfl hl.1 rfl (Nat.le_of_ble_eq_true rfl) ⟨Nat.zero_le _, Nat.zero_le _⟩ (pc := 3) dX8_burnAnew_3 (fun H locs hP hS => ?_)
  change W p l e _ s m _ below meth c H locs _ _ _ (F0 m (3 + 3) ls [])
  refine lv_aload_n (pc := 6) hx hb dX8_burnAnew_6 rfl (lv_at hl 0 rfl) ?_
  refine gt_X8_12 X hP hk0 dX8_burnAnew_7 ?_
  refine lv_bipush (pc := 10) (v := (60)) hx hb dX8_burnAnew_10 (by decide) ?_
  refine lv_aload_nN (pc := 12) hx hb dX8_burnAnew_12 rfl (lv_at hl 3 rfl) ?_
  obtain ⟨r5, σ3, e4, h⟩ := bnd2 h
  refine cl_X8_44 X hP hS (kf_8_stage hk0).1 (As := [.int (60 : Int32), .null]) (rest := []) (c_X2_goTicks_IN l G (kf_8_stage hk0).1 e4) ⟨rfl, rfl, Nat.le_of_ble_eq_true rfl, Nat.le_of_ble_eq_true rfl⟩ rfl hl.1 rfl (Nat.le_of_ble_eq_true rfl) ⟨Nat.zero_le _, Nat.zero_le _⟩ (pc := 13) dX8_burnAnew_13 (fun H locs hP hS => ?_)
  change W p l e _ s m _ below meth c H locs _ _ _ (F0 m (13 + 3) ls (.int r5 :: []))
  obtain ⟨rfl, rfl⟩ := inj2 h
  exact r_iret X hP hS dX8_burnAnew_16
def f_X9_end (k0 : Nat) (a1 : Int32) (σ : Mem) : Option (Int32 × Mem) :=
  bd2 (f_X2_unsoldAt (k0 + 1) a1 σ) fun r3 σ1 =>
  onr r3 (
    some ((-1 : Int32), σ1)
    ) fun q4 => grd (kd q4 = 3) <|
    bd2 (f_X8_burnAnew_RIN (k0 + 48) (k0 + 1) a1 σ1) fun r8 σ6 =>
    some (r8, σ6)
abbrev RM_X9_end : Room := { frames := 6, cells := 0, slots := 0, locals := 137 }
set_option maxHeartbeats 4000000 in
set_option maxRecDepth 100000 in
theorem c_X9_end (l : Launch) (G : Gh) {k0 : Nat} {a1 : Int32} {σ : Mem} {rr : Int32} {σr : Mem} (hk0 : kd k0 = 9) (h : f_X9_end k0 a1 σ = some (rr, σr)) : Met l yX9_end [Cond.code yX9_end prog_1_method_21_code 2 (some .int)] RM_X9_end (va_Pc [.ref (ga G k0), .int a1] (Pre G σ)) (QG G (some (.int rr)) σr) 0 0 (AA G) := by
  refine ct_of (by decide) (fun p e s m below meth c X hP => ?_)
  have hx := X.hx
  have hb := X.hb
  have hS : va_S (AA G) s.heap s.heap [] := va_S.rf
  have hl := lv_entry ([.ref (ga G k0), .int a1]) (n := 2) (Nat.le_of_ble_eq_true rfl)
  rw [lg_entry_eq]
  generalize (lg_sl ([.ref (ga G k0), .int a1]) ++ List.replicate (2 - (lg_sl ([.ref (ga G k0), .int a1])).length) Slot.unset).toArray = ls at hl ⊢
  have hl : lv_has ls 2 [(0, .ref (ga G k0)), (1, .int a1)] := hl
  unfold f_X9_end at h
  refine lv_aload_n (pc := 0) hx hb dX9_end_0 rfl (lv_at hl 0 rfl) ?_
  refine gt_X9_12 X hP hk0 dX9_end_1 ?_
  refine lv_iload_n (pc := 4) hx hb dX9_end_4 rfl (lv_at hl 1 rfl) ?_
  obtain ⟨r3, σ1, e2, h⟩ := bnd2 h
  rcases r3 with _ | q4
  · have h := onr_n h
    refine cl_X9_209 X hP hS (kf_9_hall hk0).1 (As := [.int a1]) (rest := []) (c_X2_unsoldAt l G (kf_9_hall hk0).1 e2) ⟨rfl, rfl, Nat.le_of_ble_eq_true rfl, Nat.le_of_ble_eq_true rfl⟩ rfl hl.1 rfl (Nat.le_of_ble_eq_true rfl) ⟨Nat.zero_le _, Nat.zero_le _⟩ (pc := 5) dX9_end_5 (fun H locs hP hS => ?_)
    change W p l e _ s m _ below meth c H locs _ _ _ (F0 m (5 + 3) ls (.null :: []))
    refine lv_ifnonnullN (pc := 8) hx hb dX9_end_8 ?_
    refine lv_iconst (pc := 11) (v := (-1)) hx hb dX9_end_11 (by decide) ?_
    obtain ⟨rfl, rfl⟩ := inj2 h
    exact r_iret X hP hS dX9_end_12
  · have h := onr_s h
    obtain ⟨hq5, h⟩ := grd_inv h
    refine cl_X9_209 X hP hS (kf_9_hall hk0).1 (As := [.int a1]) (rest := []) (c_X2_unsoldAt l G (kf_9_hall hk0).1 e2) ⟨rfl, rfl, Nat.le_of_ble_eq_true rfl, Nat.le_of_ble_eq_true rfl⟩ rfl hl.1 rfl (Nat.le_of_ble_eq_true rfl) ⟨Nat.zero_le _, Nat.zero_le _⟩ (pc := 5) dX9_end_5 (fun H locs hP hS => ?_)
    change W p l e _ s m _ below meth c H locs _ _ _ (F0 m (5 + 3) ls (.ref (ga G q4) :: []))
    refine lv_ifnonnull (pc := 8) (tgt := 13) hx hb dX9_end_8 (by decide) ?_
    refine lv_aload_n (pc := 13) hx hb dX9_end_13 rfl (lv_at hl 0 rfl) ?_
    refine gt_X9_36 X hP hk0 dX9_end_14 ?_
    refine lv_aload_n (pc := 17) hx hb dX9_end_17 rfl (lv_at hl 0 rfl) ?_
    refine gt_X9_12 X hP hk0 dX9_end_18 ?_
    refine lv_iload_n (pc := 21) hx hb dX9_end_21 rfl (lv_at hl 1 rfl) ?_
    refine lv_null (pc := 22) hx hb dX9_end_22 ?_
    obtain ⟨r8, σ6, e7, h⟩ := bnd2 h
    refine cl_X9_212 X hP hS (kf_9_trials hk0).1 (As := [.ref (ga G (k0 + 1)), .int a1, .null]) (rest := []) (c_X8_burnAnew_RIN l G (kf_9_trials hk0).1 (kf_9_hall hk0).1 e7) ⟨rfl, rfl, Nat.le_of_ble_eq_true rfl, Nat.le_of_ble_eq_true rfl⟩ rfl hl.1 rfl (Nat.le_of_ble_eq_true rfl) ⟨Nat.zero_le _, Nat.zero_le _⟩ (pc := 23) dX9_end_23 (fun H locs hP hS => ?_)
    change W p l e _ s m _ below meth c H locs _ _ _ (F0 m (23 + 3) ls (.int r8 :: []))
    obtain ⟨rfl, rfl⟩ := inj2 h
    exact r_iret X hP hS dX9_end_26
def f_X9_wins (k0 : Nat) (a1 : Int32) (a2 : Int32) (σ : Mem) : Option (Int32 × Mem) :=
  bd2 (f_X2_unsoldAt (k0 + 1) a1 σ) fun r3 σ1 =>
  onr r3 (
    some ((-1 : Int32), σ1)
    ) fun q4 => grd (kd q4 = 3) <|
    bd2 (f_X9_within a2 (0 : Int32) (1 : Int32) σ1) fun r8 σ6 =>
    if r8 = (0 : Int32) then
      some ((-1 : Int32), σ6)
    else
      bd2 (f_X8_burnAnew_RIN (k0 + 48) (k0 + 1) a1 σ6) fun r12 σ10 =>
      if a2 = (0 : Int32) then
        bd2 (f_X8_winner (k0 + 48) a1 σ10) fun r19 σ17 =>
        some (r19, σ17)
      else
        bd2 (f_X8_price (k0 + 48) a1 σ10) fun r16 σ14 =>
        some (r16, σ14)
abbrev RM_X9_wins : Room := { frames := 6, cells := 0, slots := 0, locals := 137 }
set_option maxHeartbeats 4000000 in
set_option maxRecDepth 100000 in
theorem c_X9_wins (l : Launch) (G : Gh) {k0 : Nat} {a1 : Int32} {a2 : Int32} {σ : Mem} {rr : Int32} {σr : Mem} (hk0 : kd k0 = 9) (h : f_X9_wins k0 a1 a2 σ = some (rr, σr)) : Met l yX9_wins [Cond.code yX9_wins prog_1_method_22_code 3 (some .int)] RM_X9_wins (va_Pc [.ref (ga G k0), .int a1, .int a2] (Pre G σ)) (QG G (some (.int rr)) σr) 0 0 (AA G) := by
  refine ct_of (by decide) (fun p e s m below meth c X hP => ?_)
  have hx := X.hx
  have hb := X.hb
  have hS : va_S (AA G) s.heap s.heap [] := va_S.rf
  have hl := lv_entry ([.ref (ga G k0), .int a1, .int a2]) (n := 3) (Nat.le_of_ble_eq_true rfl)
  rw [lg_entry_eq]
  generalize (lg_sl ([.ref (ga G k0), .int a1, .int a2]) ++ List.replicate (3 - (lg_sl ([.ref (ga G k0), .int a1, .int a2])).length) Slot.unset).toArray = ls at hl ⊢
  have hl : lv_has ls 3 [(0, .ref (ga G k0)), (1, .int a1), (2, .int a2)] := hl
  unfold f_X9_wins at h
  refine lv_aload_n (pc := 0) hx hb dX9_wins_0 rfl (lv_at hl 0 rfl) ?_
  refine gt_X9_12 X hP hk0 dX9_wins_1 ?_
  refine lv_iload_n (pc := 4) hx hb dX9_wins_4 rfl (lv_at hl 1 rfl) ?_
  obtain ⟨r3, σ1, e2, h⟩ := bnd2 h
  rcases r3 with _ | q4
  · have h := onr_n h
    refine cl_X9_209 X hP hS (kf_9_hall hk0).1 (As := [.int a1]) (rest := []) (c_X2_unsoldAt l G (kf_9_hall hk0).1 e2) ⟨rfl, rfl, Nat.le_of_ble_eq_true rfl, Nat.le_of_ble_eq_true rfl⟩ rfl hl.1 rfl (Nat.le_of_ble_eq_true rfl) ⟨Nat.zero_le _, Nat.zero_le _⟩ (pc := 5) dX9_wins_5 (fun H locs hP hS => ?_)
    change W p l e _ s m _ below meth c H locs _ _ _ (F0 m (5 + 3) ls (.null :: []))
    refine lv_ifnullN (pc := 8) (tgt := 20) hx hb dX9_wins_8 (by decide) ?_
    refine lv_iconst (pc := 20) (v := (-1)) hx hb dX9_wins_20 (by decide) ?_
    obtain ⟨rfl, rfl⟩ := inj2 h
    exact r_iret X hP hS dX9_wins_21
  · have h := onr_s h
    obtain ⟨hq5, h⟩ := grd_inv h
    refine cl_X9_209 X hP hS (kf_9_hall hk0).1 (As := [.int a1]) (rest := []) (c_X2_unsoldAt l G (kf_9_hall hk0).1 e2) ⟨rfl, rfl, Nat.le_of_ble_eq_true rfl, Nat.le_of_ble_eq_true rfl⟩ rfl hl.1 rfl (Nat.le_of_ble_eq_true rfl) ⟨Nat.zero_le _, Nat.zero_le _⟩ (pc := 5) dX9_wins_5 (fun H locs hP hS => ?_)
    change W p l e _ s m _ below meth c H locs _ _ _ (F0 m (5 + 3) ls (.ref (ga G q4) :: []))
    refine lv_ifnull (pc := 8) hx hb dX9_wins_8 ?_
    refine lv_iload_n (pc := 11) hx hb dX9_wins_11 rfl (lv_at hl 2 rfl) ?_
    refine lv_iconst (pc := 12) (v := 0) hx hb dX9_wins_12 (by decide) ?_
    refine lv_iconst (pc := 13) (v := 1) hx hb dX9_wins_13 (by decide) ?_
    obtain ⟨r8, σ6, e7, h⟩ := bnd2 h
    refine cl_X9_71 X hP hS (As := [.int a2, .int (0 : Int32), .int (1 : Int32)]) (rest := []) (c_X9_within l G  e7) ⟨rfl, rfl, Nat.le_of_ble_eq_true rfl, Nat.le_of_ble_eq_true rfl⟩ rfl hl.1 rfl (Nat.le_of_ble_eq_true rfl) ⟨Nat.zero_le _, Nat.zero_le _⟩ (pc := 14) dX9_wins_14 (fun H locs hP hS => ?_)
    change W p l e _ s m _ below meth c H locs _ _ _ (F0 m (14 + 3) ls (.int r8 :: []))
    refine lv_if_ne (pc := 17) (tgt := 22) hx hb dX9_wins_17 (by decide) (fun c9 => ?_) (fun c9 => ?_)
    · have h := ineg c9 h
      refine lv_aload_n (pc := 22) hx hb dX9_wins_22 rfl (lv_at hl 0 rfl) ?_
      refine gt_X9_36 X hP hk0 dX9_wins_23 ?_
      refine lv_aload_n (pc := 26) hx hb dX9_wins_26 rfl (lv_at hl 0 rfl) ?_
      refine gt_X9_12 X hP hk0 dX9_wins_27 ?_
      refine lv_iload_n (pc := 30) hx hb dX9_wins_30 rfl (lv_at hl 1 rfl) ?_
      refine lv_null (pc := 31) hx hb dX9_wins_31 ?_
      obtain ⟨r12, σ10, e11, h⟩ := bnd2 h
      refine cl_X9_212 X hP hS (kf_9_trials hk0).1 (As := [.ref (ga G (k0 + 1)), .int a1, .null]) (rest := []) (c_X8_burnAnew_RIN l G (kf_9_trials hk0).1 (kf_9_hall hk0).1 e11) ⟨rfl, rfl, Nat.le_of_ble_eq_true rfl, Nat.le_of_ble_eq_true rfl⟩ rfl hl.1 rfl (Nat.le_of_ble_eq_true rfl) ⟨Nat.zero_le _, Nat.zero_le _⟩ (pc := 32) dX9_wins_32 (fun H locs hP hS => ?_)
      change W p l e _ s m _ below meth c H locs _ _ _ (F0 m (32 + 3) ls (.int r12 :: []))
      refine lv_pop (pc := 35) hx hb dX9_wins_35 rfl ?_
      refine lv_iload_n (pc := 36) hx hb dX9_wins_36 rfl (lv_at hl 2 rfl) ?_
      refine lv_if_ne (pc := 37) (tgt := 51) hx hb dX9_wins_37 (by decide) (fun c13 => ?_) (fun c13 => ?_)
      · have h := ineg c13 h
        refine lv_aload_n (pc := 51) hx hb dX9_wins_51 rfl (lv_at hl 0 rfl) ?_
        refine gt_X9_36 X hP hk0 dX9_wins_52 ?_
        refine lv_iload_n (pc := 55) hx hb dX9_wins_55 rfl (lv_at hl 1 rfl) ?_
        obtain ⟨r16, σ14, e15, h⟩ := bnd2 h
        refine cl_X9_219 X hP hS (kf_9_trials hk0).1 (As := [.int a1]) (rest := []) (c_X8_price l G (kf_9_trials hk0).1 e15) ⟨rfl, rfl, Nat.le_of_ble_eq_true rfl, Nat.le_of_ble_eq_true rfl⟩ rfl hl.1 rfl (Nat.le_of_ble_eq_true rfl) ⟨Nat.zero_le _, Nat.zero_le _⟩ (pc := 56) dX9_wins_56 (fun H locs hP hS => ?_)
        change W p l e _ s m _ below meth c H locs _ _ _ (F0 m (56 + 3) ls (.int r16 :: []))
        obtain ⟨rfl, rfl⟩ := inj2 h
        exact r_iret X hP hS dX9_wins_59
      · have h := ipos c13 h
        refine lv_aload_n (pc := 40) hx hb dX9_wins_40 rfl (lv_at hl 0 rfl) ?_
        refine gt_X9_36 X hP hk0 dX9_wins_41 ?_
        refine lv_iload_n (pc := 44) hx hb dX9_wins_44 rfl (lv_at hl 1 rfl) ?_
        obtain ⟨r19, σ17, e18, h⟩ := bnd2 h
        refine cl_X9_216 X hP hS (kf_9_trials hk0).1 (As := [.int a1]) (rest := []) (c_X8_winner l G (kf_9_trials hk0).1 e18) ⟨rfl, rfl, Nat.le_of_ble_eq_true rfl, Nat.le_of_ble_eq_true rfl⟩ rfl hl.1 rfl (Nat.le_of_ble_eq_true rfl) ⟨Nat.zero_le _, Nat.zero_le _⟩ (pc := 45) dX9_wins_45 (fun H locs hP hS => ?_)
        change W p l e _ s m _ below meth c H locs _ _ _ (F0 m (45 + 3) ls (.int r19 :: []))
        refine lv_goto (pc := 48) (tgt := 59) hx hb dX9_wins_48 (by decide) ?_
        obtain ⟨rfl, rfl⟩ := inj2 h
        exact r_iret X hP hS dX9_wins_59
    · have h := ipos c9 h
      refine lv_iconst (pc := 20) (v := (-1)) hx hb dX9_wins_20 (by decide) ?_
      obtain ⟨rfl, rfl⟩ := inj2 h
      exact r_iret X hP hS dX9_wins_21
def f_X9_patience (k0 : Nat) (a1 : Int32) (a2 : Int32) (σ : Mem) : Option (Int32 × Mem) :=
  bd2 (f_X2_bidderAt (k0 + 1) a1 σ) fun r3 σ1 =>
  onr r3 (
    some ((-1 : Int32), σ1)
    ) fun q4 => grd (kd q4 = 0) <|
    bd2 (f_X2_unsoldAt (k0 + 1) a2 σ1) fun r8 σ6 =>
    onr r8 (
      some ((-1 : Int32), σ6)
      ) fun q9 => grd (kd q9 = 3) <|
      bd2 (f_X8_bestPatience (k0 + 48) (k0 + 1) a1 a2 σ6) fun r13 σ11 =>
      some (r13, σ11)
abbrev RM_X9_patience : Room := { frames := 6, cells := 0, slots := 0, locals := 139 }
set_option maxHeartbeats 4000000 in
set_option maxRecDepth 100000 in
theorem c_X9_patience (l : Launch) (G : Gh) {k0 : Nat} {a1 : Int32} {a2 : Int32} {σ : Mem} {rr : Int32} {σr : Mem} (hk0 : kd k0 = 9) (h : f_X9_patience k0 a1 a2 σ = some (rr, σr)) : Met l yX9_patience [Cond.code yX9_patience prog_1_method_23_code 3 (some .int)] RM_X9_patience (va_Pc [.ref (ga G k0), .int a1, .int a2] (Pre G σ)) (QG G (some (.int rr)) σr) 0 0 (AA G) := by
  refine ct_of (by decide) (fun p e s m below meth c X hP => ?_)
  have hx := X.hx
  have hb := X.hb
  have hS : va_S (AA G) s.heap s.heap [] := va_S.rf
  have hl := lv_entry ([.ref (ga G k0), .int a1, .int a2]) (n := 3) (Nat.le_of_ble_eq_true rfl)
  rw [lg_entry_eq]
  generalize (lg_sl ([.ref (ga G k0), .int a1, .int a2]) ++ List.replicate (3 - (lg_sl ([.ref (ga G k0), .int a1, .int a2])).length) Slot.unset).toArray = ls at hl ⊢
  have hl : lv_has ls 3 [(0, .ref (ga G k0)), (1, .int a1), (2, .int a2)] := hl
  unfold f_X9_patience at h
  refine lv_aload_n (pc := 0) hx hb dX9_patience_0 rfl (lv_at hl 0 rfl) ?_
  refine gt_X9_12 X hP hk0 dX9_patience_1 ?_
  refine lv_iload_n (pc := 4) hx hb dX9_patience_4 rfl (lv_at hl 1 rfl) ?_
  obtain ⟨r3, σ1, e2, h⟩ := bnd2 h
  rcases r3 with _ | q4
  · have h := onr_n h
    refine cl_X9_138 X hP hS (kf_9_hall hk0).1 (As := [.int a1]) (rest := []) (c_X2_bidderAt l G (kf_9_hall hk0).1 e2) ⟨rfl, rfl, Nat.le_of_ble_eq_true rfl, Nat.le_of_ble_eq_true rfl⟩ rfl hl.1 rfl (Nat.le_of_ble_eq_true rfl) ⟨Nat.zero_le _, Nat.zero_le _⟩ (pc := 5) dX9_patience_5 (fun H locs hP hS => ?_)
    change W p l e _ s m _ below meth c H locs _ _ _ (F0 m (5 + 3) ls (.null :: []))
    refine lv_ifnullN (pc := 8) (tgt := 22) hx hb dX9_patience_8 (by decide) ?_
    refine lv_iconst (pc := 22) (v := (-1)) hx hb dX9_patience_22 (by decide) ?_
    obtain ⟨rfl, rfl⟩ := inj2 h
    exact r_iret X hP hS dX9_patience_23
  · have h := onr_s h
    obtain ⟨hq5, h⟩ := grd_inv h
    refine cl_X9_138 X hP hS (kf_9_hall hk0).1 (As := [.int a1]) (rest := []) (c_X2_bidderAt l G (kf_9_hall hk0).1 e2) ⟨rfl, rfl, Nat.le_of_ble_eq_true rfl, Nat.le_of_ble_eq_true rfl⟩ rfl hl.1 rfl (Nat.le_of_ble_eq_true rfl) ⟨Nat.zero_le _, Nat.zero_le _⟩ (pc := 5) dX9_patience_5 (fun H locs hP hS => ?_)
    change W p l e _ s m _ below meth c H locs _ _ _ (F0 m (5 + 3) ls (.ref (ga G q4) :: []))
    refine lv_ifnull (pc := 8) hx hb dX9_patience_8 ?_
    refine lv_aload_n (pc := 11) hx hb dX9_patience_11 rfl (lv_at hl 0 rfl) ?_
    refine gt_X9_12 X hP hk0 dX9_patience_12 ?_
    refine lv_iload_n (pc := 15) hx hb dX9_patience_15 rfl (lv_at hl 2 rfl) ?_
    obtain ⟨r8, σ6, e7, h⟩ := bnd2 h
    rcases r8 with _ | q9
    · have h := onr_n h
      refine cl_X9_209 X hP hS (kf_9_hall hk0).1 (As := [.int a2]) (rest := []) (c_X2_unsoldAt l G (kf_9_hall hk0).1 e7) ⟨rfl, rfl, Nat.le_of_ble_eq_true rfl, Nat.le_of_ble_eq_true rfl⟩ rfl hl.1 rfl (Nat.le_of_ble_eq_true rfl) ⟨Nat.zero_le _, Nat.zero_le _⟩ (pc := 16) dX9_patience_16 (fun H locs hP hS => ?_)
      change W p l e _ s m _ below meth c H locs _ _ _ (F0 m (16 + 3) ls (.null :: []))
      refine lv_ifnonnullN (pc := 19) hx hb dX9_patience_19 ?_
      refine lv_iconst (pc := 22) (v := (-1)) hx hb dX9_patience_22 (by decide) ?_
      obtain ⟨rfl, rfl⟩ := inj2 h
      exact r_iret X hP hS dX9_patience_23
    · have h := onr_s h
      obtain ⟨hq10, h⟩ := grd_inv h
      refine cl_X9_209 X hP hS (kf_9_hall hk0).1 (As := [.int a2]) (rest := []) (c_X2_unsoldAt l G (kf_9_hall hk0).1 e7) ⟨rfl, rfl, Nat.le_of_ble_eq_true rfl, Nat.le_of_ble_eq_true rfl⟩ rfl hl.1 rfl (Nat.le_of_ble_eq_true rfl) ⟨Nat.zero_le _, Nat.zero_le _⟩ (pc := 16) dX9_patience_16 (fun H locs hP hS => ?_)
      change W p l e _ s m _ below meth c H locs _ _ _ (F0 m (16 + 3) ls (.ref (ga G q9) :: []))
      refine lv_ifnonnull (pc := 19) (tgt := 24) hx hb dX9_patience_19 (by decide) ?_
      refine lv_aload_n (pc := 24) hx hb dX9_patience_24 rfl (lv_at hl 0 rfl) ?_
      refine gt_X9_36 X hP hk0 dX9_patience_25 ?_
      refine lv_aload_n (pc := 28) hx hb dX9_patience_28 rfl (lv_at hl 0 rfl) ?_
      refine gt_X9_12 X hP hk0 dX9_patience_29 ?_
      refine lv_iload_n (pc := 32) hx hb dX9_patience_32 rfl (lv_at hl 1 rfl) ?_
      refine lv_iload_n (pc := 33) hx hb dX9_patience_33 rfl (lv_at hl 2 rfl) ?_
      obtain ⟨r13, σ11, e12, h⟩ := bnd2 h
      refine cl_X9_221 X hP hS (kf_9_trials hk0).1 (As := [.ref (ga G (k0 + 1)), .int a1, .int a2]) (rest := []) (c_X8_bestPatience l G (kf_9_trials hk0).1 (kf_9_hall hk0).1 e12) ⟨rfl, rfl, Nat.le_of_ble_eq_true rfl, Nat.le_of_ble_eq_true rfl⟩ rfl hl.1 rfl (Nat.le_of_ble_eq_true rfl) ⟨Nat.zero_le _, Nat.zero_le _⟩ (pc := 34) dX9_patience_34 (fun H locs hP hS => ?_)
      change W p l e _ s m _ below meth c H locs _ _ _ (F0 m (34 + 3) ls (.int r13 :: []))
      obtain ⟨rfl, rfl⟩ := inj2 h
      exact r_iret X hP hS dX9_patience_37
def f_X9_gust (k0 : Nat) (a1 : Int32) (a2 : Int32) (σ : Mem) : Option (Int32 × Mem) :=
  bd2 (f_X2_bidderAt (k0 + 1) a1 σ) fun r3 σ1 =>
  onr r3 (
    some ((-1 : Int32), σ1)
    ) fun q4 => grd (kd q4 = 0) <|
    bd2 (f_X2_unsoldAt (k0 + 1) a2 σ1) fun r8 σ6 =>
    onr r8 (
      some ((-1 : Int32), σ6)
      ) fun q9 => grd (kd q9 = 3) <|
      bd2 (f_X8_bestGust (k0 + 48) (k0 + 1) a1 a2 σ6) fun r13 σ11 =>
      some (r13, σ11)
abbrev RM_X9_gust : Room := { frames := 6, cells := 0, slots := 0, locals := 139 }
set_option maxHeartbeats 4000000 in
set_option maxRecDepth 100000 in
theorem c_X9_gust (l : Launch) (G : Gh) {k0 : Nat} {a1 : Int32} {a2 : Int32} {σ : Mem} {rr : Int32} {σr : Mem} (hk0 : kd k0 = 9) (h : f_X9_gust k0 a1 a2 σ = some (rr, σr)) : Met l yX9_gust [Cond.code yX9_gust prog_1_method_24_code 3 (some .int)] RM_X9_gust (va_Pc [.ref (ga G k0), .int a1, .int a2] (Pre G σ)) (QG G (some (.int rr)) σr) 0 0 (AA G) := by
  refine ct_of (by decide) (fun p e s m below meth c X hP => ?_)
  have hx := X.hx
  have hb := X.hb
  have hS : va_S (AA G) s.heap s.heap [] := va_S.rf
  have hl := lv_entry ([.ref (ga G k0), .int a1, .int a2]) (n := 3) (Nat.le_of_ble_eq_true rfl)
  rw [lg_entry_eq]
  generalize (lg_sl ([.ref (ga G k0), .int a1, .int a2]) ++ List.replicate (3 - (lg_sl ([.ref (ga G k0), .int a1, .int a2])).length) Slot.unset).toArray = ls at hl ⊢
  have hl : lv_has ls 3 [(0, .ref (ga G k0)), (1, .int a1), (2, .int a2)] := hl
  unfold f_X9_gust at h
  refine lv_aload_n (pc := 0) hx hb dX9_gust_0 rfl (lv_at hl 0 rfl) ?_
  refine gt_X9_12 X hP hk0 dX9_gust_1 ?_
  refine lv_iload_n (pc := 4) hx hb dX9_gust_4 rfl (lv_at hl 1 rfl) ?_
  obtain ⟨r3, σ1, e2, h⟩ := bnd2 h
  rcases r3 with _ | q4
  · have h := onr_n h
    refine cl_X9_138 X hP hS (kf_9_hall hk0).1 (As := [.int a1]) (rest := []) (c_X2_bidderAt l G (kf_9_hall hk0).1 e2) ⟨rfl, rfl, Nat.le_of_ble_eq_true rfl, Nat.le_of_ble_eq_true rfl⟩ rfl hl.1 rfl (Nat.le_of_ble_eq_true rfl) ⟨Nat.zero_le _, Nat.zero_le _⟩ (pc := 5) dX9_gust_5 (fun H locs hP hS => ?_)
    change W p l e _ s m _ below meth c H locs _ _ _ (F0 m (5 + 3) ls (.null :: []))
    refine lv_ifnullN (pc := 8) (tgt := 22) hx hb dX9_gust_8 (by decide) ?_
    refine lv_iconst (pc := 22) (v := (-1)) hx hb dX9_gust_22 (by decide) ?_
    obtain ⟨rfl, rfl⟩ := inj2 h
    exact r_iret X hP hS dX9_gust_23
  · have h := onr_s h
    obtain ⟨hq5, h⟩ := grd_inv h
    refine cl_X9_138 X hP hS (kf_9_hall hk0).1 (As := [.int a1]) (rest := []) (c_X2_bidderAt l G (kf_9_hall hk0).1 e2) ⟨rfl, rfl, Nat.le_of_ble_eq_true rfl, Nat.le_of_ble_eq_true rfl⟩ rfl hl.1 rfl (Nat.le_of_ble_eq_true rfl) ⟨Nat.zero_le _, Nat.zero_le _⟩ (pc := 5) dX9_gust_5 (fun H locs hP hS => ?_)
    change W p l e _ s m _ below meth c H locs _ _ _ (F0 m (5 + 3) ls (.ref (ga G q4) :: []))
    refine lv_ifnull (pc := 8) hx hb dX9_gust_8 ?_
    refine lv_aload_n (pc := 11) hx hb dX9_gust_11 rfl (lv_at hl 0 rfl) ?_
    refine gt_X9_12 X hP hk0 dX9_gust_12 ?_
    refine lv_iload_n (pc := 15) hx hb dX9_gust_15 rfl (lv_at hl 2 rfl) ?_
    obtain ⟨r8, σ6, e7, h⟩ := bnd2 h
    rcases r8 with _ | q9
    · have h := onr_n h
      refine cl_X9_209 X hP hS (kf_9_hall hk0).1 (As := [.int a2]) (rest := []) (c_X2_unsoldAt l G (kf_9_hall hk0).1 e7) ⟨rfl, rfl, Nat.le_of_ble_eq_true rfl, Nat.le_of_ble_eq_true rfl⟩ rfl hl.1 rfl (Nat.le_of_ble_eq_true rfl) ⟨Nat.zero_le _, Nat.zero_le _⟩ (pc := 16) dX9_gust_16 (fun H locs hP hS => ?_)
      change W p l e _ s m _ below meth c H locs _ _ _ (F0 m (16 + 3) ls (.null :: []))
      refine lv_ifnonnullN (pc := 19) hx hb dX9_gust_19 ?_
      refine lv_iconst (pc := 22) (v := (-1)) hx hb dX9_gust_22 (by decide) ?_
      obtain ⟨rfl, rfl⟩ := inj2 h
      exact r_iret X hP hS dX9_gust_23
    · have h := onr_s h
      obtain ⟨hq10, h⟩ := grd_inv h
      refine cl_X9_209 X hP hS (kf_9_hall hk0).1 (As := [.int a2]) (rest := []) (c_X2_unsoldAt l G (kf_9_hall hk0).1 e7) ⟨rfl, rfl, Nat.le_of_ble_eq_true rfl, Nat.le_of_ble_eq_true rfl⟩ rfl hl.1 rfl (Nat.le_of_ble_eq_true rfl) ⟨Nat.zero_le _, Nat.zero_le _⟩ (pc := 16) dX9_gust_16 (fun H locs hP hS => ?_)
      change W p l e _ s m _ below meth c H locs _ _ _ (F0 m (16 + 3) ls (.ref (ga G q9) :: []))
      refine lv_ifnonnull (pc := 19) (tgt := 24) hx hb dX9_gust_19 (by decide) ?_
      refine lv_aload_n (pc := 24) hx hb dX9_gust_24 rfl (lv_at hl 0 rfl) ?_
      refine gt_X9_36 X hP hk0 dX9_gust_25 ?_
      refine lv_aload_n (pc := 28) hx hb dX9_gust_28 rfl (lv_at hl 0 rfl) ?_
      refine gt_X9_12 X hP hk0 dX9_gust_29 ?_
      refine lv_iload_n (pc := 32) hx hb dX9_gust_32 rfl (lv_at hl 1 rfl) ?_
      refine lv_iload_n (pc := 33) hx hb dX9_gust_33 rfl (lv_at hl 2 rfl) ?_
      obtain ⟨r13, σ11, e12, h⟩ := bnd2 h
      refine cl_X9_225 X hP hS (kf_9_trials hk0).1 (As := [.ref (ga G (k0 + 1)), .int a1, .int a2]) (rest := []) (c_X8_bestGust l G (kf_9_trials hk0).1 (kf_9_hall hk0).1 e12) ⟨rfl, rfl, Nat.le_of_ble_eq_true rfl, Nat.le_of_ble_eq_true rfl⟩ rfl hl.1 rfl (Nat.le_of_ble_eq_true rfl) ⟨Nat.zero_le _, Nat.zero_le _⟩ (pc := 34) dX9_gust_34 (fun H locs hP hS => ?_)
      change W p l e _ s m _ below meth c H locs _ _ _ (F0 m (34 + 3) ls (.int r13 :: []))
      obtain ⟨rfl, rfl⟩ := inj2 h
      exact r_iret X hP hS dX9_gust_37
def f_X9_wax (k0 : Nat) (a1 : Int32) (a2 : Int32) (σ : Mem) : Option (Int32 × Mem) :=
  bd2 (f_X2_unsoldAt (k0 + 1) a1 σ) fun r3 σ1 =>
  onr r3 (
    some ((-1 : Int32), σ1)
    ) fun q4 => grd (kd q4 = 3) <|
    bd2 (f_X9_within a2 (0 : Int32) (1 : Int32) σ1) fun r8 σ6 =>
    if r8 = (0 : Int32) then
      some ((-1 : Int32), σ6)
    else
      bd2 (f_X8_bestWax (k0 + 48) (k0 + 1) a1 σ6) fun r12 σ10 =>
      if a2 = (0 : Int32) then
        some (r12, σ10)
      else
        some ((gI σ10 (k0 + 48) 2), σ10)
abbrev RM_X9_wax : Room := { frames := 6, cells := 0, slots := 0, locals := 138 }
set_option maxHeartbeats 4000000 in
set_option maxRecDepth 100000 in
theorem c_X9_wax (l : Launch) (G : Gh) {k0 : Nat} {a1 : Int32} {a2 : Int32} {σ : Mem} {rr : Int32} {σr : Mem} (hk0 : kd k0 = 9) (h : f_X9_wax k0 a1 a2 σ = some (rr, σr)) : Met l yX9_wax [Cond.code yX9_wax prog_1_method_25_code 4 (some .int)] RM_X9_wax (va_Pc [.ref (ga G k0), .int a1, .int a2] (Pre G σ)) (QG G (some (.int rr)) σr) 0 0 (AA G) := by
  refine ct_of (by decide) (fun p e s m below meth c X hP => ?_)
  have hx := X.hx
  have hb := X.hb
  have hS : va_S (AA G) s.heap s.heap [] := va_S.rf
  have hl := lv_entry ([.ref (ga G k0), .int a1, .int a2]) (n := 4) (Nat.le_of_ble_eq_true rfl)
  rw [lg_entry_eq]
  generalize (lg_sl ([.ref (ga G k0), .int a1, .int a2]) ++ List.replicate (4 - (lg_sl ([.ref (ga G k0), .int a1, .int a2])).length) Slot.unset).toArray = ls at hl ⊢
  have hl : lv_has ls 4 [(0, .ref (ga G k0)), (1, .int a1), (2, .int a2)] := hl
  unfold f_X9_wax at h
  refine lv_aload_n (pc := 0) hx hb dX9_wax_0 rfl (lv_at hl 0 rfl) ?_
  refine gt_X9_12 X hP hk0 dX9_wax_1 ?_
  refine lv_iload_n (pc := 4) hx hb dX9_wax_4 rfl (lv_at hl 1 rfl) ?_
  obtain ⟨r3, σ1, e2, h⟩ := bnd2 h
  rcases r3 with _ | q4
  · have h := onr_n h
    refine cl_X9_209 X hP hS (kf_9_hall hk0).1 (As := [.int a1]) (rest := []) (c_X2_unsoldAt l G (kf_9_hall hk0).1 e2) ⟨rfl, rfl, Nat.le_of_ble_eq_true rfl, Nat.le_of_ble_eq_true rfl⟩ rfl hl.1 rfl (Nat.le_of_ble_eq_true rfl) ⟨Nat.zero_le _, Nat.zero_le _⟩ (pc := 5) dX9_wax_5 (fun H locs hP hS => ?_)
    change W p l e _ s m _ below meth c H locs _ _ _ (F0 m (5 + 3) ls (.null :: []))
    refine lv_ifnullN (pc := 8) (tgt := 20) hx hb dX9_wax_8 (by decide) ?_
    refine lv_iconst (pc := 20) (v := (-1)) hx hb dX9_wax_20 (by decide) ?_
    obtain ⟨rfl, rfl⟩ := inj2 h
    exact r_iret X hP hS dX9_wax_21
  · have h := onr_s h
    obtain ⟨hq5, h⟩ := grd_inv h
    refine cl_X9_209 X hP hS (kf_9_hall hk0).1 (As := [.int a1]) (rest := []) (c_X2_unsoldAt l G (kf_9_hall hk0).1 e2) ⟨rfl, rfl, Nat.le_of_ble_eq_true rfl, Nat.le_of_ble_eq_true rfl⟩ rfl hl.1 rfl (Nat.le_of_ble_eq_true rfl) ⟨Nat.zero_le _, Nat.zero_le _⟩ (pc := 5) dX9_wax_5 (fun H locs hP hS => ?_)
    change W p l e _ s m _ below meth c H locs _ _ _ (F0 m (5 + 3) ls (.ref (ga G q4) :: []))
    refine lv_ifnull (pc := 8) hx hb dX9_wax_8 ?_
    refine lv_iload_n (pc := 11) hx hb dX9_wax_11 rfl (lv_at hl 2 rfl) ?_
    refine lv_iconst (pc := 12) (v := 0) hx hb dX9_wax_12 (by decide) ?_
    refine lv_iconst (pc := 13) (v := 1) hx hb dX9_wax_13 (by decide) ?_
    obtain ⟨r8, σ6, e7, h⟩ := bnd2 h
    refine cl_X9_71 X hP hS (As := [.int a2, .int (0 : Int32), .int (1 : Int32)]) (rest := []) (c_X9_within l G  e7) ⟨rfl, rfl, Nat.le_of_ble_eq_true rfl, Nat.le_of_ble_eq_true rfl⟩ rfl hl.1 rfl (Nat.le_of_ble_eq_true rfl) ⟨Nat.zero_le _, Nat.zero_le _⟩ (pc := 14) dX9_wax_14 (fun H locs hP hS => ?_)
    change W p l e _ s m _ below meth c H locs _ _ _ (F0 m (14 + 3) ls (.int r8 :: []))
    refine lv_if_ne (pc := 17) (tgt := 22) hx hb dX9_wax_17 (by decide) (fun c9 => ?_) (fun c9 => ?_)
    · have h := ineg c9 h
      refine lv_aload_n (pc := 22) hx hb dX9_wax_22 rfl (lv_at hl 0 rfl) ?_
      refine gt_X9_36 X hP hk0 dX9_wax_23 ?_
      refine lv_aload_n (pc := 26) hx hb dX9_wax_26 rfl (lv_at hl 0 rfl) ?_
      refine gt_X9_12 X hP hk0 dX9_wax_27 ?_
      refine lv_iload_n (pc := 30) hx hb dX9_wax_30 rfl (lv_at hl 1 rfl) ?_
      obtain ⟨r12, σ10, e11, h⟩ := bnd2 h
      refine cl_X9_228 X hP hS (kf_9_trials hk0).1 (As := [.ref (ga G (k0 + 1)), .int a1]) (rest := []) (c_X8_bestWax l G (kf_9_trials hk0).1 (kf_9_hall hk0).1 e11) ⟨rfl, rfl, Nat.le_of_ble_eq_true rfl, Nat.le_of_ble_eq_true rfl⟩ rfl hl.1 rfl (Nat.le_of_ble_eq_true rfl) ⟨Nat.zero_le _, Nat.zero_le _⟩ (pc := 31) dX9_wax_31 (fun H locs hP hS => ?_)
      change W p l e _ s m _ below meth c H locs _ _ _ (F0 m (31 + 3) ls (.int r12 :: []))
      refine lv_istore_n (pc := 34) (lv' := [(3, .int r12), (0, .ref (ga G k0)), (1, .int a1), (2, .int a2)]) hx hb dX9_wax_34 rfl hl (by decide) rfl (fun ls hl => ?_)
      refine lv_iload_n (pc := 35) hx hb dX9_wax_35 rfl (lv_at hl 3 rfl) ?_
      refine lv_if_ne (pc := 36) (tgt := 43) hx hb dX9_wax_36 (by decide) (fun c13 => ?_) (fun c13 => ?_)
      · have h := ineg c13 h
        refine lv_aload_n (pc := 43) hx hb dX9_wax_43 rfl (lv_at hl 1 rfl) ?_
        refine gt_X9_36 X hP hk0 dX9_wax_44 ?_
        refine gt_X9_232 X hP (kf_9_trials hk0).1 dX9_wax_47 ?_
        obtain ⟨rfl, rfl⟩ := inj2 h
        exact r_iret X hP hS dX9_wax_50
      · have h := ipos c13 h
        refine lv_iload_n (pc := 39) hx hb dX9_wax_39 rfl (lv_at hl 0 rfl) ?_
        refine lv_goto (pc := 40) (tgt := 50) hx hb dX9_wax_40 (by decide) ?_
        obtain ⟨rfl, rfl⟩ := inj2 h
        exact r_iret X hP hS dX9_wax_50
    · have h := ipos c9 h
      refine lv_iconst (pc := 20) (v := (-1)) hx hb dX9_wax_20 (by decide) ?_
      obtain ⟨rfl, rfl⟩ := inj2 h
      exact r_iret X hP hS dX9_wax_21
def f_X9_silent (k0 : Nat) (a1 : Int32) (σ : Mem) : Option (Int32 × Mem) :=
  bd2 (f_X2_unsoldAt (k0 + 1) a1 σ) fun r3 σ1 =>
  onr r3 (
    some ((-1 : Int32), σ1)
    ) fun q4 => grd (kd q4 = 3) <|
    bd2 (f_X8_bestSilent (k0 + 48) (k0 + 1) a1 σ1) fun r8 σ6 =>
    some (r8, σ6)
abbrev RM_X9_silent : Room := { frames := 6, cells := 0, slots := 0, locals := 138 }
set_option maxHeartbeats 4000000 in
set_option maxRecDepth 100000 in
theorem c_X9_silent (l : Launch) (G : Gh) {k0 : Nat} {a1 : Int32} {σ : Mem} {rr : Int32} {σr : Mem} (hk0 : kd k0 = 9) (h : f_X9_silent k0 a1 σ = some (rr, σr)) : Met l yX9_silent [Cond.code yX9_silent prog_1_method_26_code 2 (some .int)] RM_X9_silent (va_Pc [.ref (ga G k0), .int a1] (Pre G σ)) (QG G (some (.int rr)) σr) 0 0 (AA G) := by
  refine ct_of (by decide) (fun p e s m below meth c X hP => ?_)
  have hx := X.hx
  have hb := X.hb
  have hS : va_S (AA G) s.heap s.heap [] := va_S.rf
  have hl := lv_entry ([.ref (ga G k0), .int a1]) (n := 2) (Nat.le_of_ble_eq_true rfl)
  rw [lg_entry_eq]
  generalize (lg_sl ([.ref (ga G k0), .int a1]) ++ List.replicate (2 - (lg_sl ([.ref (ga G k0), .int a1])).length) Slot.unset).toArray = ls at hl ⊢
  have hl : lv_has ls 2 [(0, .ref (ga G k0)), (1, .int a1)] := hl
  unfold f_X9_silent at h
  refine lv_aload_n (pc := 0) hx hb dX9_silent_0 rfl (lv_at hl 0 rfl) ?_
  refine gt_X9_12 X hP hk0 dX9_silent_1 ?_
  refine lv_iload_n (pc := 4) hx hb dX9_silent_4 rfl (lv_at hl 1 rfl) ?_
  obtain ⟨r3, σ1, e2, h⟩ := bnd2 h
  rcases r3 with _ | q4
  · have h := onr_n h
    refine cl_X9_209 X hP hS (kf_9_hall hk0).1 (As := [.int a1]) (rest := []) (c_X2_unsoldAt l G (kf_9_hall hk0).1 e2) ⟨rfl, rfl, Nat.le_of_ble_eq_true rfl, Nat.le_of_ble_eq_true rfl⟩ rfl hl.1 rfl (Nat.le_of_ble_eq_true rfl) ⟨Nat.zero_le _, Nat.zero_le _⟩ (pc := 5) dX9_silent_5 (fun H locs hP hS => ?_)
    change W p l e _ s m _ below meth c H locs _ _ _ (F0 m (5 + 3) ls (.null :: []))
    refine lv_ifnonnullN (pc := 8) hx hb dX9_silent_8 ?_
    refine lv_iconst (pc := 11) (v := (-1)) hx hb dX9_silent_11 (by decide) ?_
    obtain ⟨rfl, rfl⟩ := inj2 h
    exact r_iret X hP hS dX9_silent_12
  · have h := onr_s h
    obtain ⟨hq5, h⟩ := grd_inv h
    refine cl_X9_209 X hP hS (kf_9_hall hk0).1 (As := [.int a1]) (rest := []) (c_X2_unsoldAt l G (kf_9_hall hk0).1 e2) ⟨rfl, rfl, Nat.le_of_ble_eq_true rfl, Nat.le_of_ble_eq_true rfl⟩ rfl hl.1 rfl (Nat.le_of_ble_eq_true rfl) ⟨Nat.zero_le _, Nat.zero_le _⟩ (pc := 5) dX9_silent_5 (fun H locs hP hS => ?_)
    change W p l e _ s m _ below meth c H locs _ _ _ (F0 m (5 + 3) ls (.ref (ga G q4) :: []))
    refine lv_ifnonnull (pc := 8) (tgt := 13) hx hb dX9_silent_8 (by decide) ?_
    refine lv_aload_n (pc := 13) hx hb dX9_silent_13 rfl (lv_at hl 0 rfl) ?_
    refine gt_X9_36 X hP hk0 dX9_silent_14 ?_
    refine lv_aload_n (pc := 17) hx hb dX9_silent_17 rfl (lv_at hl 0 rfl) ?_
    refine gt_X9_12 X hP hk0 dX9_silent_18 ?_
    refine lv_iload_n (pc := 21) hx hb dX9_silent_21 rfl (lv_at hl 1 rfl) ?_
    obtain ⟨r8, σ6, e7, h⟩ := bnd2 h
    refine cl_X9_235 X hP hS (kf_9_trials hk0).1 (As := [.ref (ga G (k0 + 1)), .int a1]) (rest := []) (c_X8_bestSilent l G (kf_9_trials hk0).1 (kf_9_hall hk0).1 e7) ⟨rfl, rfl, Nat.le_of_ble_eq_true rfl, Nat.le_of_ble_eq_true rfl⟩ rfl hl.1 rfl (Nat.le_of_ble_eq_true rfl) ⟨Nat.zero_le _, Nat.zero_le _⟩ (pc := 22) dX9_silent_22 (fun H locs hP hS => ?_)
    change W p l e _ s m _ below meth c H locs _ _ _ (F0 m (22 + 3) ls (.int r8 :: []))
    obtain ⟨rfl, rfl⟩ := inj2 h
    exact r_iret X hP hS dX9_silent_25
def F_X9_order_17 (k0z : Nat) (v1 : Int32) (σ : Mem) : Option (Int32 × Mem) :=
  bd2 (f_X2_soldLots (k0z + 1) σ) fun r4 σ2 =>
  if ((gI σ (k0z + 1) 1) - r4) = (0 : Int32) then
    some ((-3 : Int32), σ2)
  else
    if (v1 - (10 : Int32)) < ((gI σ (k0z + 1) 1) - r4) then
      bd1 (f_X8_findBestOrder (k0z + 48) (k0z + 1) σ2) fun σ7 =>
      if v1 = (0 : Int32) then
        some ((gI σ7 (k0z + 48) 2), σ7)
      else
        bd2 (f_X8_lotInBestOrder (k0z + 48) (v1 - (10 : Int32)) σ7) fun r12 σ10 =>
        some (r12, σ10)
    else
      some ((-3 : Int32), σ2)
def f_X9_order (k0 : Nat) (a1 : Int32) (σ : Mem) : Option (Int32 × Mem) :=
  if a1 = (0 : Int32) then
    F_X9_order_17 k0 a1 σ
  else
    bd2 (f_X9_within a1 (10 : Int32) (14 : Int32) σ) fun r15 σ13 =>
    if r15 = (0 : Int32) then
      some ((-1 : Int32), σ13)
    else
      F_X9_order_17 k0 a1 σ13
abbrev RM_X9_order : Room := { frames := 6, cells := 0, slots := 0, locals := 139 }
set_option maxHeartbeats 4000000 in
set_option maxRecDepth 100000 in
theorem w_X9_order_17 {l : Launch} {G : Gh} {p : Program} {e : Env} {s : State} {m : MethodId} {args : Array Value} {below : List Frame} {meth : Method} {c : Code} (X : Cx G p s m args meth c prog_1_method_27_code RX9 3 (some .int)) {k0z : Nat} (hz0 : kd k0z = 9) {rr : Int32} {σr : Mem} : ∀ (v1 : Int32) (σ : Mem) (H : Heap) (locs : List Loc) (ls : Array Slot), PW G σ H → va_S (AA G) s.heap H locs → lv_has ls 3 [(0, .ref (ga G k0z)), (1, .int v1)] → F_X9_order_17 k0z v1 σ = some (rr, σr) → W p l e RM_X9_order s m args below meth c H locs 0 0 (MQ below (QG G (some (.int rr)) σr) args s 0 0 (AA G)) (F0 m 17 ls []) := by
  have hx := X.hx
  have hb := X.hb
  intro v1 σ H locs ls hP hS hl h
  unfold F_X9_order_17 at h
  refine lv_aload_n (pc := 17) hx hb dX9_order_17 rfl (lv_at hl 0 rfl) ?_
  refine gt_X9_12 X hP hz0 dX9_order_18 ?_
  refine gt_X9_96 X hP (kf_9_hall hz0).1 dX9_order_21 ?_
  refine lv_aload_n (pc := 24) hx hb dX9_order_24 rfl (lv_at hl 0 rfl) ?_
  refine gt_X9_12 X hP hz0 dX9_order_25 ?_
  obtain ⟨r4, σ2, e3, h⟩ := bnd2 h
  refine cl_X9_238 X hP hS (kf_9_hall hz0).1 (As := []) (rest := [.int (gI σ (k0z + 1) 1)]) (c_X2_soldLots l G (kf_9_hall hz0).1 e3) ⟨rfl, rfl, Nat.le_of_ble_eq_true rfl, Nat.le_of_ble_eq_true rfl⟩ rfl hl.1 rfl (Nat.le_of_ble_eq_true rfl) ⟨Nat.zero_le _, Nat.zero_le _⟩ (pc := 28) dX9_order_28 (fun H locs hP hS => ?_)
  change W p l e _ s m _ below meth c H locs _ _ _ (F0 m (28 + 3) ls (.int r4 :: [.int (gI σ (k0z + 1) 1)]))
  refine lv_isub (pc := 31) hx hb dX9_order_31 ?_
  refine lv_istore_n (pc := 32) (lv' := [(2, .int ((gI σ (k0z + 1) 1) - r4)), (0, .ref (ga G k0z)), (1, .int v1)]) hx hb dX9_order_32 rfl hl (by decide) rfl (fun ls hl => ?_)
  refine lv_iload_n (pc := 33) hx hb dX9_order_33 rfl (lv_at hl 0 rfl) ?_
  refine lv_if_eq (pc := 34) (tgt := 45) hx hb dX9_order_34 (by decide) (fun c5 => ?_) (fun c5 => ?_)
  · have h := ipos c5 h
    refine lv_bipush (pc := 45) (v := (-3)) hx hb dX9_order_45 (by decide) ?_
    obtain ⟨rfl, rfl⟩ := inj2 h
    exact r_iret X hP hS dX9_order_47
  · have h := ineg c5 h
    refine lv_iload_n (pc := 37) hx hb dX9_order_37 rfl (lv_at hl 2 rfl) ?_
    refine lv_bipush (pc := 38) (v := (10)) hx hb dX9_order_38 (by decide) ?_
    refine lv_isub (pc := 40) hx hb dX9_order_40 ?_
    refine lv_iload_n (pc := 41) hx hb dX9_order_41 rfl (lv_at hl 0 rfl) ?_
    refine lv_icmp_lt (pc := 42) (tgt := 48) hx hb dX9_order_42 (by decide) (fun c6 => ?_) (fun c6 => ?_)
    · have h := ipos c6 h
      refine lv_aload_n (pc := 48) hx hb dX9_order_48 rfl (lv_at hl 1 rfl) ?_
      refine gt_X9_36 X hP hz0 dX9_order_49 ?_
      refine lv_aload_n (pc := 52) hx hb dX9_order_52 rfl (lv_at hl 1 rfl) ?_
      refine gt_X9_12 X hP hz0 dX9_order_53 ?_
      obtain ⟨σ7, e8, h⟩ := bnd1 h
      refine cl_X9_241 X hP hS (kf_9_trials hz0).1 (As := [.ref (ga G (k0z + 1))]) (rest := []) (c_X8_findBestOrder l G (kf_9_trials hz0).1 (kf_9_hall hz0).1 e8) ⟨rfl, rfl, Nat.le_of_ble_eq_true rfl, Nat.le_of_ble_eq_true rfl⟩ rfl hl.1 rfl (Nat.le_of_ble_eq_true rfl) ⟨Nat.zero_le _, Nat.zero_le _⟩ (pc := 56) dX9_order_56 (fun H locs hP hS => ?_)
      change W p l e _ s m _ below meth c H locs _ _ _ (F0 m (56 + 3) ls [])
      refine lv_iload_n (pc := 59) hx hb dX9_order_59 rfl (lv_at hl 2 rfl) ?_
      refine lv_if_ne (pc := 60) (tgt := 73) hx hb dX9_order_60 (by decide) (fun c9 => ?_) (fun c9 => ?_)
      · have h := ineg c9 h
        refine lv_aload_n (pc := 73) hx hb dX9_order_73 rfl (lv_at hl 1 rfl) ?_
        refine gt_X9_36 X hP hz0 dX9_order_74 ?_
        refine lv_iload_n (pc := 77) hx hb dX9_order_77 rfl (lv_at hl 2 rfl) ?_
        refine lv_bipush (pc := 78) (v := (10)) hx hb dX9_order_78 (by decide) ?_
        refine lv_isub (pc := 80) hx hb dX9_order_80 ?_
        obtain ⟨r12, σ10, e11, h⟩ := bnd2 h
        refine cl_X9_244 X hP hS (kf_9_trials hz0).1 (As := [.int (v1 - (10 : Int32))]) (rest := []) (c_X8_lotInBestOrder l G (kf_9_trials hz0).1 e11) ⟨rfl, rfl, Nat.le_of_ble_eq_true rfl, Nat.le_of_ble_eq_true rfl⟩ rfl hl.1 rfl (Nat.le_of_ble_eq_true rfl) ⟨Nat.zero_le _, Nat.zero_le _⟩ (pc := 81) dX9_order_81 (fun H locs hP hS => ?_)
        change W p l e _ s m _ below meth c H locs _ _ _ (F0 m (81 + 3) ls (.int r12 :: []))
        obtain ⟨rfl, rfl⟩ := inj2 h
        exact r_iret X hP hS dX9_order_84
      · have h := ipos c9 h
        refine lv_aload_n (pc := 63) hx hb dX9_order_63 rfl (lv_at hl 1 rfl) ?_
        refine gt_X9_36 X hP hz0 dX9_order_64 ?_
        refine gt_X9_232 X hP (kf_9_trials hz0).1 dX9_order_67 ?_
        refine lv_goto (pc := 70) (tgt := 84) hx hb dX9_order_70 (by decide) ?_
        obtain ⟨rfl, rfl⟩ := inj2 h
        exact r_iret X hP hS dX9_order_84
    · have h := ineg c6 h
      refine lv_bipush (pc := 45) (v := (-3)) hx hb dX9_order_45 (by decide) ?_
      obtain ⟨rfl, rfl⟩ := inj2 h
      exact r_iret X hP hS dX9_order_47
set_option maxHeartbeats 4000000 in
set_option maxRecDepth 100000 in
theorem c_X9_order (l : Launch) (G : Gh) {k0 : Nat} {a1 : Int32} {σ : Mem} {rr : Int32} {σr : Mem} (hk0 : kd k0 = 9) (h : f_X9_order k0 a1 σ = some (rr, σr)) : Met l yX9_order [Cond.code yX9_order prog_1_method_27_code 3 (some .int)] RM_X9_order (va_Pc [.ref (ga G k0), .int a1] (Pre G σ)) (QG G (some (.int rr)) σr) 0 0 (AA G) := by
  refine ct_of (by decide) (fun p e s m below meth c X hP => ?_)
  have hx := X.hx
  have hb := X.hb
  have hS : va_S (AA G) s.heap s.heap [] := va_S.rf
  have hl := lv_entry ([.ref (ga G k0), .int a1]) (n := 3) (Nat.le_of_ble_eq_true rfl)
  rw [lg_entry_eq]
  generalize (lg_sl ([.ref (ga G k0), .int a1]) ++ List.replicate (3 - (lg_sl ([.ref (ga G k0), .int a1])).length) Slot.unset).toArray = ls at hl ⊢
  have hl : lv_has ls 3 [(0, .ref (ga G k0)), (1, .int a1)] := hl
  unfold f_X9_order at h
  refine lv_iload_n (pc := 0) hx hb dX9_order_0 rfl (lv_at hl 1 rfl) ?_
  refine lv_if_eq (pc := 1) (tgt := 17) hx hb dX9_order_1 (by decide) (fun c1 => ?_) (fun c1 => ?_)
  · have h := ipos c1 h
    exact w_X9_order_17 X  hk0  _ _ _ _ _ hP hS (lv_sub hl [0, 1] rfl) h
  · have h := ineg c1 h
    refine lv_iload_n (pc := 4) hx hb dX9_order_4 rfl (lv_at hl 1 rfl) ?_
    refine lv_bipush (pc := 5) (v := (10)) hx hb dX9_order_5 (by decide) ?_
    refine lv_bipush (pc := 7) (v := (14)) hx hb dX9_order_7 (by decide) ?_
    obtain ⟨r15, σ13, e14, h⟩ := bnd2 h
    refine cl_X9_71 X hP hS (As := [.int a1, .int (10 : Int32), .int (14 : Int32)]) (rest := []) (c_X9_within l G  e14) ⟨rfl, rfl, Nat.le_of_ble_eq_true rfl, Nat.le_of_ble_eq_true rfl⟩ rfl hl.1 rfl (Nat.le_of_ble_eq_true rfl) ⟨Nat.zero_le _, Nat.zero_le _⟩ (pc := 9) dX9_order_9 (fun H locs hP hS => ?_)
    change W p l e _ s m _ below meth c H locs _ _ _ (F0 m (9 + 3) ls (.int r15 :: []))
    refine lv_if_ne (pc := 12) (tgt := 17) hx hb dX9_order_12 (by decide) (fun c16 => ?_) (fun c16 => ?_)
    · have h := ineg c16 h
      exact w_X9_order_17 X  hk0  _ _ _ _ _ hP hS (lv_sub hl [0, 1] rfl) h
    · have h := ipos c16 h
      refine lv_iconst (pc := 15) (v := (-1)) hx hb dX9_order_15 (by decide) ?_
      obtain ⟨rfl, rfl⟩ := inj2 h
      exact r_iret X hP hS dX9_order_16
def f_X9_most (k0 : Nat) (a1 : Int32) (σ : Mem) : Option (Int32 × Mem) :=
  bd2 (f_X2_lotAt (k0 + 1) a1 σ) fun r3 σ1 =>
  onr r3 (
    some ((-1 : Int32), σ1)
    ) fun q4 => grd (kd q4 = 3) <|
    bd2 (f_X2_bidderOfMost (k0 + 1) (gI σ1 q4 1) σ1) fun r8 σ6 =>
    some (r8, σ6)
abbrev RM_X9_most : Room := { frames := 3, cells := 0, slots := 0, locals := 68 }
set_option maxHeartbeats 4000000 in
set_option maxRecDepth 100000 in
theorem c_X9_most (l : Launch) (G : Gh) {k0 : Nat} {a1 : Int32} {σ : Mem} {rr : Int32} {σr : Mem} (hk0 : kd k0 = 9) (h : f_X9_most k0 a1 σ = some (rr, σr)) : Met l yX9_most [Cond.code yX9_most prog_1_method_28_code 3 (some .int)] RM_X9_most (va_Pc [.ref (ga G k0), .int a1] (Pre G σ)) (QG G (some (.int rr)) σr) 0 0 (AA G) := by
  refine ct_of (by decide) (fun p e s m below meth c X hP => ?_)
  have hx := X.hx
  have hb := X.hb
  have hS : va_S (AA G) s.heap s.heap [] := va_S.rf
  have hl := lv_entry ([.ref (ga G k0), .int a1]) (n := 3) (Nat.le_of_ble_eq_true rfl)
  rw [lg_entry_eq]
  generalize (lg_sl ([.ref (ga G k0), .int a1]) ++ List.replicate (3 - (lg_sl ([.ref (ga G k0), .int a1])).length) Slot.unset).toArray = ls at hl ⊢
  have hl : lv_has ls 3 [(0, .ref (ga G k0)), (1, .int a1)] := hl
  unfold f_X9_most at h
  refine lv_aload_n (pc := 0) hx hb dX9_most_0 rfl (lv_at hl 0 rfl) ?_
  refine gt_X9_12 X hP hk0 dX9_most_1 ?_
  refine lv_iload_n (pc := 4) hx hb dX9_most_4 rfl (lv_at hl 1 rfl) ?_
  obtain ⟨r3, σ1, e2, h⟩ := bnd2 h
  rcases r3 with _ | q4
  · have h := onr_n h
    refine cl_X9_103 X hP hS (kf_9_hall hk0).1 (As := [.int a1]) (rest := []) (c_X2_lotAt l G (kf_9_hall hk0).1 e2) ⟨rfl, rfl, Nat.le_of_ble_eq_true rfl, Nat.le_of_ble_eq_true rfl⟩ rfl hl.1 rfl (Nat.le_of_ble_eq_true rfl) ⟨Nat.zero_le _, Nat.zero_le _⟩ (pc := 5) dX9_most_5 (fun H locs hP hS => ?_)
    change W p l e _ s m _ below meth c H locs _ _ _ (F0 m (5 + 3) ls (.null :: []))
    refine lv_astore_nN (pc := 8) (lv' := [(2, .null), (0, .ref (ga G k0)), (1, .int a1)]) hx hb dX9_most_8 rfl hl (by decide) rfl (fun ls hl => ?_)
    refine lv_aload_nN (pc := 9) hx hb dX9_most_9 rfl (lv_at hl 0 rfl) ?_
    refine lv_ifnonnullN (pc := 10) hx hb dX9_most_10 ?_
    refine lv_iconst (pc := 13) (v := (-1)) hx hb dX9_most_13 (by decide) ?_
    obtain ⟨rfl, rfl⟩ := inj2 h
    exact r_iret X hP hS dX9_most_14
  · have h := onr_s h
    obtain ⟨hq5, h⟩ := grd_inv h
    refine cl_X9_103 X hP hS (kf_9_hall hk0).1 (As := [.int a1]) (rest := []) (c_X2_lotAt l G (kf_9_hall hk0).1 e2) ⟨rfl, rfl, Nat.le_of_ble_eq_true rfl, Nat.le_of_ble_eq_true rfl⟩ rfl hl.1 rfl (Nat.le_of_ble_eq_true rfl) ⟨Nat.zero_le _, Nat.zero_le _⟩ (pc := 5) dX9_most_5 (fun H locs hP hS => ?_)
    change W p l e _ s m _ below meth c H locs _ _ _ (F0 m (5 + 3) ls (.ref (ga G q4) :: []))
    refine lv_astore_n (pc := 8) (lv' := [(2, .ref (ga G q4)), (0, .ref (ga G k0)), (1, .int a1)]) hx hb dX9_most_8 rfl hl (by decide) rfl (fun ls hl => ?_)
    refine lv_aload_n (pc := 9) hx hb dX9_most_9 rfl (lv_at hl 0 rfl) ?_
    refine lv_ifnonnull (pc := 10) (tgt := 15) hx hb dX9_most_10 (by decide) ?_
    refine lv_aload_n (pc := 15) hx hb dX9_most_15 rfl (lv_at hl 1 rfl) ?_
    refine gt_X9_12 X hP hk0 dX9_most_16 ?_
    refine lv_aload_n (pc := 19) hx hb dX9_most_19 rfl (lv_at hl 0 rfl) ?_
    refine gt_X9_112 X hP hq5 dX9_most_20 ?_
    obtain ⟨r8, σ6, e7, h⟩ := bnd2 h
    refine cl_X9_247 X hP hS (kf_9_hall hk0).1 (As := [.int (gI σ1 q4 1)]) (rest := []) (c_X2_bidderOfMost l G (kf_9_hall hk0).1 e7) ⟨rfl, rfl, Nat.le_of_ble_eq_true rfl, Nat.le_of_ble_eq_true rfl⟩ rfl hl.1 rfl (Nat.le_of_ble_eq_true rfl) ⟨Nat.zero_le _, Nat.zero_le _⟩ (pc := 23) dX9_most_23 (fun H locs hP hS => ?_)
    change W p l e _ s m _ below meth c H locs _ _ _ (F0 m (23 + 3) ls (.int r8 :: []))
    obtain ⟨rfl, rfl⟩ := inj2 h
    exact r_iret X hP hS dX9_most_26
def f_X9_owed (k0 : Nat) (a1 : Int32) (σ : Mem) : Option (Int32 × Mem) :=
  if a1 = (0 : Int32) then
    bd2 (f_X2_allPrices (k0 + 1) σ) fun r4 σ2 =>
    some (r4, σ2)
  else
  if a1 = (1 : Int32) then
    bd2 (f_X2_allPurses (k0 + 1) σ) fun r8 σ6 =>
    some (r8, σ6)
  else
  if a1 = (2 : Int32) then
    bd2 (f_X2_lotsSoldTo (k0 + 1) (-9 : Int32) σ) fun r12 σ10 =>
    some (r12, σ10)
  else
  some ((-1 : Int32), σ)
abbrev RM_X9_owed : Room := { frames := 1, cells := 0, slots := 0, locals := 23 }
set_option maxHeartbeats 4000000 in
set_option maxRecDepth 100000 in
theorem c_X9_owed (l : Launch) (G : Gh) {k0 : Nat} {a1 : Int32} {σ : Mem} {rr : Int32} {σr : Mem} (hk0 : kd k0 = 9) (h : f_X9_owed k0 a1 σ = some (rr, σr)) : Met l yX9_owed [Cond.code yX9_owed prog_1_method_29_code 2 (some .int)] RM_X9_owed (va_Pc [.ref (ga G k0), .int a1] (Pre G σ)) (QG G (some (.int rr)) σr) 0 0 (AA G) := by
  refine ct_of (by decide) (fun p e s m below meth c X hP => ?_)
  have hx := X.hx
  have hb := X.hb
  have hS : va_S (AA G) s.heap s.heap [] := va_S.rf
  have hl := lv_entry ([.ref (ga G k0), .int a1]) (n := 2) (Nat.le_of_ble_eq_true rfl)
  rw [lg_entry_eq]
  generalize (lg_sl ([.ref (ga G k0), .int a1]) ++ List.replicate (2 - (lg_sl ([.ref (ga G k0), .int a1])).length) Slot.unset).toArray = ls at hl ⊢
  have hl : lv_has ls 2 [(0, .ref (ga G k0)), (1, .int a1)] := hl
  unfold f_X9_owed at h
  refine lv_iload_n (pc := 0) hx hb dX9_owed_0 rfl (lv_at hl 1 rfl) ?_
  by_cases c1 : a1 = (0 : Int32)
  · have h := ipos c1 h
    refine r_tabIn X (pc := 1) (tgt := 28) c1 dX9_owed_1 (by decide) (by decide) rfl (by decide) ?_
    refine lv_aload_n (pc := 28) hx hb dX9_owed_28 rfl (lv_at hl 0 rfl) ?_
    refine gt_X9_12 X hP hk0 dX9_owed_29 ?_
    obtain ⟨r4, σ2, e3, h⟩ := bnd2 h
    refine cl_X9_250 X hP hS (kf_9_hall hk0).1 (As := []) (rest := []) (c_X2_allPrices l G (kf_9_hall hk0).1 e3) ⟨rfl, rfl, Nat.le_of_ble_eq_true rfl, Nat.le_of_ble_eq_true rfl⟩ rfl hl.1 rfl (Nat.le_of_ble_eq_true rfl) ⟨Nat.zero_le _, Nat.zero_le _⟩ (pc := 32) dX9_owed_32 (fun H locs hP hS => ?_)
    change W p l e _ s m _ below meth c H locs _ _ _ (F0 m (32 + 3) ls (.int r4 :: []))
    obtain ⟨rfl, rfl⟩ := inj2 h
    exact r_iret X hP hS dX9_owed_35
  have h := ineg c1 h
  by_cases c5 : a1 = (1 : Int32)
  · have h := ipos c5 h
    refine r_tabIn X (pc := 1) (tgt := 36) c5 dX9_owed_1 (by decide) (by decide) rfl (by decide) ?_
    refine lv_aload_n (pc := 36) hx hb dX9_owed_36 rfl (lv_at hl 0 rfl) ?_
    refine gt_X9_12 X hP hk0 dX9_owed_37 ?_
    obtain ⟨r8, σ6, e7, h⟩ := bnd2 h
    refine cl_X9_253 X hP hS (kf_9_hall hk0).1 (As := []) (rest := []) (c_X2_allPurses l G (kf_9_hall hk0).1 e7) ⟨rfl, rfl, Nat.le_of_ble_eq_true rfl, Nat.le_of_ble_eq_true rfl⟩ rfl hl.1 rfl (Nat.le_of_ble_eq_true rfl) ⟨Nat.zero_le _, Nat.zero_le _⟩ (pc := 40) dX9_owed_40 (fun H locs hP hS => ?_)
    change W p l e _ s m _ below meth c H locs _ _ _ (F0 m (40 + 3) ls (.int r8 :: []))
    obtain ⟨rfl, rfl⟩ := inj2 h
    exact r_iret X hP hS dX9_owed_43
  have h := ineg c5 h
  by_cases c9 : a1 = (2 : Int32)
  · have h := ipos c9 h
    refine r_tabIn X (pc := 1) (tgt := 44) c9 dX9_owed_1 (by decide) (by decide) rfl (by decide) ?_
    refine lv_aload_n (pc := 44) hx hb dX9_owed_44 rfl (lv_at hl 0 rfl) ?_
    refine gt_X9_12 X hP hk0 dX9_owed_45 ?_
    refine lv_bipush (pc := 48) (v := (-9)) hx hb dX9_owed_48 (by decide) ?_
    obtain ⟨r12, σ10, e11, h⟩ := bnd2 h
    refine cl_X9_156 X hP hS (kf_9_hall hk0).1 (As := [.int (-9 : Int32)]) (rest := []) (c_X2_lotsSoldTo l G (kf_9_hall hk0).1 e11) ⟨rfl, rfl, Nat.le_of_ble_eq_true rfl, Nat.le_of_ble_eq_true rfl⟩ rfl hl.1 rfl (Nat.le_of_ble_eq_true rfl) ⟨Nat.zero_le _, Nat.zero_le _⟩ (pc := 50) dX9_owed_50 (fun H locs hP hS => ?_)
    change W p l e _ s m _ below meth c H locs _ _ _ (F0 m (50 + 3) ls (.int r12 :: []))
    obtain ⟨rfl, rfl⟩ := inj2 h
    exact r_iret X hP hS dX9_owed_53
  have h := ineg c9 h
  refine lv_tableOut (pc := 1) (tgt := 54) hx hb dX9_owed_1 (by have := lv_neT c1 (a := 0) (by decide); have := lv_neT c5 (a := 1) (by decide); have := lv_neT c9 (a := 2) (by decide); omega) (by decide) ?_
  refine lv_iconst (pc := 54) (v := (-1)) hx hb dX9_owed_54 (by decide) ?_
  obtain ⟨rfl, rfl⟩ := inj2 h
  exact r_iret X hP hS dX9_owed_55
def f_X9_seed (k0 : Nat) (a1 : Int32) (σ : Mem) : Option (Int32 × Mem) :=
  bd1 (some (pI σ (k0 + 1) 6 a1)) fun σ1 =>
  some ((gI σ (k0 + 1) 6), σ1)
abbrev RM_X9_seed : Room := { frames := 0, cells := 0, slots := 0, locals := 0 }
set_option maxHeartbeats 4000000 in
set_option maxRecDepth 100000 in
theorem c_X9_seed (l : Launch) (G : Gh) {k0 : Nat} {a1 : Int32} {σ : Mem} {rr : Int32} {σr : Mem} (hk0 : kd k0 = 9) (h : f_X9_seed k0 a1 σ = some (rr, σr)) : Met l yX9_seed [Cond.code yX9_seed prog_1_method_30_code 3 (some .int)] RM_X9_seed (va_Pc [.ref (ga G k0), .int a1] (Pre G σ)) (QG G (some (.int rr)) σr) 0 0 (AA G) := by
  refine ct_of (by decide) (fun p e s m below meth c X hP => ?_)
  have hx := X.hx
  have hb := X.hb
  have hS : va_S (AA G) s.heap s.heap [] := va_S.rf
  have hl := lv_entry ([.ref (ga G k0), .int a1]) (n := 3) (Nat.le_of_ble_eq_true rfl)
  rw [lg_entry_eq]
  generalize (lg_sl ([.ref (ga G k0), .int a1]) ++ List.replicate (3 - (lg_sl ([.ref (ga G k0), .int a1])).length) Slot.unset).toArray = ls at hl ⊢
  have hl : lv_has ls 3 [(0, .ref (ga G k0)), (1, .int a1)] := hl
  unfold f_X9_seed at h
  refine lv_aload_n (pc := 0) hx hb dX9_seed_0 rfl (lv_at hl 0 rfl) ?_
  refine gt_X9_12 X hP hk0 dX9_seed_1 ?_
  refine gt_X9_87 X hP (kf_9_hall hk0).1 dX9_seed_4 ?_
  refine lv_istore_n (pc := 7) (lv' := [(2, .int (gI σ (k0 + 1) 6)), (0, .ref (ga G k0)), (1, .int a1)]) hx hb dX9_seed_7 rfl hl (by decide) rfl (fun ls hl => ?_)
  refine lv_aload_n (pc := 8) hx hb dX9_seed_8 rfl (lv_at hl 1 rfl) ?_
  refine gt_X9_12 X hP hk0 dX9_seed_9 ?_
  refine lv_iload_n (pc := 12) hx hb dX9_seed_12 rfl (lv_at hl 2 rfl) ?_
  obtain ⟨σ1, e2, h⟩ := bnd1 h
  refine pt_X9_87 X hP hS (kf_9_hall hk0).1 dX9_seed_13 (fun H locs hP hS => ?_)
  rw [Option.some.inj e2] at hP
  refine lv_iload_n (pc := 16) hx hb dX9_seed_16 rfl (lv_at hl 0 rfl) ?_
  obtain ⟨rfl, rfl⟩ := inj2 h
  exact r_iret X hP hS dX9_seed_17
def f_X9_draw (k0 : Nat) (a1 : Int32) (σ : Mem) : Option (Int32 × Mem) :=
  bd2 (f_X9_within a1 (0 : Int32) (11 : Int32) σ) fun r3 σ1 =>
  if r3 = (0 : Int32) then
    some ((-1 : Int32), σ1)
  else
    bd1 (some (pI σ1 (k0 + 1) 6 (((gI σ1 (k0 + 1) 6) * (1103515245 : Int32)) + (12345 : Int32)))) fun σ5 =>
    bd1 (ixo ((k0 + 1) + 3) a1) fun j7 =>
    bd1 (some (pI σ5 ((k0 + 1) + 3) j7 (((gI σ5 (k0 + 1) 6).toUInt32 >>> ((16 : Int32).toUInt32 &&& Int32.toUInt32 31)).toInt32 - ((gI σ5 (k0 + 1) 6).toUInt32 >>> ((16 : Int32).toUInt32 &&& Int32.toUInt32 31)).toInt32 / (4 : Int32) * (4 : Int32)))) fun σ9 =>
    bd1 (ixo ((k0 + 1) + 3) a1) fun j11 =>
    some ((gI σ9 ((k0 + 1) + 3) j11), σ9)
abbrev RM_X9_draw : Room := { frames := 1, cells := 0, slots := 0, locals := 22 }
set_option maxHeartbeats 4000000 in
set_option maxRecDepth 100000 in
theorem c_X9_draw (l : Launch) (G : Gh) {k0 : Nat} {a1 : Int32} {σ : Mem} {rr : Int32} {σr : Mem} (hk0 : kd k0 = 9) (h : f_X9_draw k0 a1 σ = some (rr, σr)) : Met l yX9_draw [Cond.code yX9_draw prog_1_method_31_code 2 (some .int)] RM_X9_draw (va_Pc [.ref (ga G k0), .int a1] (Pre G σ)) (QG G (some (.int rr)) σr) 0 0 (AA G) := by
  refine ct_of (by decide) (fun p e s m below meth c X hP => ?_)
  have hx := X.hx
  have hb := X.hb
  have hS : va_S (AA G) s.heap s.heap [] := va_S.rf
  have hl := lv_entry ([.ref (ga G k0), .int a1]) (n := 2) (Nat.le_of_ble_eq_true rfl)
  rw [lg_entry_eq]
  generalize (lg_sl ([.ref (ga G k0), .int a1]) ++ List.replicate (2 - (lg_sl ([.ref (ga G k0), .int a1])).length) Slot.unset).toArray = ls at hl ⊢
  have hl : lv_has ls 2 [(0, .ref (ga G k0)), (1, .int a1)] := hl
  unfold f_X9_draw at h
  refine lv_iload_n (pc := 0) hx hb dX9_draw_0 rfl (lv_at hl 1 rfl) ?_
  refine lv_iconst (pc := 1) (v := 0) hx hb dX9_draw_1 (by decide) ?_
  refine lv_bipush (pc := 2) (v := (11)) hx hb dX9_draw_2 (by decide) ?_
  obtain ⟨r3, σ1, e2, h⟩ := bnd2 h
  refine cl_X9_71 X hP hS (As := [.int a1, .int (0 : Int32), .int (11 : Int32)]) (rest := []) (c_X9_within l G  e2) ⟨rfl, rfl, Nat.le_of_ble_eq_true rfl, Nat.le_of_ble_eq_true rfl⟩ rfl hl.1 rfl (Nat.le_of_ble_eq_true rfl) ⟨Nat.zero_le _, Nat.zero_le _⟩ (pc := 4) dX9_draw_4 (fun H locs hP hS => ?_)
  change W p l e _ s m _ below meth c H locs _ _ _ (F0 m (4 + 3) ls (.int r3 :: []))
  refine lv_if_ne (pc := 7) (tgt := 12) hx hb dX9_draw_7 (by decide) (fun c4 => ?_) (fun c4 => ?_)
  · have h := ineg c4 h
    refine lv_aload_n (pc := 12) hx hb dX9_draw_12 rfl (lv_at hl 0 rfl) ?_
    refine gt_X9_12 X hP hk0 dX9_draw_13 ?_
    refine lv_aload_n (pc := 16) hx hb dX9_draw_16 rfl (lv_at hl 0 rfl) ?_
    refine gt_X9_12 X hP hk0 dX9_draw_17 ?_
    refine gt_X9_87 X hP (kf_9_hall hk0).1 dX9_draw_20 ?_
    refine lv_ldcw (pc := 23) (v := (1103515245)) hx hb X.hown (X.tb tw_799 rfl) dX9_draw_23 ?_
    refine lv_imul (pc := 26) hx hb dX9_draw_26 ?_
    refine lv_sipush (pc := 27) (v := (12345)) hx hb dX9_draw_27 (by decide) ?_
    refine lv_iadd (pc := 30) hx hb dX9_draw_30 ?_
    obtain ⟨σ5, e6, h⟩ := bnd1 h
    refine pt_X9_87 X hP hS (kf_9_hall hk0).1 dX9_draw_31 (fun H locs hP hS => ?_)
    rw [Option.some.inj e6] at hP
    refine lv_aload_n (pc := 34) hx hb dX9_draw_34 rfl (lv_at hl 0 rfl) ?_
    refine gt_X9_12 X hP hk0 dX9_draw_35 ?_
    refine gt_X9_127 X hP (kf_9_hall hk0).1 dX9_draw_38 ?_
    refine lv_iload_n (pc := 41) hx hb dX9_draw_41 rfl (lv_at hl 1 rfl) ?_
    refine lv_aload_n (pc := 42) hx hb dX9_draw_42 rfl (lv_at hl 0 rfl) ?_
    refine gt_X9_12 X hP hk0 dX9_draw_43 ?_
    refine gt_X9_87 X hP (kf_9_hall hk0).1 dX9_draw_46 ?_
    refine lv_bipush (pc := 49) (v := (16)) hx hb dX9_draw_49 (by decide) ?_
    refine lv_iushr (pc := 51) (v := ((gI σ5 (k0 + 1) 6).toUInt32 >>> ((16 : Int32).toUInt32 &&& Int32.toUInt32 31)).toInt32) hx hb dX9_draw_51 rfl ?_
    refine lv_iconst (pc := 52) (v := 4) hx hb dX9_draw_52 (by decide) ?_
    refine lv_irem (pc := 53) hx hb dX9_draw_53 (by decide) ?_
    obtain ⟨j7, hj8, h⟩ := bnd1 h
    obtain ⟨σ9, e10, h⟩ := bnd1 h
    refine r_iast (pc := 54) X hP hS (kf_2_draughts (kf_9_hall hk0).1).1 hj8 dX9_draw_54 (fun H locs hP hS => ?_)
    rw [Option.some.inj e10] at hP
    refine lv_aload_n (pc := 55) hx hb dX9_draw_55 rfl (lv_at hl 0 rfl) ?_
    refine gt_X9_12 X hP hk0 dX9_draw_56 ?_
    refine gt_X9_127 X hP (kf_9_hall hk0).1 dX9_draw_59 ?_
    refine lv_iload_n (pc := 62) hx hb dX9_draw_62 rfl (lv_at hl 1 rfl) ?_
    obtain ⟨j11, hj12, h⟩ := bnd1 h
    refine r_iald (pc := 63) X hP (kf_2_draughts (kf_9_hall hk0).1).1 hj12 dX9_draw_63 ?_
    obtain ⟨rfl, rfl⟩ := inj2 h
    exact r_iret X hP hS dX9_draw_64
  · have h := ipos c4 h
    refine lv_iconst (pc := 10) (v := (-1)) hx hb dX9_draw_10 (by decide) ?_
    obtain ⟨rfl, rfl⟩ := inj2 h
    exact r_iret X hP hS dX9_draw_11
def f_X9_prove (k0 : Nat) (a1 : Int32) (σ : Mem) : Option (Int32 × Mem) :=
  bd2 (f_X2_unsoldAt (k0 + 1) a1 σ) fun r3 σ1 =>
  onr r3 (
    some ((-1 : Int32), σ1)
    ) fun q4 => grd (kd q4 = 3) <|
    bd1 (f_X4_clear (k0 + 74) σ1) fun σ6 =>
    bd2 (f_X8_burnAnew (k0 + 48) (k0 + 1) a1 (k0 + 74) σ6) fun r10 σ8 =>
    some ((gI σ8 (k0 + 74) 1), σ8)
abbrev RM_X9_prove : Room := { frames := 6, cells := 0, slots := 0, locals := 137 }
set_option maxHeartbeats 4000000 in
set_option maxRecDepth 100000 in
theorem c_X9_prove (l : Launch) (G : Gh) {k0 : Nat} {a1 : Int32} {σ : Mem} {rr : Int32} {σr : Mem} (hk0 : kd k0 = 9) (h : f_X9_prove k0 a1 σ = some (rr, σr)) : Met l yX9_prove [Cond.code yX9_prove prog_1_method_32_code 2 (some .int)] RM_X9_prove (va_Pc [.ref (ga G k0), .int a1] (Pre G σ)) (QG G (some (.int rr)) σr) 0 0 (AA G) := by
  refine ct_of (by decide) (fun p e s m below meth c X hP => ?_)
  have hx := X.hx
  have hb := X.hb
  have hS : va_S (AA G) s.heap s.heap [] := va_S.rf
  have hl := lv_entry ([.ref (ga G k0), .int a1]) (n := 2) (Nat.le_of_ble_eq_true rfl)
  rw [lg_entry_eq]
  generalize (lg_sl ([.ref (ga G k0), .int a1]) ++ List.replicate (2 - (lg_sl ([.ref (ga G k0), .int a1])).length) Slot.unset).toArray = ls at hl ⊢
  have hl : lv_has ls 2 [(0, .ref (ga G k0)), (1, .int a1)] := hl
  unfold f_X9_prove at h
  refine lv_aload_n (pc := 0) hx hb dX9_prove_0 rfl (lv_at hl 0 rfl) ?_
  refine gt_X9_12 X hP hk0 dX9_prove_1 ?_
  refine lv_iload_n (pc := 4) hx hb dX9_prove_4 rfl (lv_at hl 1 rfl) ?_
  obtain ⟨r3, σ1, e2, h⟩ := bnd2 h
  rcases r3 with _ | q4
  · have h := onr_n h
    refine cl_X9_209 X hP hS (kf_9_hall hk0).1 (As := [.int a1]) (rest := []) (c_X2_unsoldAt l G (kf_9_hall hk0).1 e2) ⟨rfl, rfl, Nat.le_of_ble_eq_true rfl, Nat.le_of_ble_eq_true rfl⟩ rfl hl.1 rfl (Nat.le_of_ble_eq_true rfl) ⟨Nat.zero_le _, Nat.zero_le _⟩ (pc := 5) dX9_prove_5 (fun H locs hP hS => ?_)
    change W p l e _ s m _ below meth c H locs _ _ _ (F0 m (5 + 3) ls (.null :: []))
    refine lv_ifnonnullN (pc := 8) hx hb dX9_prove_8 ?_
    refine lv_iconst (pc := 11) (v := (-1)) hx hb dX9_prove_11 (by decide) ?_
    obtain ⟨rfl, rfl⟩ := inj2 h
    exact r_iret X hP hS dX9_prove_12
  · have h := onr_s h
    obtain ⟨hq5, h⟩ := grd_inv h
    refine cl_X9_209 X hP hS (kf_9_hall hk0).1 (As := [.int a1]) (rest := []) (c_X2_unsoldAt l G (kf_9_hall hk0).1 e2) ⟨rfl, rfl, Nat.le_of_ble_eq_true rfl, Nat.le_of_ble_eq_true rfl⟩ rfl hl.1 rfl (Nat.le_of_ble_eq_true rfl) ⟨Nat.zero_le _, Nat.zero_le _⟩ (pc := 5) dX9_prove_5 (fun H locs hP hS => ?_)
    change W p l e _ s m _ below meth c H locs _ _ _ (F0 m (5 + 3) ls (.ref (ga G q4) :: []))
    refine lv_ifnonnull (pc := 8) (tgt := 13) hx hb dX9_prove_8 (by decide) ?_
    refine lv_aload_n (pc := 13) hx hb dX9_prove_13 rfl (lv_at hl 0 rfl) ?_
    refine gt_X9_43 X hP hk0 dX9_prove_14 ?_
    obtain ⟨σ6, e7, h⟩ := bnd1 h
    refine cl_X9_95 X hP hS (kf_9_rows hk0).1 (As := []) (rest := []) (c_X4_clear l G (kf_9_rows hk0).1 e7) ⟨rfl, rfl, Nat.le_of_ble_eq_true rfl, Nat.le_of_ble_eq_true rfl⟩ rfl hl.1 rfl (Nat.le_of_ble_eq_true rfl) ⟨Nat.zero_le _, Nat.zero_le _⟩ (pc := 17) dX9_prove_17 (fun H locs hP hS => ?_)
    change W p l e _ s m _ below meth c H locs _ _ _ (F0 m (17 + 3) ls [])
    refine lv_aload_n (pc := 20) hx hb dX9_prove_20 rfl (lv_at hl 0 rfl) ?_
    refine gt_X9_36 X hP hk0 dX9_prove_21 ?_
    refine lv_aload_n (pc := 24) hx hb dX9_prove_24 rfl (lv_at hl 0 rfl) ?_
    refine gt_X9_12 X hP hk0 dX9_prove_25 ?_
    refine lv_iload_n (pc := 28) hx hb dX9_prove_28 rfl (lv_at hl 1 rfl) ?_
    refine lv_aload_n (pc := 29) hx hb dX9_prove_29 rfl (lv_at hl 0 rfl) ?_
    refine gt_X9_43 X hP hk0 dX9_prove_30 ?_
    obtain ⟨r10, σ8, e9, h⟩ := bnd2 h
    refine cl_X9_212 X hP hS (kf_9_trials hk0).1 (As := [.ref (ga G (k0 + 1)), .int a1, .ref (ga G (k0 + 74))]) (rest := []) (c_X8_burnAnew l G (kf_9_trials hk0).1 (kf_9_hall hk0).1 (kf_9_rows hk0).1 e9) ⟨rfl, rfl, Nat.le_of_ble_eq_true rfl, Nat.le_of_ble_eq_true rfl⟩ rfl hl.1 rfl (Nat.le_of_ble_eq_true rfl) ⟨Nat.zero_le _, Nat.zero_le _⟩ (pc := 33) dX9_prove_33 (fun H locs hP hS => ?_)
    change W p l e _ s m _ below meth c H locs _ _ _ (F0 m (33 + 3) ls (.int r10 :: []))
    refine lv_pop (pc := 36) hx hb dX9_prove_36 rfl ?_
    refine lv_aload_n (pc := 37) hx hb dX9_prove_37 rfl (lv_at hl 0 rfl) ?_
    refine gt_X9_43 X hP hk0 dX9_prove_38 ?_
    refine gt_X9_257 X hP (kf_9_rows hk0).1 dX9_prove_41 ?_
    obtain ⟨rfl, rfl⟩ := inj2 h
    exact r_iret X hP hS dX9_prove_44
def f_X9_row (k0 : Nat) (a1 : Int32) (a2 : Int32) (σ : Mem) : Option (Int32 × Mem) :=
  bd2 (f_X4_has (k0 + 74) a1 a2 σ) fun r3 σ1 =>
  if r3 = (0 : Int32) then
    some ((-9 : Int32), σ1)
  else
    bd2 (f_X4_cell (k0 + 74) a1 a2 σ1) fun r7 σ5 =>
    some (r7, σ5)
abbrev RM_X9_row : Room := { frames := 3, cells := 0, slots := 0, locals := 66 }
set_option maxHeartbeats 4000000 in
set_option maxRecDepth 100000 in
theorem c_X9_row (l : Launch) (G : Gh) {k0 : Nat} {a1 : Int32} {a2 : Int32} {σ : Mem} {rr : Int32} {σr : Mem} (hk0 : kd k0 = 9) (h : f_X9_row k0 a1 a2 σ = some (rr, σr)) : Met l yX9_row [Cond.code yX9_row prog_1_method_33_code 3 (some .int)] RM_X9_row (va_Pc [.ref (ga G k0), .int a1, .int a2] (Pre G σ)) (QG G (some (.int rr)) σr) 0 0 (AA G) := by
  refine ct_of (by decide) (fun p e s m below meth c X hP => ?_)
  have hx := X.hx
  have hb := X.hb
  have hS : va_S (AA G) s.heap s.heap [] := va_S.rf
  have hl := lv_entry ([.ref (ga G k0), .int a1, .int a2]) (n := 3) (Nat.le_of_ble_eq_true rfl)
  rw [lg_entry_eq]
  generalize (lg_sl ([.ref (ga G k0), .int a1, .int a2]) ++ List.replicate (3 - (lg_sl ([.ref (ga G k0), .int a1, .int a2])).length) Slot.unset).toArray = ls at hl ⊢
  have hl : lv_has ls 3 [(0, .ref (ga G k0)), (1, .int a1), (2, .int a2)] := hl
  unfold f_X9_row at h
  refine lv_aload_n (pc := 0) hx hb dX9_row_0 rfl (lv_at hl 0 rfl) ?_
  refine gt_X9_43 X hP hk0 dX9_row_1 ?_
  refine lv_iload_n (pc := 4) hx hb dX9_row_4 rfl (lv_at hl 1 rfl) ?_
  refine lv_iload_n (pc := 5) hx hb dX9_row_5 rfl (lv_at hl 2 rfl) ?_
  obtain ⟨r3, σ1, e2, h⟩ := bnd2 h
  refine cl_X9_260 X hP hS (kf_9_rows hk0).1 (As := [.int a1, .int a2]) (rest := []) (c_X4_has l G (kf_9_rows hk0).1 e2) ⟨rfl, rfl, Nat.le_of_ble_eq_true rfl, Nat.le_of_ble_eq_true rfl⟩ rfl hl.1 rfl (Nat.le_of_ble_eq_true rfl) ⟨Nat.zero_le _, Nat.zero_le _⟩ (pc := 6) dX9_row_6 (fun H locs hP hS => ?_)
  change W p l e _ s m _ below meth c H locs _ _ _ (F0 m (6 + 3) ls (.int r3 :: []))
  refine lv_if_eq (pc := 9) (tgt := 24) hx hb dX9_row_9 (by decide) (fun c4 => ?_) (fun c4 => ?_)
  · have h := ipos c4 h
    refine lv_bipush (pc := 24) (v := (-9)) hx hb dX9_row_24 (by decide) ?_
    obtain ⟨rfl, rfl⟩ := inj2 h
    exact r_iret X hP hS dX9_row_26
  · have h := ineg c4 h
    refine lv_aload_n (pc := 12) hx hb dX9_row_12 rfl (lv_at hl 0 rfl) ?_
    refine gt_X9_43 X hP hk0 dX9_row_13 ?_
    refine lv_iload_n (pc := 16) hx hb dX9_row_16 rfl (lv_at hl 1 rfl) ?_
    refine lv_iload_n (pc := 17) hx hb dX9_row_17 rfl (lv_at hl 2 rfl) ?_
    obtain ⟨r7, σ5, e6, h⟩ := bnd2 h
    refine cl_X9_264 X hP hS (kf_9_rows hk0).1 (As := [.int a1, .int a2]) (rest := []) (c_X4_cell l G (kf_9_rows hk0).1 e6) ⟨rfl, rfl, Nat.le_of_ble_eq_true rfl, Nat.le_of_ble_eq_true rfl⟩ rfl hl.1 rfl (Nat.le_of_ble_eq_true rfl) ⟨Nat.zero_le _, Nat.zero_le _⟩ (pc := 18) dX9_row_18 (fun H locs hP hS => ?_)
    change W p l e _ s m _ below meth c H locs _ _ _ (F0 m (18 + 3) ls (.int r7 :: []))
    refine lv_goto (pc := 21) (tgt := 26) hx hb dX9_row_21 (by decide) ?_
    obtain ⟨rfl, rfl⟩ := inj2 h
    exact r_iret X hP hS dX9_row_26
def f_X9_alterRow (k0 : Nat) (a1 : Int32) (a2 : Int32) (a3 : Int32) (σ : Mem) : Option (Int32 × Mem) :=
  bd2 (f_X4_has (k0 + 74) a1 a2 σ) fun r3 σ1 =>
  if r3 = (0 : Int32) then
    some ((-9 : Int32), σ1)
  else
    bd2 (f_X4_cell (k0 + 74) a1 a2 σ1) fun r7 σ5 =>
    bd1 (f_X4_setCell (k0 + 74) a1 a2 a3 σ5) fun σ8 =>
    some (r7, σ8)
abbrev RM_X9_alterRow : Room := { frames := 3, cells := 0, slots := 0, locals := 67 }
set_option maxHeartbeats 4000000 in
set_option maxRecDepth 100000 in
theorem c_X9_alterRow (l : Launch) (G : Gh) {k0 : Nat} {a1 : Int32} {a2 : Int32} {a3 : Int32} {σ : Mem} {rr : Int32} {σr : Mem} (hk0 : kd k0 = 9) (h : f_X9_alterRow k0 a1 a2 a3 σ = some (rr, σr)) : Met l yX9_alterRow [Cond.code yX9_alterRow prog_1_method_34_code 5 (some .int)] RM_X9_alterRow (va_Pc [.ref (ga G k0), .int a1, .int a2, .int a3] (Pre G σ)) (QG G (some (.int rr)) σr) 0 0 (AA G) := by
  refine ct_of (by decide) (fun p e s m below meth c X hP => ?_)
  have hx := X.hx
  have hb := X.hb
  have hS : va_S (AA G) s.heap s.heap [] := va_S.rf
  have hl := lv_entry ([.ref (ga G k0), .int a1, .int a2, .int a3]) (n := 5) (Nat.le_of_ble_eq_true rfl)
  rw [lg_entry_eq]
  generalize (lg_sl ([.ref (ga G k0), .int a1, .int a2, .int a3]) ++ List.replicate (5 - (lg_sl ([.ref (ga G k0), .int a1, .int a2, .int a3])).length) Slot.unset).toArray = ls at hl ⊢
  have hl : lv_has ls 5 [(0, .ref (ga G k0)), (1, .int a1), (2, .int a2), (3, .int a3)] := hl
  unfold f_X9_alterRow at h
  refine lv_aload_n (pc := 0) hx hb dX9_alterRow_0 rfl (lv_at hl 0 rfl) ?_
  refine gt_X9_43 X hP hk0 dX9_alterRow_1 ?_
  refine lv_iload_n (pc := 4) hx hb dX9_alterRow_4 rfl (lv_at hl 1 rfl) ?_
  refine lv_iload_n (pc := 5) hx hb dX9_alterRow_5 rfl (lv_at hl 2 rfl) ?_
  obtain ⟨r3, σ1, e2, h⟩ := bnd2 h
  refine cl_X9_260 X hP hS (kf_9_rows hk0).1 (As := [.int a1, .int a2]) (rest := []) (c_X4_has l G (kf_9_rows hk0).1 e2) ⟨rfl, rfl, Nat.le_of_ble_eq_true rfl, Nat.le_of_ble_eq_true rfl⟩ rfl hl.1 rfl (Nat.le_of_ble_eq_true rfl) ⟨Nat.zero_le _, Nat.zero_le _⟩ (pc := 6) dX9_alterRow_6 (fun H locs hP hS => ?_)
  change W p l e _ s m _ below meth c H locs _ _ _ (F0 m (6 + 3) ls (.int r3 :: []))
  refine lv_if_ne (pc := 9) (tgt := 15) hx hb dX9_alterRow_9 (by decide) (fun c4 => ?_) (fun c4 => ?_)
  · have h := ineg c4 h
    refine lv_aload_n (pc := 15) hx hb dX9_alterRow_15 rfl (lv_at hl 0 rfl) ?_
    refine gt_X9_43 X hP hk0 dX9_alterRow_16 ?_
    refine lv_iload_n (pc := 19) hx hb dX9_alterRow_19 rfl (lv_at hl 1 rfl) ?_
    refine lv_iload_n (pc := 20) hx hb dX9_alterRow_20 rfl (lv_at hl 2 rfl) ?_
    obtain ⟨r7, σ5, e6, h⟩ := bnd2 h
    refine cl_X9_264 X hP hS (kf_9_rows hk0).1 (As := [.int a1, .int a2]) (rest := []) (c_X4_cell l G (kf_9_rows hk0).1 e6) ⟨rfl, rfl, Nat.le_of_ble_eq_true rfl, Nat.le_of_ble_eq_true rfl⟩ rfl hl.1 rfl (Nat.le_of_ble_eq_true rfl) ⟨Nat.zero_le _, Nat.zero_le _⟩ (pc := 21) dX9_alterRow_21 (fun H locs hP hS => ?_)
    change W p l e _ s m _ below meth c H locs _ _ _ (F0 m (21 + 3) ls (.int r7 :: []))
    refine lv_istore (pc := 24) (lv' := [(4, .int r7), (0, .ref (ga G k0)), (1, .int a1), (2, .int a2), (3, .int a3)]) hx hb dX9_alterRow_24 hl (by decide) rfl (fun ls hl => ?_)
    refine lv_aload_n (pc := 26) hx hb dX9_alterRow_26 rfl (lv_at hl 1 rfl) ?_
    refine gt_X9_43 X hP hk0 dX9_alterRow_27 ?_
    refine lv_iload_n (pc := 30) hx hb dX9_alterRow_30 rfl (lv_at hl 2 rfl) ?_
    refine lv_iload_n (pc := 31) hx hb dX9_alterRow_31 rfl (lv_at hl 3 rfl) ?_
    refine lv_iload_n (pc := 32) hx hb dX9_alterRow_32 rfl (lv_at hl 4 rfl) ?_
    obtain ⟨σ8, e9, h⟩ := bnd1 h
    refine cl_X9_267 X hP hS (kf_9_rows hk0).1 (As := [.int a1, .int a2, .int a3]) (rest := []) (c_X4_setCell l G (kf_9_rows hk0).1 e9) ⟨rfl, rfl, Nat.le_of_ble_eq_true rfl, Nat.le_of_ble_eq_true rfl⟩ rfl hl.1 rfl (Nat.le_of_ble_eq_true rfl) ⟨Nat.zero_le _, Nat.zero_le _⟩ (pc := 33) dX9_alterRow_33 (fun H locs hP hS => ?_)
    change W p l e _ s m _ below meth c H locs _ _ _ (F0 m (33 + 3) ls [])
    refine lv_iload (pc := 36) hx hb dX9_alterRow_36 (lv_at hl 0 rfl) ?_
    obtain ⟨rfl, rfl⟩ := inj2 h
    exact r_iret X hP hS dX9_alterRow_38
  · have h := ipos c4 h
    refine lv_bipush (pc := 12) (v := (-9)) hx hb dX9_alterRow_12 (by decide) ?_
    obtain ⟨rfl, rfl⟩ := inj2 h
    exact r_iret X hP hS dX9_alterRow_14
def f_X9_judge (k0 : Nat) (a1 : Int32) (σ : Mem) : Option (Int32 × Mem) :=
  bd2 (f_X2_unsoldAt (k0 + 1) a1 σ) fun r3 σ1 =>
  onr r3 (
    some ((-1 : Int32), σ1)
    ) fun q4 => grd (kd q4 = 3) <|
    bd1 (f_X4_clear (k0 + 76) σ1) fun σ6 =>
    bd2 (f_X8_burnAnew (k0 + 48) (k0 + 1) a1 (k0 + 76) σ6) fun r10 σ8 =>
    bd2 (f_X4_judgedBy (k0 + 74) (k0 + 76) σ8) fun r13 σ11 =>
    some (r13, σ11)
abbrev RM_X9_judge : Room := { frames := 6, cells := 0, slots := 0, locals := 137 }
set_option maxHeartbeats 4000000 in
set_option maxRecDepth 100000 in
theorem c_X9_judge (l : Launch) (G : Gh) {k0 : Nat} {a1 : Int32} {σ : Mem} {rr : Int32} {σr : Mem} (hk0 : kd k0 = 9) (h : f_X9_judge k0 a1 σ = some (rr, σr)) : Met l yX9_judge [Cond.code yX9_judge prog_1_method_35_code 2 (some .int)] RM_X9_judge (va_Pc [.ref (ga G k0), .int a1] (Pre G σ)) (QG G (some (.int rr)) σr) 0 0 (AA G) := by
  refine ct_of (by decide) (fun p e s m below meth c X hP => ?_)
  have hx := X.hx
  have hb := X.hb
  have hS : va_S (AA G) s.heap s.heap [] := va_S.rf
  have hl := lv_entry ([.ref (ga G k0), .int a1]) (n := 2) (Nat.le_of_ble_eq_true rfl)
  rw [lg_entry_eq]
  generalize (lg_sl ([.ref (ga G k0), .int a1]) ++ List.replicate (2 - (lg_sl ([.ref (ga G k0), .int a1])).length) Slot.unset).toArray = ls at hl ⊢
  have hl : lv_has ls 2 [(0, .ref (ga G k0)), (1, .int a1)] := hl
  unfold f_X9_judge at h
  refine lv_aload_n (pc := 0) hx hb dX9_judge_0 rfl (lv_at hl 0 rfl) ?_
  refine gt_X9_12 X hP hk0 dX9_judge_1 ?_
  refine lv_iload_n (pc := 4) hx hb dX9_judge_4 rfl (lv_at hl 1 rfl) ?_
  obtain ⟨r3, σ1, e2, h⟩ := bnd2 h
  rcases r3 with _ | q4
  · have h := onr_n h
    refine cl_X9_209 X hP hS (kf_9_hall hk0).1 (As := [.int a1]) (rest := []) (c_X2_unsoldAt l G (kf_9_hall hk0).1 e2) ⟨rfl, rfl, Nat.le_of_ble_eq_true rfl, Nat.le_of_ble_eq_true rfl⟩ rfl hl.1 rfl (Nat.le_of_ble_eq_true rfl) ⟨Nat.zero_le _, Nat.zero_le _⟩ (pc := 5) dX9_judge_5 (fun H locs hP hS => ?_)
    change W p l e _ s m _ below meth c H locs _ _ _ (F0 m (5 + 3) ls (.null :: []))
    refine lv_ifnonnullN (pc := 8) hx hb dX9_judge_8 ?_
    refine lv_iconst (pc := 11) (v := (-1)) hx hb dX9_judge_11 (by decide) ?_
    obtain ⟨rfl, rfl⟩ := inj2 h
    exact r_iret X hP hS dX9_judge_12
  · have h := onr_s h
    obtain ⟨hq5, h⟩ := grd_inv h
    refine cl_X9_209 X hP hS (kf_9_hall hk0).1 (As := [.int a1]) (rest := []) (c_X2_unsoldAt l G (kf_9_hall hk0).1 e2) ⟨rfl, rfl, Nat.le_of_ble_eq_true rfl, Nat.le_of_ble_eq_true rfl⟩ rfl hl.1 rfl (Nat.le_of_ble_eq_true rfl) ⟨Nat.zero_le _, Nat.zero_le _⟩ (pc := 5) dX9_judge_5 (fun H locs hP hS => ?_)
    change W p l e _ s m _ below meth c H locs _ _ _ (F0 m (5 + 3) ls (.ref (ga G q4) :: []))
    refine lv_ifnonnull (pc := 8) (tgt := 13) hx hb dX9_judge_8 (by decide) ?_
    refine lv_aload_n (pc := 13) hx hb dX9_judge_13 rfl (lv_at hl 0 rfl) ?_
    refine gt_X9_47 X hP hk0 dX9_judge_14 ?_
    obtain ⟨σ6, e7, h⟩ := bnd1 h
    refine cl_X9_95 X hP hS (kf_9_rightRows hk0).1 (As := []) (rest := []) (c_X4_clear l G (kf_9_rightRows hk0).1 e7) ⟨rfl, rfl, Nat.le_of_ble_eq_true rfl, Nat.le_of_ble_eq_true rfl⟩ rfl hl.1 rfl (Nat.le_of_ble_eq_true rfl) ⟨Nat.zero_le _, Nat.zero_le _⟩ (pc := 17) dX9_judge_17 (fun H locs hP hS => ?_)
    change W p l e _ s m _ below meth c H locs _ _ _ (F0 m (17 + 3) ls [])
    refine lv_aload_n (pc := 20) hx hb dX9_judge_20 rfl (lv_at hl 0 rfl) ?_
    refine gt_X9_36 X hP hk0 dX9_judge_21 ?_
    refine lv_aload_n (pc := 24) hx hb dX9_judge_24 rfl (lv_at hl 0 rfl) ?_
    refine gt_X9_12 X hP hk0 dX9_judge_25 ?_
    refine lv_iload_n (pc := 28) hx hb dX9_judge_28 rfl (lv_at hl 1 rfl) ?_
    refine lv_aload_n (pc := 29) hx hb dX9_judge_29 rfl (lv_at hl 0 rfl) ?_
    refine gt_X9_47 X hP hk0 dX9_judge_30 ?_
    obtain ⟨r10, σ8, e9, h⟩ := bnd2 h
    refine cl_X9_212 X hP hS (kf_9_trials hk0).1 (As := [.ref (ga G (k0 + 1)), .int a1, .ref (ga G (k0 + 76))]) (rest := []) (c_X8_burnAnew l G (kf_9_trials hk0).1 (kf_9_hall hk0).1 (kf_9_rightRows hk0).1 e9) ⟨rfl, rfl, Nat.le_of_ble_eq_true rfl, Nat.le_of_ble_eq_true rfl⟩ rfl hl.1 rfl (Nat.le_of_ble_eq_true rfl) ⟨Nat.zero_le _, Nat.zero_le _⟩ (pc := 33) dX9_judge_33 (fun H locs hP hS => ?_)
    change W p l e _ s m _ below meth c H locs _ _ _ (F0 m (33 + 3) ls (.int r10 :: []))
    refine lv_pop (pc := 36) hx hb dX9_judge_36 rfl ?_
    refine lv_aload_n (pc := 37) hx hb dX9_judge_37 rfl (lv_at hl 0 rfl) ?_
    refine gt_X9_43 X hP hk0 dX9_judge_38 ?_
    refine lv_aload_n (pc := 41) hx hb dX9_judge_41 rfl (lv_at hl 0 rfl) ?_
    refine gt_X9_47 X hP hk0 dX9_judge_42 ?_
    obtain ⟨r13, σ11, e12, h⟩ := bnd2 h
    refine cl_X9_271 X hP hS (kf_9_rows hk0).1 (As := [.ref (ga G (k0 + 76))]) (rest := []) (c_X4_judgedBy l G (kf_9_rows hk0).1 (kf_9_rightRows hk0).1 e12) ⟨rfl, rfl, Nat.le_of_ble_eq_true rfl, Nat.le_of_ble_eq_true rfl⟩ rfl hl.1 rfl (Nat.le_of_ble_eq_true rfl) ⟨Nat.zero_le _, Nat.zero_le _⟩ (pc := 45) dX9_judge_45 (fun H locs hP hS => ?_)
    change W p l e _ s m _ below meth c H locs _ _ _ (F0 m (45 + 3) ls (.int r13 :: []))
    obtain ⟨rfl, rfl⟩ := inj2 h
    exact r_iret X hP hS dX9_judge_48
def f_X9_sheetAt (k0 : Nat) (a1 : Int32) (σ : Mem) : Option (Option Nat × Mem) :=
  bd2 (f_X9_within a1 (0 : Int32) (3 : Int32) σ) fun r3 σ1 =>
  if r3 = (0 : Int32) then
    some (none, σ1)
  else
    bd1 (ixo (k0 + 78) a1) fun j5 =>
    some (some ((k0 + 78) + 4 + 2 * j5), σ1)
abbrev RM_X9_sheetAt : Room := { frames := 1, cells := 0, slots := 0, locals := 22 }
set_option maxHeartbeats 4000000 in
set_option maxRecDepth 100000 in
theorem c_X9_sheetAt (l : Launch) (G : Gh) {k0 : Nat} {a1 : Int32} {σ : Mem} {rr : Option Nat} {σr : Mem} (hk0 : kd k0 = 9) (h : f_X9_sheetAt k0 a1 σ = some (rr, σr)) : Met l yX9_sheetAt [Cond.code yX9_sheetAt prog_1_method_47_code 2 (some (.object "InchCandle$Sheet"))] RM_X9_sheetAt (va_Pc [.ref (ga G k0), .int a1] (Pre G σ)) (QG G (some (rfv G rr)) σr) 0 0 (AA G) := by
  refine ct_of (by decide) (fun p e s m below meth c X hP => ?_)
  have hx := X.hx
  have hb := X.hb
  have hS : va_S (AA G) s.heap s.heap [] := va_S.rf
  have hl := lv_entry ([.ref (ga G k0), .int a1]) (n := 2) (Nat.le_of_ble_eq_true rfl)
  rw [lg_entry_eq]
  generalize (lg_sl ([.ref (ga G k0), .int a1]) ++ List.replicate (2 - (lg_sl ([.ref (ga G k0), .int a1])).length) Slot.unset).toArray = ls at hl ⊢
  have hl : lv_has ls 2 [(0, .ref (ga G k0)), (1, .int a1)] := hl
  unfold f_X9_sheetAt at h
  refine lv_iload_n (pc := 0) hx hb dX9_sheetAt_0 rfl (lv_at hl 1 rfl) ?_
  refine lv_iconst (pc := 1) (v := 0) hx hb dX9_sheetAt_1 (by decide) ?_
  refine lv_iconst (pc := 2) (v := 3) hx hb dX9_sheetAt_2 (by decide) ?_
  obtain ⟨r3, σ1, e2, h⟩ := bnd2 h
  refine cl_X9_71 X hP hS (As := [.int a1, .int (0 : Int32), .int (3 : Int32)]) (rest := []) (c_X9_within l G  e2) ⟨rfl, rfl, Nat.le_of_ble_eq_true rfl, Nat.le_of_ble_eq_true rfl⟩ rfl hl.1 rfl (Nat.le_of_ble_eq_true rfl) ⟨Nat.zero_le _, Nat.zero_le _⟩ (pc := 3) dX9_sheetAt_3 (fun H locs hP hS => ?_)
  change W p l e _ s m _ below meth c H locs _ _ _ (F0 m (3 + 3) ls (.int r3 :: []))
  refine lv_if_eq (pc := 6) (tgt := 18) hx hb dX9_sheetAt_6 (by decide) (fun c4 => ?_) (fun c4 => ?_)
  · have h := ipos c4 h
    refine lv_null (pc := 18) hx hb dX9_sheetAt_18 ?_
    obtain ⟨rfl, rfl⟩ := inj2 h
    exact r_aret (v := .null) X hP hS (Or.inl rfl) dX9_sheetAt_19
  · have h := ineg c4 h
    refine lv_aload_n (pc := 9) hx hb dX9_sheetAt_9 rfl (lv_at hl 0 rfl) ?_
    refine gt_X9_52 X hP hk0 dX9_sheetAt_10 ?_
    refine lv_iload_n (pc := 13) hx hb dX9_sheetAt_13 rfl (lv_at hl 1 rfl) ?_
    obtain ⟨j5, hj6, h⟩ := bnd1 h
    refine r_ald16 (pc := 14) X hP (kf_9_sheets hk0).1 hj6 dX9_sheetAt_14 ?_
    refine lv_goto (pc := 15) (tgt := 19) hx hb dX9_sheetAt_15 (by decide) ?_
    obtain ⟨rfl, rfl⟩ := inj2 h
    exact r_aret (v := .ref (ga G ((k0 + 78) + 4 + 2 * j5))) X hP hS (Or.inr ⟨_, rfl⟩) dX9_sheetAt_19
def F_X9_draughts_81 (k0z : Nat) (p2 : Int32) (p3 : Int32) (p4 : Int32) (k5z : Nat) (rec1 : Int32 → Mem → Option (Int32 × Mem)) : Int32 → Mem → Option (Int32 × Mem) := fun v6 σ =>
  if p4 ≤ v6 then
    some (p4, σ)
  else
    bd2 (f_X5_itemAt k5z (p2 + v6) σ) fun r24 σ22 =>
    bd1 (ixo ((k0z + 1) + 3) (p3 + v6)) fun j25 =>
    bd1 (some (pI σ22 ((k0z + 1) + 3) j25 (if (0 : Int32) < (if r24 < (3 : Int32) then r24 else (3 : Int32)) then (if r24 < (3 : Int32) then r24 else (3 : Int32)) else (0 : Int32)))) fun σ27 =>
    rec1 (v6 + (1 : Int32)) σ27
def f_X9_draughts (k0 : Nat) (a1 : Int32) (a2 : Int32) (a3 : Int32) (a4 : Int32) (σ : Mem) : Option (Int32 × Mem) :=
  bd2 (f_X9_sheetAt k0 a1 σ) fun r3 σ1 =>
  onr r3 (
    some ((-1 : Int32), σ1)
    ) fun q4 => grd (kd q4 = 5) <|
    bd2 (f_X9_within a3 (0 : Int32) (11 : Int32) σ1) fun r8 σ6 =>
    if r8 = (0 : Int32) then
      some ((-1 : Int32), σ6)
    else
      bd2 (f_X9_within a4 (0 : Int32) ((12 : Int32) - a3) σ6) fun r12 σ10 =>
      if r12 = (0 : Int32) then
        some ((-1 : Int32), σ10)
      else
        bd2 (f_X5_isMissing q4 σ10) fun r16 σ14 =>
        if r16 = (0 : Int32) then
          if (gI σ14 q4 1) = (0 : Int32) then
            if a2 < (0 : Int32) then
              some ((-12 : Int32), σ14)
            else
              if a2 ≤ ((gI σ14 q4 2) - a4) then
                iterF (F_X9_draughts_81 k0 a2 a3 a4 q4) (fun _ _ => none) FU (0 : Int32) σ14
              else
                some ((-12 : Int32), σ14)
          else
            some ((-13 : Int32), σ14)
        else
          some ((-11 : Int32), σ14)
abbrev RM_X9_draughts : Room := { frames := 3, cells := 0, slots := 0, locals := 64 }
set_option maxHeartbeats 4000000 in
set_option maxRecDepth 100000 in
theorem w_X9_draughts_81 {l : Launch} {G : Gh} {p : Program} {e : Env} {s : State} {m : MethodId} {args : Array Value} {below : List Frame} {meth : Method} {c : Code} (X : Cx G p s m args meth c prog_1_method_36_code RX9 7 (some .int)) {k0z : Nat} {p2 : Int32} {p3 : Int32} {p4 : Int32} {k5z : Nat} (hz0 : kd k0z = 9) (hz5 : kd k5z = 5) {rr : Int32} {σr : Mem} : ∀ (n : Nat) (v6 : Int32) (σ : Mem) (H : Heap) (locs : List Loc) (ls : Array Slot), PW G σ H → va_S (AA G) s.heap H locs → lv_has ls 7 [(0, .ref (ga G k0z)), (2, .int p2), (3, .int p3), (4, .int p4), (5, .ref (ga G k5z)), (6, .int v6)] → iterF (F_X9_draughts_81 k0z p2 p3 p4 k5z) (fun _ _ => none) n v6 σ = some (rr, σr) → W p l e RM_X9_draughts s m args below meth c H locs 0 0 (MQ below (QG G (some (.int rr)) σr) args s 0 0 (AA G)) (F0 m 81 ls []) := by
  have hx := X.hx
  have hb := X.hb
  intro n
  induction n with
  | zero => intro v6 σ H locs ls hP hS hl h; exact nnone (α := (Int32 × Mem)) h
  | succ n ih1 =>
    intro v6 σ H locs ls hP hS hl h
    have h : F_X9_draughts_81 k0z p2 p3 p4 k5z (iterF (F_X9_draughts_81 k0z p2 p3 p4 k5z) (fun _ _ => none) n) v6 σ = some _ := h
    unfold F_X9_draughts_81 at h
    refine lv_iload (pc := 81) hx hb dX9_draughts_81 (lv_at hl 5 rfl) ?_
    refine lv_iload (pc := 83) hx hb dX9_draughts_83 (lv_at hl 3 rfl) ?_
    refine lv_icmp_ge (pc := 85) (tgt := 123) hx hb dX9_draughts_85 (by decide) (fun c21 => ?_) (fun c21 => ?_)
    · have h := ipos c21 h
      refine lv_iload (pc := 123) hx hb dX9_draughts_123 (lv_at hl 3 rfl) ?_
      obtain ⟨rfl, rfl⟩ := inj2 h
      exact r_iret X hP hS dX9_draughts_125
    · have h := ineg c21 h
      refine lv_aload_n (pc := 88) hx hb dX9_draughts_88 rfl (lv_at hl 0 rfl) ?_
      refine gt_X9_12 X hP hz0 dX9_draughts_89 ?_
      refine gt_X9_127 X hP (kf_9_hall hz0).1 dX9_draughts_92 ?_
      refine lv_iload_n (pc := 95) hx hb dX9_draughts_95 rfl (lv_at hl 2 rfl) ?_
      refine lv_iload (pc := 96) hx hb dX9_draughts_96 (lv_at hl 5 rfl) ?_
      refine lv_iadd (pc := 98) hx hb dX9_draughts_98 ?_
      refine lv_iconst (pc := 99) (v := 0) hx hb dX9_draughts_99 (by decide) ?_
      refine lv_iconst (pc := 100) (v := 3) hx hb dX9_draughts_100 (by decide) ?_
      refine lv_aload (pc := 101) hx hb dX9_draughts_101 (lv_at hl 4 rfl) ?_
      refine lv_iload_n (pc := 103) hx hb dX9_draughts_103 rfl (lv_at hl 1 rfl) ?_
      refine lv_iload (pc := 104) hx hb dX9_draughts_104 (lv_at hl 5 rfl) ?_
      refine lv_iadd (pc := 106) hx hb dX9_draughts_106 ?_
      obtain ⟨r24, σ22, e23, h⟩ := bnd2 h
      refine cl_X9_289 X hP hS hz5 (As := [.int (p2 + v6)]) (rest := [.int (3 : Int32), .int (0 : Int32), .int (p3 + v6), .ref (ga G ((k0z + 1) + 3))]) (c_X5_itemAt l G hz5 e23) ⟨rfl, rfl, Nat.le_of_ble_eq_true rfl, Nat.le_of_ble_eq_true rfl⟩ rfl hl.1 rfl (Nat.le_of_ble_eq_true rfl) ⟨Nat.zero_le _, Nat.zero_le _⟩ (pc := 107) dX9_draughts_107 (fun H locs hP hS => ?_)
      change W p l e _ s m _ below meth c H locs _ _ _ (F0 m (107 + 3) ls (.int r24 :: [.int (3 : Int32), .int (0 : Int32), .int (p3 + v6), .ref (ga G ((k0z + 1) + 3))]))
      refine va_mmin (pc := 110) hx hb (X.hml.trans hl.1.symm) X.hown (X.tb tw_652 rfl) (X.tb tw_560 rfl) (X.tb tw_17 rfl) (X.tb tw_561 rfl) (Nat.le_of_ble_eq_true rfl) (Nat.le_of_ble_eq_true rfl) (Nat.le_of_ble_eq_true rfl) (Nat.le_of_ble_eq_true rfl) dX9_draughts_110 ?_
      refine va_mmax (pc := 113) hx hb (X.hml.trans hl.1.symm) X.hown (X.tb tw_860 rfl) (X.tb tw_636 rfl) (X.tb tw_17 rfl) (X.tb tw_637 rfl) (Nat.le_of_ble_eq_true rfl) (Nat.le_of_ble_eq_true rfl) (Nat.le_of_ble_eq_true rfl) (Nat.le_of_ble_eq_true rfl) dX9_draughts_113 ?_
      obtain ⟨j25, hj26, h⟩ := bnd1 h
      obtain ⟨σ27, e28, h⟩ := bnd1 h
      refine r_iast (pc := 116) X hP hS (kf_2_draughts (kf_9_hall hz0).1).1 hj26 dX9_draughts_116 (fun H locs hP hS => ?_)
      rw [Option.some.inj e28] at hP
      refine lv_iinc (pc := 117) (v := (v6 + (1 : Int32))) (lv' := [(6, .int (v6 + (1 : Int32))), (0, .ref (ga G k0z)), (2, .int p2), (3, .int p3), (4, .int p4), (5, .ref (ga G k5z))]) hx hb dX9_draughts_117 hl (k := 5) rfl (congrArg (fun z => v6 + z) (by decide)) (by decide) rfl (fun ls hl => ?_)
      refine lv_goto (pc := 120) (tgt := 81) hx hb dX9_draughts_120 (by decide) ?_
      exact ih1 _ _ _ _ _ hP hS (lv_sub hl [1, 2, 3, 4, 5, 0] rfl) h
set_option maxHeartbeats 4000000 in
set_option maxRecDepth 100000 in
theorem c_X9_draughts (l : Launch) (G : Gh) {k0 : Nat} {a1 : Int32} {a2 : Int32} {a3 : Int32} {a4 : Int32} {σ : Mem} {rr : Int32} {σr : Mem} (hk0 : kd k0 = 9) (h : f_X9_draughts k0 a1 a2 a3 a4 σ = some (rr, σr)) : Met l yX9_draughts [Cond.code yX9_draughts prog_1_method_36_code 7 (some .int)] RM_X9_draughts (va_Pc [.ref (ga G k0), .int a1, .int a2, .int a3, .int a4] (Pre G σ)) (QG G (some (.int rr)) σr) 0 0 (AA G) := by
  refine ct_of (by decide) (fun p e s m below meth c X hP => ?_)
  have hx := X.hx
  have hb := X.hb
  have hS : va_S (AA G) s.heap s.heap [] := va_S.rf
  have hl := lv_entry ([.ref (ga G k0), .int a1, .int a2, .int a3, .int a4]) (n := 7) (Nat.le_of_ble_eq_true rfl)
  rw [lg_entry_eq]
  generalize (lg_sl ([.ref (ga G k0), .int a1, .int a2, .int a3, .int a4]) ++ List.replicate (7 - (lg_sl ([.ref (ga G k0), .int a1, .int a2, .int a3, .int a4])).length) Slot.unset).toArray = ls at hl ⊢
  have hl : lv_has ls 7 [(0, .ref (ga G k0)), (1, .int a1), (2, .int a2), (3, .int a3), (4, .int a4)] := hl
  unfold f_X9_draughts at h
  refine lv_aload_n (pc := 0) hx hb dX9_draughts_0 rfl (lv_at hl 0 rfl) ?_
  refine lv_iload_n (pc := 1) hx hb dX9_draughts_1 rfl (lv_at hl 1 rfl) ?_
  obtain ⟨r3, σ1, e2, h⟩ := bnd2 h
  rcases r3 with _ | q4
  · have h := onr_n h
    refine cl_X9_275 X hP hS hk0 (As := [.int a1]) (rest := []) (c_X9_sheetAt l G hk0 e2) ⟨rfl, rfl, Nat.le_of_ble_eq_true rfl, Nat.le_of_ble_eq_true rfl⟩ rfl hl.1 rfl (Nat.le_of_ble_eq_true rfl) ⟨Nat.zero_le _, Nat.zero_le _⟩ (pc := 2) dX9_draughts_2 (fun H locs hP hS => ?_)
    change W p l e _ s m _ below meth c H locs _ _ _ (F0 m (2 + 3) ls (.null :: []))
    refine lv_astoreN (pc := 5) (lv' := [(5, .null), (0, .ref (ga G k0)), (1, .int a1), (2, .int a2), (3, .int a3), (4, .int a4)]) hx hb dX9_draughts_5 hl (by decide) rfl (fun ls hl => ?_)
    refine lv_aloadN (pc := 7) hx hb dX9_draughts_7 (lv_at hl 0 rfl) ?_
    refine lv_ifnullN (pc := 9) (tgt := 35) hx hb dX9_draughts_9 (by decide) ?_
    refine lv_iconst (pc := 35) (v := (-1)) hx hb dX9_draughts_35 (by decide) ?_
    obtain ⟨rfl, rfl⟩ := inj2 h
    exact r_iret X hP hS dX9_draughts_36
  · have h := onr_s h
    obtain ⟨hq5, h⟩ := grd_inv h
    refine cl_X9_275 X hP hS hk0 (As := [.int a1]) (rest := []) (c_X9_sheetAt l G hk0 e2) ⟨rfl, rfl, Nat.le_of_ble_eq_true rfl, Nat.le_of_ble_eq_true rfl⟩ rfl hl.1 rfl (Nat.le_of_ble_eq_true rfl) ⟨Nat.zero_le _, Nat.zero_le _⟩ (pc := 2) dX9_draughts_2 (fun H locs hP hS => ?_)
    change W p l e _ s m _ below meth c H locs _ _ _ (F0 m (2 + 3) ls (.ref (ga G q4) :: []))
    refine lv_astore (pc := 5) (lv' := [(5, .ref (ga G q4)), (0, .ref (ga G k0)), (1, .int a1), (2, .int a2), (3, .int a3), (4, .int a4)]) hx hb dX9_draughts_5 hl (by decide) rfl (fun ls hl => ?_)
    refine lv_aload (pc := 7) hx hb dX9_draughts_7 (lv_at hl 0 rfl) ?_
    refine lv_ifnull (pc := 9) hx hb dX9_draughts_9 ?_
    refine lv_iload_n (pc := 12) hx hb dX9_draughts_12 rfl (lv_at hl 4 rfl) ?_
    refine lv_iconst (pc := 13) (v := 0) hx hb dX9_draughts_13 (by decide) ?_
    refine lv_bipush (pc := 14) (v := (11)) hx hb dX9_draughts_14 (by decide) ?_
    obtain ⟨r8, σ6, e7, h⟩ := bnd2 h
    refine cl_X9_71 X hP hS (As := [.int a3, .int (0 : Int32), .int (11 : Int32)]) (rest := []) (c_X9_within l G  e7) ⟨rfl, rfl, Nat.le_of_ble_eq_true rfl, Nat.le_of_ble_eq_true rfl⟩ rfl hl.1 rfl (Nat.le_of_ble_eq_true rfl) ⟨Nat.zero_le _, Nat.zero_le _⟩ (pc := 16) dX9_draughts_16 (fun H locs hP hS => ?_)
    change W p l e _ s m _ below meth c H locs _ _ _ (F0 m (16 + 3) ls (.int r8 :: []))
    refine lv_if_eq (pc := 19) (tgt := 35) hx hb dX9_draughts_19 (by decide) (fun c9 => ?_) (fun c9 => ?_)
    · have h := ipos c9 h
      refine lv_iconst (pc := 35) (v := (-1)) hx hb dX9_draughts_35 (by decide) ?_
      obtain ⟨rfl, rfl⟩ := inj2 h
      exact r_iret X hP hS dX9_draughts_36
    · have h := ineg c9 h
      refine lv_iload (pc := 22) hx hb dX9_draughts_22 (lv_at hl 5 rfl) ?_
      refine lv_iconst (pc := 24) (v := 0) hx hb dX9_draughts_24 (by decide) ?_
      refine lv_bipush (pc := 25) (v := (12)) hx hb dX9_draughts_25 (by decide) ?_
      refine lv_iload_n (pc := 27) hx hb dX9_draughts_27 rfl (lv_at hl 4 rfl) ?_
      refine lv_isub (pc := 28) hx hb dX9_draughts_28 ?_
      obtain ⟨r12, σ10, e11, h⟩ := bnd2 h
      refine cl_X9_71 X hP hS (As := [.int a4, .int (0 : Int32), .int ((12 : Int32) - a3)]) (rest := []) (c_X9_within l G  e11) ⟨rfl, rfl, Nat.le_of_ble_eq_true rfl, Nat.le_of_ble_eq_true rfl⟩ rfl hl.1 rfl (Nat.le_of_ble_eq_true rfl) ⟨Nat.zero_le _, Nat.zero_le _⟩ (pc := 29) dX9_draughts_29 (fun H locs hP hS => ?_)
      change W p l e _ s m _ below meth c H locs _ _ _ (F0 m (29 + 3) ls (.int r12 :: []))
      refine lv_if_ne (pc := 32) (tgt := 37) hx hb dX9_draughts_32 (by decide) (fun c13 => ?_) (fun c13 => ?_)
      · have h := ineg c13 h
        refine lv_aload (pc := 37) hx hb dX9_draughts_37 (lv_at hl 0 rfl) ?_
        obtain ⟨r16, σ14, e15, h⟩ := bnd2 h
        refine cl_X9_279 X hP hS hq5 (As := []) (rest := []) (c_X5_isMissing l G hq5 e15) ⟨rfl, rfl, Nat.le_of_ble_eq_true rfl, Nat.le_of_ble_eq_true rfl⟩ rfl hl.1 rfl (Nat.le_of_ble_eq_true rfl) ⟨Nat.zero_le _, Nat.zero_le _⟩ (pc := 39) dX9_draughts_39 (fun H locs hP hS => ?_)
        change W p l e _ s m _ below meth c H locs _ _ _ (F0 m (39 + 3) ls (.int r16 :: []))
        refine lv_if_eq (pc := 42) (tgt := 48) hx hb dX9_draughts_42 (by decide) (fun c17 => ?_) (fun c17 => ?_)
        · have h := ipos c17 h
          refine lv_aload (pc := 48) hx hb dX9_draughts_48 (lv_at hl 0 rfl) ?_
          refine gt_X9_283 X hP hq5 dX9_draughts_50 ?_
          refine lv_if_eq (pc := 53) (tgt := 59) hx hb dX9_draughts_53 (by decide) (fun c18 => ?_) (fun c18 => ?_)
          · have h := ipos c18 h
            refine lv_iload_n (pc := 59) hx hb dX9_draughts_59 rfl (lv_at hl 3 rfl) ?_
            refine lv_if_lt (pc := 60) (tgt := 75) hx hb dX9_draughts_60 (by decide) (fun c19 => ?_) (fun c19 => ?_)
            · have h := ipos c19 h
              refine lv_bipush (pc := 75) (v := (-12)) hx hb dX9_draughts_75 (by decide) ?_
              obtain ⟨rfl, rfl⟩ := inj2 h
              exact r_iret X hP hS dX9_draughts_77
            · have h := ineg c19 h
              refine lv_iload_n (pc := 63) hx hb dX9_draughts_63 rfl (lv_at hl 3 rfl) ?_
              refine lv_aload (pc := 64) hx hb dX9_draughts_64 (lv_at hl 0 rfl) ?_
              refine gt_X9_286 X hP hq5 dX9_draughts_66 ?_
              refine lv_iload (pc := 69) hx hb dX9_draughts_69 (lv_at hl 5 rfl) ?_
              refine lv_isub (pc := 71) hx hb dX9_draughts_71 ?_
              refine lv_icmp_le (pc := 72) (tgt := 78) hx hb dX9_draughts_72 (by decide) (fun c20 => ?_) (fun c20 => ?_)
              · have h := ipos c20 h
                refine lv_iconst (pc := 78) (v := 0) hx hb dX9_draughts_78 (by decide) ?_
                refine lv_istore (pc := 79) (lv' := [(6, .int (0 : Int32)), (5, .ref (ga G q4)), (0, .ref (ga G k0)), (1, .int a1), (2, .int a2), (3, .int a3), (4, .int a4)]) hx hb dX9_draughts_79 hl (by decide) rfl (fun ls hl => ?_)
                exact w_X9_draughts_81 X  hk0 hq5  FU _ _ _ _ _ hP hS (lv_sub hl [2, 4, 5, 6, 1, 0] rfl) h
              · have h := ineg c20 h
                refine lv_bipush (pc := 75) (v := (-12)) hx hb dX9_draughts_75 (by decide) ?_
                obtain ⟨rfl, rfl⟩ := inj2 h
                exact r_iret X hP hS dX9_draughts_77
          · have h := ineg c18 h
            refine lv_bipush (pc := 56) (v := (-13)) hx hb dX9_draughts_56 (by decide) ?_
            obtain ⟨rfl, rfl⟩ := inj2 h
            exact r_iret X hP hS dX9_draughts_58
        · have h := ineg c17 h
          refine lv_bipush (pc := 45) (v := (-11)) hx hb dX9_draughts_45 (by decide) ?_
          obtain ⟨rfl, rfl⟩ := inj2 h
          exact r_iret X hP hS dX9_draughts_47
      · have h := ipos c13 h
        refine lv_iconst (pc := 35) (v := (-1)) hx hb dX9_draughts_35 (by decide) ?_
        obtain ⟨rfl, rfl⟩ := inj2 h
        exact r_iret X hP hS dX9_draughts_36
def f_X9_sheet (k0 : Nat) (a1 : Int32) (a2 : Int32) (a3 : Int32) (σ : Mem) : Option (Int32 × Mem) :=
  bd2 (f_X9_sheetAt k0 a1 σ) fun r3 σ1 =>
  onr r3 (
    some ((-1 : Int32), σ1)
    ) fun q4 => grd (kd q4 = 5) <|
    bd2 (f_X9_within a2 (-1 : Int32) (3 : Int32) σ1) fun r8 σ6 =>
    if r8 = (0 : Int32) then
      some ((-1 : Int32), σ6)
    else
      if a2 = (-1 : Int32) then
        bd1 (f_X5_remake q4 a2 (0 : Int32) σ6) fun σ15 =>
        some ((1 : Int32), σ15)
      else
        if a3 ≤ (40 : Int32) then
          if (0 : Int32) ≤ a3 then
            bd1 (f_X5_remake q4 a2 a3 σ6) fun σ13 =>
            some ((1 : Int32), σ13)
          else
            some ((-14 : Int32), σ6)
        else
          some ((-1 : Int32), σ6)
abbrev RM_X9_sheet : Room := { frames := 2, cells := 0, slots := 0, locals := 43 }
set_option maxHeartbeats 4000000 in
set_option maxRecDepth 100000 in
theorem c_X9_sheet (l : Launch) (G : Gh) {k0 : Nat} {a1 : Int32} {a2 : Int32} {a3 : Int32} {σ : Mem} {rr : Int32} {σr : Mem} (hk0 : kd k0 = 9) (h : f_X9_sheet k0 a1 a2 a3 σ = some (rr, σr)) : Met l yX9_sheet [Cond.code yX9_sheet prog_1_method_37_code 5 (some .int)] RM_X9_sheet (va_Pc [.ref (ga G k0), .int a1, .int a2, .int a3] (Pre G σ)) (QG G (some (.int rr)) σr) 0 0 (AA G) := by
  refine ct_of (by decide) (fun p e s m below meth c X hP => ?_)
  have hx := X.hx
  have hb := X.hb
  have hS : va_S (AA G) s.heap s.heap [] := va_S.rf
  have hl := lv_entry ([.ref (ga G k0), .int a1, .int a2, .int a3]) (n := 5) (Nat.le_of_ble_eq_true rfl)
  rw [lg_entry_eq]
  generalize (lg_sl ([.ref (ga G k0), .int a1, .int a2, .int a3]) ++ List.replicate (5 - (lg_sl ([.ref (ga G k0), .int a1, .int a2, .int a3])).length) Slot.unset).toArray = ls at hl ⊢
  have hl : lv_has ls 5 [(0, .ref (ga G k0)), (1, .int a1), (2, .int a2), (3, .int a3)] := hl
  unfold f_X9_sheet at h
  refine lv_aload_n (pc := 0) hx hb dX9_sheet_0 rfl (lv_at hl 0 rfl) ?_
  refine lv_iload_n (pc := 1) hx hb dX9_sheet_1 rfl (lv_at hl 1 rfl) ?_
  obtain ⟨r3, σ1, e2, h⟩ := bnd2 h
  rcases r3 with _ | q4
  · have h := onr_n h
    refine cl_X9_275 X hP hS hk0 (As := [.int a1]) (rest := []) (c_X9_sheetAt l G hk0 e2) ⟨rfl, rfl, Nat.le_of_ble_eq_true rfl, Nat.le_of_ble_eq_true rfl⟩ rfl hl.1 rfl (Nat.le_of_ble_eq_true rfl) ⟨Nat.zero_le _, Nat.zero_le _⟩ (pc := 2) dX9_sheet_2 (fun H locs hP hS => ?_)
    change W p l e _ s m _ below meth c H locs _ _ _ (F0 m (2 + 3) ls (.null :: []))
    refine lv_astoreN (pc := 5) (lv' := [(4, .null), (0, .ref (ga G k0)), (1, .int a1), (2, .int a2), (3, .int a3)]) hx hb dX9_sheet_5 hl (by decide) rfl (fun ls hl => ?_)
    refine lv_aloadN (pc := 7) hx hb dX9_sheet_7 (lv_at hl 0 rfl) ?_
    refine lv_ifnullN (pc := 9) (tgt := 21) hx hb dX9_sheet_9 (by decide) ?_
    refine lv_iconst (pc := 21) (v := (-1)) hx hb dX9_sheet_21 (by decide) ?_
    obtain ⟨rfl, rfl⟩ := inj2 h
    exact r_iret X hP hS dX9_sheet_22
  · have h := onr_s h
    obtain ⟨hq5, h⟩ := grd_inv h
    refine cl_X9_275 X hP hS hk0 (As := [.int a1]) (rest := []) (c_X9_sheetAt l G hk0 e2) ⟨rfl, rfl, Nat.le_of_ble_eq_true rfl, Nat.le_of_ble_eq_true rfl⟩ rfl hl.1 rfl (Nat.le_of_ble_eq_true rfl) ⟨Nat.zero_le _, Nat.zero_le _⟩ (pc := 2) dX9_sheet_2 (fun H locs hP hS => ?_)
    change W p l e _ s m _ below meth c H locs _ _ _ (F0 m (2 + 3) ls (.ref (ga G q4) :: []))
    refine lv_astore (pc := 5) (lv' := [(4, .ref (ga G q4)), (0, .ref (ga G k0)), (1, .int a1), (2, .int a2), (3, .int a3)]) hx hb dX9_sheet_5 hl (by decide) rfl (fun ls hl => ?_)
    refine lv_aload (pc := 7) hx hb dX9_sheet_7 (lv_at hl 0 rfl) ?_
    refine lv_ifnull (pc := 9) hx hb dX9_sheet_9 ?_
    refine lv_iload_n (pc := 12) hx hb dX9_sheet_12 rfl (lv_at hl 3 rfl) ?_
    refine lv_iconst (pc := 13) (v := (-1)) hx hb dX9_sheet_13 (by decide) ?_
    refine lv_iconst (pc := 14) (v := 3) hx hb dX9_sheet_14 (by decide) ?_
    obtain ⟨r8, σ6, e7, h⟩ := bnd2 h
    refine cl_X9_71 X hP hS (As := [.int a2, .int (-1 : Int32), .int (3 : Int32)]) (rest := []) (c_X9_within l G  e7) ⟨rfl, rfl, Nat.le_of_ble_eq_true rfl, Nat.le_of_ble_eq_true rfl⟩ rfl hl.1 rfl (Nat.le_of_ble_eq_true rfl) ⟨Nat.zero_le _, Nat.zero_le _⟩ (pc := 15) dX9_sheet_15 (fun H locs hP hS => ?_)
    change W p l e _ s m _ below meth c H locs _ _ _ (F0 m (15 + 3) ls (.int r8 :: []))
    refine lv_if_ne (pc := 18) (tgt := 23) hx hb dX9_sheet_18 (by decide) (fun c9 => ?_) (fun c9 => ?_)
    · have h := ineg c9 h
      refine lv_iload_n (pc := 23) hx hb dX9_sheet_23 rfl (lv_at hl 3 rfl) ?_
      refine lv_iconst (pc := 24) (v := (-1)) hx hb dX9_sheet_24 (by decide) ?_
      refine lv_icmp_ne (pc := 25) (tgt := 37) hx hb dX9_sheet_25 (by decide) (fun c10 => ?_) (fun c10 => ?_)
      · have h := ineg c10 h
        refine lv_iload_n (pc := 37) hx hb dX9_sheet_37 rfl (lv_at hl 4 rfl) ?_
        refine lv_bipush (pc := 38) (v := (40)) hx hb dX9_sheet_38 (by decide) ?_
        refine lv_icmp_le (pc := 40) (tgt := 45) hx hb dX9_sheet_40 (by decide) (fun c11 => ?_) (fun c11 => ?_)
        · have h := ipos c11 h
          refine lv_iload_n (pc := 45) hx hb dX9_sheet_45 rfl (lv_at hl 4 rfl) ?_
          refine lv_if_ge (pc := 46) (tgt := 52) hx hb dX9_sheet_46 (by decide) (fun c12 => ?_) (fun c12 => ?_)
          · have h := ipos c12 h
            refine lv_aload (pc := 52) hx hb dX9_sheet_52 (lv_at hl 0 rfl) ?_
            refine lv_iload_n (pc := 54) hx hb dX9_sheet_54 rfl (lv_at hl 3 rfl) ?_
            refine lv_iload_n (pc := 55) hx hb dX9_sheet_55 rfl (lv_at hl 4 rfl) ?_
            obtain ⟨σ13, e14, h⟩ := bnd1 h
            refine cl_X9_295 X hP hS hq5 (As := [.int a2, .int a3]) (rest := []) (c_X5_remake l G hq5 e14) ⟨rfl, rfl, Nat.le_of_ble_eq_true rfl, Nat.le_of_ble_eq_true rfl⟩ rfl hl.1 rfl (Nat.le_of_ble_eq_true rfl) ⟨Nat.zero_le _, Nat.zero_le _⟩ (pc := 56) dX9_sheet_56 (fun H locs hP hS => ?_)
            change W p l e _ s m _ below meth c H locs _ _ _ (F0 m (56 + 3) ls [])
            refine lv_iconst (pc := 59) (v := 1) hx hb dX9_sheet_59 (by decide) ?_
            obtain ⟨rfl, rfl⟩ := inj2 h
            exact r_iret X hP hS dX9_sheet_60
          · have h := ineg c12 h
            refine lv_bipush (pc := 49) (v := (-14)) hx hb dX9_sheet_49 (by decide) ?_
            obtain ⟨rfl, rfl⟩ := inj2 h
            exact r_iret X hP hS dX9_sheet_51
        · have h := ineg c11 h
          refine lv_iconst (pc := 43) (v := (-1)) hx hb dX9_sheet_43 (by decide) ?_
          obtain ⟨rfl, rfl⟩ := inj2 h
          exact r_iret X hP hS dX9_sheet_44
      · have h := ipos c10 h
        refine lv_aload (pc := 28) hx hb dX9_sheet_28 (lv_at hl 0 rfl) ?_
        refine lv_iload_n (pc := 30) hx hb dX9_sheet_30 rfl (lv_at hl 3 rfl) ?_
        refine lv_iconst (pc := 31) (v := 0) hx hb dX9_sheet_31 (by decide) ?_
        obtain ⟨σ15, e16, h⟩ := bnd1 h
        refine cl_X9_295 X hP hS hq5 (As := [.int a2, .int (0 : Int32)]) (rest := []) (c_X5_remake l G hq5 e16) ⟨rfl, rfl, Nat.le_of_ble_eq_true rfl, Nat.le_of_ble_eq_true rfl⟩ rfl hl.1 rfl (Nat.le_of_ble_eq_true rfl) ⟨Nat.zero_le _, Nat.zero_le _⟩ (pc := 32) dX9_sheet_32 (fun H locs hP hS => ?_)
        change W p l e _ s m _ below meth c H locs _ _ _ (F0 m (32 + 3) ls [])
        refine lv_iconst (pc := 35) (v := 1) hx hb dX9_sheet_35 (by decide) ?_
        obtain ⟨rfl, rfl⟩ := inj2 h
        exact r_iret X hP hS dX9_sheet_36
    · have h := ipos c9 h
      refine lv_iconst (pc := 21) (v := (-1)) hx hb dX9_sheet_21 (by decide) ?_
      obtain ⟨rfl, rfl⟩ := inj2 h
      exact r_iret X hP hS dX9_sheet_22
def f_X9_put (k0 : Nat) (a1 : Int32) (a2 : Int32) (a3 : Int32) (σ : Mem) : Option (Int32 × Mem) :=
  bd2 (f_X9_sheetAt k0 a1 σ) fun r3 σ1 =>
  onr r3 (
    some ((-1 : Int32), σ1)
    ) fun q4 => grd (kd q4 = 5) <|
    bd2 (f_X5_isMissing q4 σ1) fun r8 σ6 =>
    if r8 = (0 : Int32) then
      bd2 (f_X5_has q4 a2 σ6) fun r12 σ10 =>
      if r12 = (0 : Int32) then
        some ((-12 : Int32), σ10)
      else
        bd1 (f_X5_setItem q4 a2 a3 σ10) fun σ14 =>
        some ((1 : Int32), σ14)
    else
      some ((-11 : Int32), σ6)
abbrev RM_X9_put : Room := { frames := 3, cells := 0, slots := 0, locals := 65 }
set_option maxHeartbeats 4000000 in
set_option maxRecDepth 100000 in
theorem c_X9_put (l : Launch) (G : Gh) {k0 : Nat} {a1 : Int32} {a2 : Int32} {a3 : Int32} {σ : Mem} {rr : Int32} {σr : Mem} (hk0 : kd k0 = 9) (h : f_X9_put k0 a1 a2 a3 σ = some (rr, σr)) : Met l yX9_put [Cond.code yX9_put prog_1_method_38_code 5 (some .int)] RM_X9_put (va_Pc [.ref (ga G k0), .int a1, .int a2, .int a3] (Pre G σ)) (QG G (some (.int rr)) σr) 0 0 (AA G) := by
  refine ct_of (by decide) (fun p e s m below meth c X hP => ?_)
  have hx := X.hx
  have hb := X.hb
  have hS : va_S (AA G) s.heap s.heap [] := va_S.rf
  have hl := lv_entry ([.ref (ga G k0), .int a1, .int a2, .int a3]) (n := 5) (Nat.le_of_ble_eq_true rfl)
  rw [lg_entry_eq]
  generalize (lg_sl ([.ref (ga G k0), .int a1, .int a2, .int a3]) ++ List.replicate (5 - (lg_sl ([.ref (ga G k0), .int a1, .int a2, .int a3])).length) Slot.unset).toArray = ls at hl ⊢
  have hl : lv_has ls 5 [(0, .ref (ga G k0)), (1, .int a1), (2, .int a2), (3, .int a3)] := hl
  unfold f_X9_put at h
  refine lv_aload_n (pc := 0) hx hb dX9_put_0 rfl (lv_at hl 0 rfl) ?_
  refine lv_iload_n (pc := 1) hx hb dX9_put_1 rfl (lv_at hl 1 rfl) ?_
  obtain ⟨r3, σ1, e2, h⟩ := bnd2 h
  rcases r3 with _ | q4
  · have h := onr_n h
    refine cl_X9_275 X hP hS hk0 (As := [.int a1]) (rest := []) (c_X9_sheetAt l G hk0 e2) ⟨rfl, rfl, Nat.le_of_ble_eq_true rfl, Nat.le_of_ble_eq_true rfl⟩ rfl hl.1 rfl (Nat.le_of_ble_eq_true rfl) ⟨Nat.zero_le _, Nat.zero_le _⟩ (pc := 2) dX9_put_2 (fun H locs hP hS => ?_)
    change W p l e _ s m _ below meth c H locs _ _ _ (F0 m (2 + 3) ls (.null :: []))
    refine lv_astoreN (pc := 5) (lv' := [(4, .null), (0, .ref (ga G k0)), (1, .int a1), (2, .int a2), (3, .int a3)]) hx hb dX9_put_5 hl (by decide) rfl (fun ls hl => ?_)
    refine lv_aloadN (pc := 7) hx hb dX9_put_7 (lv_at hl 0 rfl) ?_
    refine lv_ifnonnullN (pc := 9) hx hb dX9_put_9 ?_
    refine lv_iconst (pc := 12) (v := (-1)) hx hb dX9_put_12 (by decide) ?_
    obtain ⟨rfl, rfl⟩ := inj2 h
    exact r_iret X hP hS dX9_put_13
  · have h := onr_s h
    obtain ⟨hq5, h⟩ := grd_inv h
    refine cl_X9_275 X hP hS hk0 (As := [.int a1]) (rest := []) (c_X9_sheetAt l G hk0 e2) ⟨rfl, rfl, Nat.le_of_ble_eq_true rfl, Nat.le_of_ble_eq_true rfl⟩ rfl hl.1 rfl (Nat.le_of_ble_eq_true rfl) ⟨Nat.zero_le _, Nat.zero_le _⟩ (pc := 2) dX9_put_2 (fun H locs hP hS => ?_)
    change W p l e _ s m _ below meth c H locs _ _ _ (F0 m (2 + 3) ls (.ref (ga G q4) :: []))
    refine lv_astore (pc := 5) (lv' := [(4, .ref (ga G q4)), (0, .ref (ga G k0)), (1, .int a1), (2, .int a2), (3, .int a3)]) hx hb dX9_put_5 hl (by decide) rfl (fun ls hl => ?_)
    refine lv_aload (pc := 7) hx hb dX9_put_7 (lv_at hl 0 rfl) ?_
    refine lv_ifnonnull (pc := 9) (tgt := 14) hx hb dX9_put_9 (by decide) ?_
    refine lv_aload (pc := 14) hx hb dX9_put_14 (lv_at hl 0 rfl) ?_
    obtain ⟨r8, σ6, e7, h⟩ := bnd2 h
    refine cl_X9_279 X hP hS hq5 (As := []) (rest := []) (c_X5_isMissing l G hq5 e7) ⟨rfl, rfl, Nat.le_of_ble_eq_true rfl, Nat.le_of_ble_eq_true rfl⟩ rfl hl.1 rfl (Nat.le_of_ble_eq_true rfl) ⟨Nat.zero_le _, Nat.zero_le _⟩ (pc := 16) dX9_put_16 (fun H locs hP hS => ?_)
    change W p l e _ s m _ below meth c H locs _ _ _ (F0 m (16 + 3) ls (.int r8 :: []))
    refine lv_if_eq (pc := 19) (tgt := 25) hx hb dX9_put_19 (by decide) (fun c9 => ?_) (fun c9 => ?_)
    · have h := ipos c9 h
      refine lv_aload (pc := 25) hx hb dX9_put_25 (lv_at hl 0 rfl) ?_
      refine lv_iload_n (pc := 27) hx hb dX9_put_27 rfl (lv_at hl 3 rfl) ?_
      obtain ⟨r12, σ10, e11, h⟩ := bnd2 h
      refine cl_X9_299 X hP hS hq5 (As := [.int a2]) (rest := []) (c_X5_has l G hq5 e11) ⟨rfl, rfl, Nat.le_of_ble_eq_true rfl, Nat.le_of_ble_eq_true rfl⟩ rfl hl.1 rfl (Nat.le_of_ble_eq_true rfl) ⟨Nat.zero_le _, Nat.zero_le _⟩ (pc := 28) dX9_put_28 (fun H locs hP hS => ?_)
      change W p l e _ s m _ below meth c H locs _ _ _ (F0 m (28 + 3) ls (.int r12 :: []))
      refine lv_if_ne (pc := 31) (tgt := 37) hx hb dX9_put_31 (by decide) (fun c13 => ?_) (fun c13 => ?_)
      · have h := ineg c13 h
        refine lv_aload (pc := 37) hx hb dX9_put_37 (lv_at hl 0 rfl) ?_
        refine lv_iload_n (pc := 39) hx hb dX9_put_39 rfl (lv_at hl 3 rfl) ?_
        refine lv_iload_n (pc := 40) hx hb dX9_put_40 rfl (lv_at hl 4 rfl) ?_
        obtain ⟨σ14, e15, h⟩ := bnd1 h
        refine cl_X9_302 X hP hS hq5 (As := [.int a2, .int a3]) (rest := []) (c_X5_setItem l G hq5 e15) ⟨rfl, rfl, Nat.le_of_ble_eq_true rfl, Nat.le_of_ble_eq_true rfl⟩ rfl hl.1 rfl (Nat.le_of_ble_eq_true rfl) ⟨Nat.zero_le _, Nat.zero_le _⟩ (pc := 41) dX9_put_41 (fun H locs hP hS => ?_)
        change W p l e _ s m _ below meth c H locs _ _ _ (F0 m (41 + 3) ls [])
        refine lv_iconst (pc := 44) (v := 1) hx hb dX9_put_44 (by decide) ?_
        obtain ⟨rfl, rfl⟩ := inj2 h
        exact r_iret X hP hS dX9_put_45
      · have h := ipos c13 h
        refine lv_bipush (pc := 34) (v := (-12)) hx hb dX9_put_34 (by decide) ?_
        obtain ⟨rfl, rfl⟩ := inj2 h
        exact r_iret X hP hS dX9_put_36
    · have h := ineg c9 h
      refine lv_bipush (pc := 22) (v := (-11)) hx hb dX9_put_22 (by decide) ?_
      obtain ⟨rfl, rfl⟩ := inj2 h
      exact r_iret X hP hS dX9_put_24
def f_X9_item (k0 : Nat) (a1 : Int32) (a2 : Int32) (a3 : Int32) (σ : Mem) : Option (Int32 × Mem) :=
  bd2 (f_X9_sheetAt k0 a1 σ) fun r3 σ1 =>
  onr r3 (
    some ((-1 : Int32), σ1)
    ) fun q4 => grd (kd q4 = 5) <|
    bd2 (f_X9_within a2 (0 : Int32) (3 : Int32) σ1) fun r8 σ6 =>
    if r8 = (0 : Int32) then
      some ((-1 : Int32), σ6)
    else
      bd2 (f_X5_isMissing q4 σ6) fun r12 σ10 =>
      if r12 = (0 : Int32) then
        if (gI σ10 q4 1) = a2 then
          bd2 (f_X5_has q4 a3 σ10) fun r17 σ15 =>
          if r17 = (0 : Int32) then
            some ((-12 : Int32), σ15)
          else
            bd2 (f_X5_itemAt q4 a3 σ15) fun r21 σ19 =>
            some (r21, σ19)
        else
          some ((-13 : Int32), σ10)
      else
        some ((-11 : Int32), σ10)
abbrev RM_X9_item : Room := { frames := 3, cells := 0, slots := 0, locals := 64 }
set_option maxHeartbeats 4000000 in
set_option maxRecDepth 100000 in
theorem c_X9_item (l : Launch) (G : Gh) {k0 : Nat} {a1 : Int32} {a2 : Int32} {a3 : Int32} {σ : Mem} {rr : Int32} {σr : Mem} (hk0 : kd k0 = 9) (h : f_X9_item k0 a1 a2 a3 σ = some (rr, σr)) : Met l yX9_item [Cond.code yX9_item prog_1_method_39_code 5 (some .int)] RM_X9_item (va_Pc [.ref (ga G k0), .int a1, .int a2, .int a3] (Pre G σ)) (QG G (some (.int rr)) σr) 0 0 (AA G) := by
  refine ct_of (by decide) (fun p e s m below meth c X hP => ?_)
  have hx := X.hx
  have hb := X.hb
  have hS : va_S (AA G) s.heap s.heap [] := va_S.rf
  have hl := lv_entry ([.ref (ga G k0), .int a1, .int a2, .int a3]) (n := 5) (Nat.le_of_ble_eq_true rfl)
  rw [lg_entry_eq]
  generalize (lg_sl ([.ref (ga G k0), .int a1, .int a2, .int a3]) ++ List.replicate (5 - (lg_sl ([.ref (ga G k0), .int a1, .int a2, .int a3])).length) Slot.unset).toArray = ls at hl ⊢
  have hl : lv_has ls 5 [(0, .ref (ga G k0)), (1, .int a1), (2, .int a2), (3, .int a3)] := hl
  unfold f_X9_item at h
  refine lv_aload_n (pc := 0) hx hb dX9_item_0 rfl (lv_at hl 0 rfl) ?_
  refine lv_iload_n (pc := 1) hx hb dX9_item_1 rfl (lv_at hl 1 rfl) ?_
  obtain ⟨r3, σ1, e2, h⟩ := bnd2 h
  rcases r3 with _ | q4
  · have h := onr_n h
    refine cl_X9_275 X hP hS hk0 (As := [.int a1]) (rest := []) (c_X9_sheetAt l G hk0 e2) ⟨rfl, rfl, Nat.le_of_ble_eq_true rfl, Nat.le_of_ble_eq_true rfl⟩ rfl hl.1 rfl (Nat.le_of_ble_eq_true rfl) ⟨Nat.zero_le _, Nat.zero_le _⟩ (pc := 2) dX9_item_2 (fun H locs hP hS => ?_)
    change W p l e _ s m _ below meth c H locs _ _ _ (F0 m (2 + 3) ls (.null :: []))
    refine lv_astoreN (pc := 5) (lv' := [(4, .null), (0, .ref (ga G k0)), (1, .int a1), (2, .int a2), (3, .int a3)]) hx hb dX9_item_5 hl (by decide) rfl (fun ls hl => ?_)
    refine lv_aloadN (pc := 7) hx hb dX9_item_7 (lv_at hl 0 rfl) ?_
    refine lv_ifnullN (pc := 9) (tgt := 21) hx hb dX9_item_9 (by decide) ?_
    refine lv_iconst (pc := 21) (v := (-1)) hx hb dX9_item_21 (by decide) ?_
    obtain ⟨rfl, rfl⟩ := inj2 h
    exact r_iret X hP hS dX9_item_22
  · have h := onr_s h
    obtain ⟨hq5, h⟩ := grd_inv h
    refine cl_X9_275 X hP hS hk0 (As := [.int a1]) (rest := []) (c_X9_sheetAt l G hk0 e2) ⟨rfl, rfl, Nat.le_of_ble_eq_true rfl, Nat.le_of_ble_eq_true rfl⟩ rfl hl.1 rfl (Nat.le_of_ble_eq_true rfl) ⟨Nat.zero_le _, Nat.zero_le _⟩ (pc := 2) dX9_item_2 (fun H locs hP hS => ?_)
    change W p l e _ s m _ below meth c H locs _ _ _ (F0 m (2 + 3) ls (.ref (ga G q4) :: []))
    refine lv_astore (pc := 5) (lv' := [(4, .ref (ga G q4)), (0, .ref (ga G k0)), (1, .int a1), (2, .int a2), (3, .int a3)]) hx hb dX9_item_5 hl (by decide) rfl (fun ls hl => ?_)
    refine lv_aload (pc := 7) hx hb dX9_item_7 (lv_at hl 0 rfl) ?_
    refine lv_ifnull (pc := 9) hx hb dX9_item_9 ?_
    refine lv_iload_n (pc := 12) hx hb dX9_item_12 rfl (lv_at hl 3 rfl) ?_
    refine lv_iconst (pc := 13) (v := 0) hx hb dX9_item_13 (by decide) ?_
    refine lv_iconst (pc := 14) (v := 3) hx hb dX9_item_14 (by decide) ?_
    obtain ⟨r8, σ6, e7, h⟩ := bnd2 h
    refine cl_X9_71 X hP hS (As := [.int a2, .int (0 : Int32), .int (3 : Int32)]) (rest := []) (c_X9_within l G  e7) ⟨rfl, rfl, Nat.le_of_ble_eq_true rfl, Nat.le_of_ble_eq_true rfl⟩ rfl hl.1 rfl (Nat.le_of_ble_eq_true rfl) ⟨Nat.zero_le _, Nat.zero_le _⟩ (pc := 15) dX9_item_15 (fun H locs hP hS => ?_)
    change W p l e _ s m _ below meth c H locs _ _ _ (F0 m (15 + 3) ls (.int r8 :: []))
    refine lv_if_ne (pc := 18) (tgt := 23) hx hb dX9_item_18 (by decide) (fun c9 => ?_) (fun c9 => ?_)
    · have h := ineg c9 h
      refine lv_aload (pc := 23) hx hb dX9_item_23 (lv_at hl 0 rfl) ?_
      obtain ⟨r12, σ10, e11, h⟩ := bnd2 h
      refine cl_X9_279 X hP hS hq5 (As := []) (rest := []) (c_X5_isMissing l G hq5 e11) ⟨rfl, rfl, Nat.le_of_ble_eq_true rfl, Nat.le_of_ble_eq_true rfl⟩ rfl hl.1 rfl (Nat.le_of_ble_eq_true rfl) ⟨Nat.zero_le _, Nat.zero_le _⟩ (pc := 25) dX9_item_25 (fun H locs hP hS => ?_)
      change W p l e _ s m _ below meth c H locs _ _ _ (F0 m (25 + 3) ls (.int r12 :: []))
      refine lv_if_eq (pc := 28) (tgt := 34) hx hb dX9_item_28 (by decide) (fun c13 => ?_) (fun c13 => ?_)
      · have h := ipos c13 h
        refine lv_aload (pc := 34) hx hb dX9_item_34 (lv_at hl 0 rfl) ?_
        refine gt_X9_283 X hP hq5 dX9_item_36 ?_
        refine lv_iload_n (pc := 39) hx hb dX9_item_39 rfl (lv_at hl 3 rfl) ?_
        refine lv_icmp_eq (pc := 40) (tgt := 46) hx hb dX9_item_40 (by decide) (fun c14 => ?_) (fun c14 => ?_)
        · have h := ipos c14 h
          refine lv_aload (pc := 46) hx hb dX9_item_46 (lv_at hl 0 rfl) ?_
          refine lv_iload_n (pc := 48) hx hb dX9_item_48 rfl (lv_at hl 4 rfl) ?_
          obtain ⟨r17, σ15, e16, h⟩ := bnd2 h
          refine cl_X9_299 X hP hS hq5 (As := [.int a3]) (rest := []) (c_X5_has l G hq5 e16) ⟨rfl, rfl, Nat.le_of_ble_eq_true rfl, Nat.le_of_ble_eq_true rfl⟩ rfl hl.1 rfl (Nat.le_of_ble_eq_true rfl) ⟨Nat.zero_le _, Nat.zero_le _⟩ (pc := 49) dX9_item_49 (fun H locs hP hS => ?_)
          change W p l e _ s m _ below meth c H locs _ _ _ (F0 m (49 + 3) ls (.int r17 :: []))
          refine lv_if_ne (pc := 52) (tgt := 58) hx hb dX9_item_52 (by decide) (fun c18 => ?_) (fun c18 => ?_)
          · have h := ineg c18 h
            refine lv_aload (pc := 58) hx hb dX9_item_58 (lv_at hl 0 rfl) ?_
            refine lv_iload_n (pc := 60) hx hb dX9_item_60 rfl (lv_at hl 4 rfl) ?_
            obtain ⟨r21, σ19, e20, h⟩ := bnd2 h
            refine cl_X9_289 X hP hS hq5 (As := [.int a3]) (rest := []) (c_X5_itemAt l G hq5 e20) ⟨rfl, rfl, Nat.le_of_ble_eq_true rfl, Nat.le_of_ble_eq_true rfl⟩ rfl hl.1 rfl (Nat.le_of_ble_eq_true rfl) ⟨Nat.zero_le _, Nat.zero_le _⟩ (pc := 61) dX9_item_61 (fun H locs hP hS => ?_)
            change W p l e _ s m _ below meth c H locs _ _ _ (F0 m (61 + 3) ls (.int r21 :: []))
            obtain ⟨rfl, rfl⟩ := inj2 h
            exact r_iret X hP hS dX9_item_64
          · have h := ipos c18 h
            refine lv_bipush (pc := 55) (v := (-12)) hx hb dX9_item_55 (by decide) ?_
            obtain ⟨rfl, rfl⟩ := inj2 h
            exact r_iret X hP hS dX9_item_57
        · have h := ineg c14 h
          refine lv_bipush (pc := 43) (v := (-13)) hx hb dX9_item_43 (by decide) ?_
          obtain ⟨rfl, rfl⟩ := inj2 h
          exact r_iret X hP hS dX9_item_45
      · have h := ineg c13 h
        refine lv_bipush (pc := 31) (v := (-11)) hx hb dX9_item_31 (by decide) ?_
        obtain ⟨rfl, rfl⟩ := inj2 h
        exact r_iret X hP hS dX9_item_33
    · have h := ipos c9 h
      refine lv_iconst (pc := 21) (v := (-1)) hx hb dX9_item_21 (by decide) ?_
      obtain ⟨rfl, rfl⟩ := inj2 h
      exact r_iret X hP hS dX9_item_22
def f_X9_shelfAt (k0 : Nat) (a1 : Int32) (σ : Mem) : Option (Option Nat × Mem) :=
  bd2 (f_X9_within a1 (0 : Int32) (3 : Int32) σ) fun r3 σ1 =>
  if r3 = (0 : Int32) then
    some (none, σ1)
  else
    bd1 (ixo (k0 + 79) a1) fun j5 =>
    some (some ((k0 + 79) + 11 + j5), σ1)
abbrev RM_X9_shelfAt : Room := { frames := 1, cells := 0, slots := 0, locals := 22 }
set_option maxHeartbeats 4000000 in
set_option maxRecDepth 100000 in
theorem c_X9_shelfAt (l : Launch) (G : Gh) {k0 : Nat} {a1 : Int32} {σ : Mem} {rr : Option Nat} {σr : Mem} (hk0 : kd k0 = 9) (h : f_X9_shelfAt k0 a1 σ = some (rr, σr)) : Met l yX9_shelfAt [Cond.code yX9_shelfAt prog_1_method_48_code 2 (some (.object "InchCandle$Shelf"))] RM_X9_shelfAt (va_Pc [.ref (ga G k0), .int a1] (Pre G σ)) (QG G (some (rfv G rr)) σr) 0 0 (AA G) := by
  refine ct_of (by decide) (fun p e s m below meth c X hP => ?_)
  have hx := X.hx
  have hb := X.hb
  have hS : va_S (AA G) s.heap s.heap [] := va_S.rf
  have hl := lv_entry ([.ref (ga G k0), .int a1]) (n := 2) (Nat.le_of_ble_eq_true rfl)
  rw [lg_entry_eq]
  generalize (lg_sl ([.ref (ga G k0), .int a1]) ++ List.replicate (2 - (lg_sl ([.ref (ga G k0), .int a1])).length) Slot.unset).toArray = ls at hl ⊢
  have hl : lv_has ls 2 [(0, .ref (ga G k0)), (1, .int a1)] := hl
  unfold f_X9_shelfAt at h
  refine lv_iload_n (pc := 0) hx hb dX9_shelfAt_0 rfl (lv_at hl 1 rfl) ?_
  refine lv_iconst (pc := 1) (v := 0) hx hb dX9_shelfAt_1 (by decide) ?_
  refine lv_iconst (pc := 2) (v := 3) hx hb dX9_shelfAt_2 (by decide) ?_
  obtain ⟨r3, σ1, e2, h⟩ := bnd2 h
  refine cl_X9_71 X hP hS (As := [.int a1, .int (0 : Int32), .int (3 : Int32)]) (rest := []) (c_X9_within l G  e2) ⟨rfl, rfl, Nat.le_of_ble_eq_true rfl, Nat.le_of_ble_eq_true rfl⟩ rfl hl.1 rfl (Nat.le_of_ble_eq_true rfl) ⟨Nat.zero_le _, Nat.zero_le _⟩ (pc := 3) dX9_shelfAt_3 (fun H locs hP hS => ?_)
  change W p l e _ s m _ below meth c H locs _ _ _ (F0 m (3 + 3) ls (.int r3 :: []))
  refine lv_if_eq (pc := 6) (tgt := 18) hx hb dX9_shelfAt_6 (by decide) (fun c4 => ?_) (fun c4 => ?_)
  · have h := ipos c4 h
    refine lv_null (pc := 18) hx hb dX9_shelfAt_18 ?_
    obtain ⟨rfl, rfl⟩ := inj2 h
    exact r_aret (v := .null) X hP hS (Or.inl rfl) dX9_shelfAt_19
  · have h := ineg c4 h
    refine lv_aload_n (pc := 9) hx hb dX9_shelfAt_9 rfl (lv_at hl 0 rfl) ?_
    refine gt_X9_58 X hP hk0 dX9_shelfAt_10 ?_
    refine lv_iload_n (pc := 13) hx hb dX9_shelfAt_13 rfl (lv_at hl 1 rfl) ?_
    obtain ⟨j5, hj6, h⟩ := bnd1 h
    refine r_ald17 (pc := 14) X hP (kf_9_shelves hk0).1 hj6 dX9_shelfAt_14 ?_
    refine lv_goto (pc := 15) (tgt := 19) hx hb dX9_shelfAt_15 (by decide) ?_
    obtain ⟨rfl, rfl⟩ := inj2 h
    exact r_aret (v := .ref (ga G ((k0 + 79) + 11 + j5))) X hP hS (Or.inr ⟨_, rfl⟩) dX9_shelfAt_19
def f_X9_shelf (k0 : Nat) (a1 : Int32) (a2 : Int32) (a3 : Int32) (σ : Mem) : Option (Int32 × Mem) :=
  bd2 (f_X9_shelfAt k0 a1 σ) fun r3 σ1 =>
  onr r3 (
    some ((-1 : Int32), σ1)
    ) fun q4 => grd (kd q4 = 6) <|
    if a2 = (0 : Int32) then
      bd2 (f_X2_bidderAt (k0 + 1) a3 σ1) fun r9 σ7 =>
      onr r9 (
        some ((-1 : Int32), σ7)
        ) fun q10 => grd (kd q10 = 0) <|
        bd1 (f_X6_holdBidder q4 a3 σ7) fun σ12 =>
        some ((1 : Int32), σ12)
    else
    if a2 = (1 : Int32) then
      bd2 (f_X9_sheetAt k0 a3 σ1) fun r17 σ15 =>
      onr r17 (
        some ((-1 : Int32), σ15)
        ) fun q18 => grd (kd q18 = 5) <|
        bd1 (f_X6_holdRow q4 q18 σ15) fun σ20 =>
        some ((1 : Int32), σ20)
    else
    if a2 = (2 : Int32) then
      bd1 (f_X6_holdNothing q4 σ1) fun σ23 =>
      some ((1 : Int32), σ23)
    else
    some ((-1 : Int32), σ1)
abbrev RM_X9_shelf : Room := { frames := 2, cells := 0, slots := 0, locals := 43 }
set_option maxHeartbeats 4000000 in
set_option maxRecDepth 100000 in
theorem c_X9_shelf (l : Launch) (G : Gh) {k0 : Nat} {a1 : Int32} {a2 : Int32} {a3 : Int32} {σ : Mem} {rr : Int32} {σr : Mem} (hk0 : kd k0 = 9) (h : f_X9_shelf k0 a1 a2 a3 σ = some (rr, σr)) : Met l yX9_shelf [Cond.code yX9_shelf prog_1_method_40_code 6 (some .int)] RM_X9_shelf (va_Pc [.ref (ga G k0), .int a1, .int a2, .int a3] (Pre G σ)) (QG G (some (.int rr)) σr) 0 0 (AA G) := by
  refine ct_of (by decide) (fun p e s m below meth c X hP => ?_)
  have hx := X.hx
  have hb := X.hb
  have hS : va_S (AA G) s.heap s.heap [] := va_S.rf
  have hl := lv_entry ([.ref (ga G k0), .int a1, .int a2, .int a3]) (n := 6) (Nat.le_of_ble_eq_true rfl)
  rw [lg_entry_eq]
  generalize (lg_sl ([.ref (ga G k0), .int a1, .int a2, .int a3]) ++ List.replicate (6 - (lg_sl ([.ref (ga G k0), .int a1, .int a2, .int a3])).length) Slot.unset).toArray = ls at hl ⊢
  have hl : lv_has ls 6 [(0, .ref (ga G k0)), (1, .int a1), (2, .int a2), (3, .int a3)] := hl
  unfold f_X9_shelf at h
  refine lv_aload_n (pc := 0) hx hb dX9_shelf_0 rfl (lv_at hl 0 rfl) ?_
  refine lv_iload_n (pc := 1) hx hb dX9_shelf_1 rfl (lv_at hl 1 rfl) ?_
  obtain ⟨r3, σ1, e2, h⟩ := bnd2 h
  rcases r3 with _ | q4
  · have h := onr_n h
    refine cl_X9_305 X hP hS hk0 (As := [.int a1]) (rest := []) (c_X9_shelfAt l G hk0 e2) ⟨rfl, rfl, Nat.le_of_ble_eq_true rfl, Nat.le_of_ble_eq_true rfl⟩ rfl hl.1 rfl (Nat.le_of_ble_eq_true rfl) ⟨Nat.zero_le _, Nat.zero_le _⟩ (pc := 2) dX9_shelf_2 (fun H locs hP hS => ?_)
    change W p l e _ s m _ below meth c H locs _ _ _ (F0 m (2 + 3) ls (.null :: []))
    refine lv_astoreN (pc := 5) (lv' := [(4, .null), (0, .ref (ga G k0)), (1, .int a1), (2, .int a2), (3, .int a3)]) hx hb dX9_shelf_5 hl (by decide) rfl (fun ls hl => ?_)
    refine lv_aloadN (pc := 7) hx hb dX9_shelf_7 (lv_at hl 0 rfl) ?_
    refine lv_ifnonnullN (pc := 9) hx hb dX9_shelf_9 ?_
    refine lv_iconst (pc := 12) (v := (-1)) hx hb dX9_shelf_12 (by decide) ?_
    obtain ⟨rfl, rfl⟩ := inj2 h
    exact r_iret X hP hS dX9_shelf_13
  · have h := onr_s h
    obtain ⟨hq5, h⟩ := grd_inv h
    refine cl_X9_305 X hP hS hk0 (As := [.int a1]) (rest := []) (c_X9_shelfAt l G hk0 e2) ⟨rfl, rfl, Nat.le_of_ble_eq_true rfl, Nat.le_of_ble_eq_true rfl⟩ rfl hl.1 rfl (Nat.le_of_ble_eq_true rfl) ⟨Nat.zero_le _, Nat.zero_le _⟩ (pc := 2) dX9_shelf_2 (fun H locs hP hS => ?_)
    change W p l e _ s m _ below meth c H locs _ _ _ (F0 m (2 + 3) ls (.ref (ga G q4) :: []))
    refine lv_astore (pc := 5) (lv' := [(4, .ref (ga G q4)), (0, .ref (ga G k0)), (1, .int a1), (2, .int a2), (3, .int a3)]) hx hb dX9_shelf_5 hl (by decide) rfl (fun ls hl => ?_)
    refine lv_aload (pc := 7) hx hb dX9_shelf_7 (lv_at hl 0 rfl) ?_
    refine lv_ifnonnull (pc := 9) (tgt := 14) hx hb dX9_shelf_9 (by decide) ?_
    refine lv_iload_n (pc := 14) hx hb dX9_shelf_14 rfl (lv_at hl 3 rfl) ?_
    by_cases c6 : a2 = (0 : Int32)
    · have h := ipos c6 h
      refine r_tabIn X (pc := 15) (tgt := 40) c6 dX9_shelf_15 (by decide) (by decide) rfl (by decide) ?_
      refine lv_aload_n (pc := 40) hx hb dX9_shelf_40 rfl (lv_at hl 1 rfl) ?_
      refine gt_X9_12 X hP hk0 dX9_shelf_41 ?_
      refine lv_iload_n (pc := 44) hx hb dX9_shelf_44 rfl (lv_at hl 4 rfl) ?_
      obtain ⟨r9, σ7, e8, h⟩ := bnd2 h
      rcases r9 with _ | q10
      · have h := onr_n h
        refine cl_X9_138 X hP hS (kf_9_hall hk0).1 (As := [.int a3]) (rest := []) (c_X2_bidderAt l G (kf_9_hall hk0).1 e8) ⟨rfl, rfl, Nat.le_of_ble_eq_true rfl, Nat.le_of_ble_eq_true rfl⟩ rfl hl.1 rfl (Nat.le_of_ble_eq_true rfl) ⟨Nat.zero_le _, Nat.zero_le _⟩ (pc := 45) dX9_shelf_45 (fun H locs hP hS => ?_)
        change W p l e _ s m _ below meth c H locs _ _ _ (F0 m (45 + 3) ls (.null :: []))
        refine lv_ifnonnullN (pc := 48) hx hb dX9_shelf_48 ?_
        refine lv_iconst (pc := 51) (v := (-1)) hx hb dX9_shelf_51 (by decide) ?_
        obtain ⟨rfl, rfl⟩ := inj2 h
        exact r_iret X hP hS dX9_shelf_52
      · have h := onr_s h
        obtain ⟨hq11, h⟩ := grd_inv h
        refine cl_X9_138 X hP hS (kf_9_hall hk0).1 (As := [.int a3]) (rest := []) (c_X2_bidderAt l G (kf_9_hall hk0).1 e8) ⟨rfl, rfl, Nat.le_of_ble_eq_true rfl, Nat.le_of_ble_eq_true rfl⟩ rfl hl.1 rfl (Nat.le_of_ble_eq_true rfl) ⟨Nat.zero_le _, Nat.zero_le _⟩ (pc := 45) dX9_shelf_45 (fun H locs hP hS => ?_)
        change W p l e _ s m _ below meth c H locs _ _ _ (F0 m (45 + 3) ls (.ref (ga G q10) :: []))
        refine lv_ifnonnull (pc := 48) (tgt := 53) hx hb dX9_shelf_48 (by decide) ?_
        refine lv_aload (pc := 53) hx hb dX9_shelf_53 (lv_at hl 0 rfl) ?_
        refine lv_iload_n (pc := 55) hx hb dX9_shelf_55 rfl (lv_at hl 4 rfl) ?_
        obtain ⟨σ12, e13, h⟩ := bnd1 h
        refine cl_X9_309 X hP hS hq5 (As := [.int a3]) (rest := []) (c_X6_holdBidder l G hq5 e13) ⟨rfl, rfl, Nat.le_of_ble_eq_true rfl, Nat.le_of_ble_eq_true rfl⟩ rfl hl.1 rfl (Nat.le_of_ble_eq_true rfl) ⟨Nat.zero_le _, Nat.zero_le _⟩ (pc := 56) dX9_shelf_56 (fun H locs hP hS => ?_)
        change W p l e _ s m _ below meth c H locs _ _ _ (F0 m (56 + 3) ls [])
        refine lv_iconst (pc := 59) (v := 1) hx hb dX9_shelf_59 (by decide) ?_
        obtain ⟨rfl, rfl⟩ := inj2 h
        exact r_iret X hP hS dX9_shelf_60
    have h := ineg c6 h
    by_cases c14 : a2 = (1 : Int32)
    · have h := ipos c14 h
      refine r_tabIn X (pc := 15) (tgt := 61) c14 dX9_shelf_15 (by decide) (by decide) rfl (by decide) ?_
      refine lv_aload_n (pc := 61) hx hb dX9_shelf_61 rfl (lv_at hl 1 rfl) ?_
      refine lv_iload_n (pc := 62) hx hb dX9_shelf_62 rfl (lv_at hl 4 rfl) ?_
      obtain ⟨r17, σ15, e16, h⟩ := bnd2 h
      rcases r17 with _ | q18
      · have h := onr_n h
        refine cl_X9_275 X hP hS hk0 (As := [.int a3]) (rest := []) (c_X9_sheetAt l G hk0 e16) ⟨rfl, rfl, Nat.le_of_ble_eq_true rfl, Nat.le_of_ble_eq_true rfl⟩ rfl hl.1 rfl (Nat.le_of_ble_eq_true rfl) ⟨Nat.zero_le _, Nat.zero_le _⟩ (pc := 63) dX9_shelf_63 (fun H locs hP hS => ?_)
        change W p l e _ s m _ below meth c H locs _ _ _ (F0 m (63 + 3) ls (.null :: []))
        refine lv_astoreN (pc := 66) (lv' := [(5, .null), (4, .ref (ga G q4)), (0, .ref (ga G k0)), (1, .int a1), (2, .int a2), (3, .int a3)]) hx hb dX9_shelf_66 hl (by decide) rfl (fun ls hl => ?_)
        refine lv_aloadN (pc := 68) hx hb dX9_shelf_68 (lv_at hl 0 rfl) ?_
        refine lv_ifnonnullN (pc := 70) hx hb dX9_shelf_70 ?_
        refine lv_iconst (pc := 73) (v := (-1)) hx hb dX9_shelf_73 (by decide) ?_
        obtain ⟨rfl, rfl⟩ := inj2 h
        exact r_iret X hP hS dX9_shelf_74
      · have h := onr_s h
        obtain ⟨hq19, h⟩ := grd_inv h
        refine cl_X9_275 X hP hS hk0 (As := [.int a3]) (rest := []) (c_X9_sheetAt l G hk0 e16) ⟨rfl, rfl, Nat.le_of_ble_eq_true rfl, Nat.le_of_ble_eq_true rfl⟩ rfl hl.1 rfl (Nat.le_of_ble_eq_true rfl) ⟨Nat.zero_le _, Nat.zero_le _⟩ (pc := 63) dX9_shelf_63 (fun H locs hP hS => ?_)
        change W p l e _ s m _ below meth c H locs _ _ _ (F0 m (63 + 3) ls (.ref (ga G q18) :: []))
        refine lv_astore (pc := 66) (lv' := [(5, .ref (ga G q18)), (4, .ref (ga G q4)), (0, .ref (ga G k0)), (1, .int a1), (2, .int a2), (3, .int a3)]) hx hb dX9_shelf_66 hl (by decide) rfl (fun ls hl => ?_)
        refine lv_aload (pc := 68) hx hb dX9_shelf_68 (lv_at hl 0 rfl) ?_
        refine lv_ifnonnull (pc := 70) (tgt := 75) hx hb dX9_shelf_70 (by decide) ?_
        refine lv_aload (pc := 75) hx hb dX9_shelf_75 (lv_at hl 1 rfl) ?_
        refine lv_aload (pc := 77) hx hb dX9_shelf_77 (lv_at hl 0 rfl) ?_
        obtain ⟨σ20, e21, h⟩ := bnd1 h
        refine cl_X9_312 X hP hS hq5 (As := [.ref (ga G q18)]) (rest := []) (c_X6_holdRow l G hq5 hq19 e21) ⟨rfl, rfl, Nat.le_of_ble_eq_true rfl, Nat.le_of_ble_eq_true rfl⟩ rfl hl.1 rfl (Nat.le_of_ble_eq_true rfl) ⟨Nat.zero_le _, Nat.zero_le _⟩ (pc := 79) dX9_shelf_79 (fun H locs hP hS => ?_)
        change W p l e _ s m _ below meth c H locs _ _ _ (F0 m (79 + 3) ls [])
        refine lv_iconst (pc := 82) (v := 1) hx hb dX9_shelf_82 (by decide) ?_
        obtain ⟨rfl, rfl⟩ := inj2 h
        exact r_iret X hP hS dX9_shelf_83
    have h := ineg c14 h
    by_cases c22 : a2 = (2 : Int32)
    · have h := ipos c22 h
      refine r_tabIn X (pc := 15) (tgt := 84) c22 dX9_shelf_15 (by decide) (by decide) rfl (by decide) ?_
      refine lv_aload (pc := 84) hx hb dX9_shelf_84 (lv_at hl 0 rfl) ?_
      obtain ⟨σ23, e24, h⟩ := bnd1 h
      refine cl_X9_316 X hP hS hq5 (As := []) (rest := []) (c_X6_holdNothing l G hq5 e24) ⟨rfl, rfl, Nat.le_of_ble_eq_true rfl, Nat.le_of_ble_eq_true rfl⟩ rfl hl.1 rfl (Nat.le_of_ble_eq_true rfl) ⟨Nat.zero_le _, Nat.zero_le _⟩ (pc := 86) dX9_shelf_86 (fun H locs hP hS => ?_)
      change W p l e _ s m _ below meth c H locs _ _ _ (F0 m (86 + 3) ls [])
      refine lv_iconst (pc := 89) (v := 1) hx hb dX9_shelf_89 (by decide) ?_
      obtain ⟨rfl, rfl⟩ := inj2 h
      exact r_iret X hP hS dX9_shelf_90
    have h := ineg c22 h
    refine lv_tableOut (pc := 15) (tgt := 91) hx hb dX9_shelf_15 (by have := lv_neT c6 (a := 0) (by decide); have := lv_neT c14 (a := 1) (by decide); have := lv_neT c22 (a := 2) (by decide); omega) (by decide) ?_
    refine lv_iconst (pc := 91) (v := (-1)) hx hb dX9_shelf_91 (by decide) ?_
    obtain ⟨rfl, rfl⟩ := inj2 h
    exact r_iret X hP hS dX9_shelf_92
