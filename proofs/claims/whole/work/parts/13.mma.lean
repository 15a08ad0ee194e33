def f_X10_in (a0 : Int32) (a1 : Int32) (a2 : Int32) (σ : Mem) : Option (Int32 × Mem) :=
  if a0 < a1 then
    some ((0 : Int32), σ)
  else
    if a2 < a0 then
      some ((0 : Int32), σ)
    else
      some ((1 : Int32), σ)
abbrev RM_X10_in : Room := { frames := 0, cells := 0, slots := 0, locals := 0 }
set_option maxHeartbeats 4000000 in
set_option maxRecDepth 100000 in
theorem c_X10_in (l : Launch) (G : Gh) {a0 : Int32} {a1 : Int32} {a2 : Int32} {σ : Mem} {rr : Int32} {σr : Mem} (h : f_X10_in a0 a1 a2 σ = some (rr, σr)) : Met l yX10_in [Cond.code yX10_in prog_12_method_2_code 3 (some .boolean)] RM_X10_in (va_Pc [.int a0, .int a1, .int a2] (Pre G σ)) (QG G (some (.int rr)) σr) 0 0 (AA G) := by
  refine ct_of (by decide) (fun p e s m below meth c X hP => ?_)
  have hx := X.hx
  have hb := X.hb
  have hS : va_S (AA G) s.heap s.heap [] := va_S.rf
  have hl := lv_entry ([.int a0, .int a1, .int a2]) (n := 3) (Nat.le_of_ble_eq_true rfl)
  rw [lg_entry_eq]
  generalize (lg_sl ([.int a0, .int a1, .int a2]) ++ List.replicate (3 - (lg_sl ([.int a0, .int a1, .int a2])).length) Slot.unset).toArray = ls at hl ⊢
  have hl : lv_has ls 3 [(0, .int a0), (1, .int a1), (2, .int a2)] := hl
  unfold f_X10_in at h
  refine lv_iload_n (pc := 0) hx hb dX10_in_0 rfl (lv_at hl 0 rfl) ?_
  refine lv_iload_n (pc := 1) hx hb dX10_in_1 rfl (lv_at hl 1 rfl) ?_
  refine lv_icmp_lt (pc := 2) (tgt := 14) hx hb dX10_in_2 (by decide) (fun c1 => ?_) (fun c1 => ?_)
  · have h := ipos c1 h
    refine lv_iconst (pc := 14) (v := 0) hx hb dX10_in_14 (by decide) ?_
    obtain ⟨rfl, rfl⟩ := inj2 h
    exact r_zret X hP hS (by decide) dX10_in_15
  · have h := ineg c1 h
    refine lv_iload_n (pc := 5) hx hb dX10_in_5 rfl (lv_at hl 0 rfl) ?_
    refine lv_iload_n (pc := 6) hx hb dX10_in_6 rfl (lv_at hl 2 rfl) ?_
    refine lv_icmp_gt (pc := 7) (tgt := 14) hx hb dX10_in_7 (by decide) (fun c2 => ?_) (fun c2 => ?_)
    · have h := ipos c2 h
      refine lv_iconst (pc := 14) (v := 0) hx hb dX10_in_14 (by decide) ?_
      obtain ⟨rfl, rfl⟩ := inj2 h
      exact r_zret X hP hS (by decide) dX10_in_15
    · have h := ineg c2 h
      refine lv_iconst (pc := 10) (v := 1) hx hb dX10_in_10 (by decide) ?_
      refine lv_goto (pc := 11) (tgt := 15) hx hb dX10_in_11 (by decide) ?_
      obtain ⟨rfl, rfl⟩ := inj2 h
      exact r_zret X hP hS (by decide) dX10_in_15
def f_X10_isLot (k0 : Nat) (a1 : Int32) (σ : Mem) : Option (Int32 × Mem) :=
  bd2 (f_X10_in a1 (0 : Int32) ((gI σ k0 0) - (1 : Int32)) σ) fun r3 σ1 =>
  grd (r3 = 0 ∨ r3 = 1) <|
  some (r3, σ1)
abbrev RM_X10_isLot : Room := { frames := 1, cells := 0, slots := 0, locals := 22 }
set_option maxHeartbeats 4000000 in
set_option maxRecDepth 100000 in
theorem c_X10_isLot (l : Launch) (G : Gh) {k0 : Nat} {a1 : Int32} {σ : Mem} {rr : Int32} {σr : Mem} (hk0 : kd k0 = 10) (h : f_X10_isLot k0 a1 σ = some (rr, σr)) : Met l yX10_isLot [Cond.code yX10_isLot prog_12_method_3_code 2 (some .boolean)] RM_X10_isLot (va_Pc [.ref (ga G k0), .int a1] (Pre G σ)) (QG G (some (.int rr)) σr) 0 0 (AA G) := by
  refine ct_of (by decide) (fun p e s m below meth c X hP => ?_)
  have hx := X.hx
  have hb := X.hb
  have hS : va_S (AA G) s.heap s.heap [] := va_S.rf
  have hl := lv_entry ([.ref (ga G k0), .int a1]) (n := 2) (Nat.le_of_ble_eq_true rfl)
  rw [lg_entry_eq]
  generalize (lg_sl ([.ref (ga G k0), .int a1]) ++ List.replicate (2 - (lg_sl ([.ref (ga G k0), .int a1])).length) Slot.unset).toArray = ls at hl ⊢
  have hl : lv_has ls 2 [(0, .ref (ga G k0)), (1, .int a1)] := hl
  unfold f_X10_isLot at h
  refine lv_iload_n (pc := 0) hx hb dX10_isLot_0 rfl (lv_at hl 1 rfl) ?_
  refine lv_iconst (pc := 1) (v := 0) hx hb dX10_isLot_1 (by decide) ?_
  refine lv_aload_n (pc := 2) hx hb dX10_isLot_2 rfl (lv_at hl 0 rfl) ?_
  refine gt_X10_117 X hP hk0 dX10_isLot_3 ?_
  refine lv_iconst (pc := 6) (v := 1) hx hb dX10_isLot_6 (by decide) ?_
  refine lv_isub (pc := 7) hx hb dX10_isLot_7 ?_
  obtain ⟨r3, σ1, e2, h⟩ := bnd2 h
  refine cl_X10_120 X hP hS (As := [.int a1, .int (0 : Int32), .int ((gI σ k0 0) - (1 : Int32))]) (rest := []) (c_X10_in l G  e2) ⟨rfl, rfl, Nat.le_of_ble_eq_true rfl, Nat.le_of_ble_eq_true rfl⟩ rfl hl.1 rfl (Nat.le_of_ble_eq_true rfl) ⟨Nat.zero_le _, Nat.zero_le _⟩ (pc := 8) dX10_isLot_8 (fun H locs hP hS => ?_)
  change W p l e _ s m _ below meth c H locs _ _ _ (F0 m (8 + 3) ls (.int r3 :: []))
  obtain ⟨g4, h⟩ := grd_inv h
  obtain ⟨rfl, rfl⟩ := inj2 h
  exact r_zret X hP hS g4 dX10_isLot_11
def f_X10_isFree (k0 : Nat) (a1 : Int32) (σ : Mem) : Option (Int32 × Mem) :=
  bd2 (f_X10_isLot k0 a1 σ) fun r3 σ1 =>
  if r3 = (0 : Int32) then
    some ((0 : Int32), σ1)
  else
    bd2 (f_X10_isLot k0 a1 σ1) fun r7 σ5 =>
    if r7 = (0 : Int32) then
      bd1 (ixo (k0 + 3) (0 : Int32)) fun j9 =>
      if (gI σ5 (k0 + 3) j9) = (0 : Int32) then
        some ((1 : Int32), σ5)
      else
        some ((0 : Int32), σ5)
    else
      bd1 (ixo (k0 + 3) a1) fun j12 =>
      if (gI σ5 (k0 + 3) j12) = (0 : Int32) then
        some ((1 : Int32), σ5)
      else
        some ((0 : Int32), σ5)
abbrev RM_X10_isFree : Room := { frames := 2, cells := 0, slots := 0, locals := 43 }
set_option maxHeartbeats 4000000 in
set_option maxRecDepth 100000 in
theorem c_X10_isFree (l : Launch) (G : Gh) {k0 : Nat} {a1 : Int32} {σ : Mem} {rr : Int32} {σr : Mem} (hk0 : kd k0 = 10) (h : f_X10_isFree k0 a1 σ = some (rr, σr)) : Met l yX10_isFree [Cond.code yX10_isFree prog_12_method_4_code 2 (some .boolean)] RM_X10_isFree (va_Pc [.ref (ga G k0), .int a1] (Pre G σ)) (QG G (some (.int rr)) σr) 0 0 (AA G) := by
  refine ct_of (by decide) (fun p e s m below meth c X hP => ?_)
  have hx := X.hx
  have hb := X.hb
  have hS : va_S (AA G) s.heap s.heap [] := va_S.rf
  have hl := lv_entry ([.ref (ga G k0), .int a1]) (n := 2) (Nat.le_of_ble_eq_true rfl)
  rw [lg_entry_eq]
  generalize (lg_sl ([.ref (ga G k0), .int a1]) ++ List.replicate (2 - (lg_sl ([.ref (ga G k0), .int a1])).length) Slot.unset).toArray = ls at hl ⊢
  have hl : lv_has ls 2 [(0, .ref (ga G k0)), (1, .int a1)] := hl
  unfold f_X10_isFree at h
  refine lv_aload_n (pc := 0) hx hb dX10_isFree_0 rfl (lv_at hl 0 rfl) ?_
  refine lv_iload_n (pc := 1) hx hb dX10_isFree_1 rfl (lv_at hl 1 rfl) ?_
  obtain ⟨r3, σ1, e2, h⟩ := bnd2 h
  refine cl_X10_124 X hP hS hk0 (As := [.int a1]) (rest := []) (c_X10_isLot l G hk0 e2) ⟨rfl, rfl, Nat.le_of_ble_eq_true rfl, Nat.le_of_ble_eq_true rfl⟩ rfl hl.1 rfl (Nat.le_of_ble_eq_true rfl) ⟨Nat.zero_le _, Nat.zero_le _⟩ (pc := 2) dX10_isFree_2 (fun H locs hP hS => ?_)
  change W p l e _ s m _ below meth c H locs _ _ _ (F0 m (2 + 3) ls (.int r3 :: []))
  refine lv_if_eq (pc := 5) (tgt := 33) hx hb dX10_isFree_5 (by decide) (fun c4 => ?_) (fun c4 => ?_)
  · have h := ipos c4 h
    refine lv_iconst (pc := 33) (v := 0) hx hb dX10_isFree_33 (by decide) ?_
    obtain ⟨rfl, rfl⟩ := inj2 h
    exact r_zret X hP hS (by decide) dX10_isFree_34
  · have h := ineg c4 h
    refine lv_aload_n (pc := 8) hx hb dX10_isFree_8 rfl (lv_at hl 0 rfl) ?_
    refine gt_X10_16 X hP hk0 dX10_isFree_9 ?_
    refine lv_aload_n (pc := 12) hx hb dX10_isFree_12 rfl (lv_at hl 0 rfl) ?_
    refine lv_iload_n (pc := 13) hx hb dX10_isFree_13 rfl (lv_at hl 1 rfl) ?_
    obtain ⟨r7, σ5, e6, h⟩ := bnd2 h
    refine cl_X10_124 X hP hS hk0 (As := [.int a1]) (rest := [.ref (ga G (k0 + 3))]) (c_X10_isLot l G hk0 e6) ⟨rfl, rfl, Nat.le_of_ble_eq_true rfl, Nat.le_of_ble_eq_true rfl⟩ rfl hl.1 rfl (Nat.le_of_ble_eq_true rfl) ⟨Nat.zero_le _, Nat.zero_le _⟩ (pc := 14) dX10_isFree_14 (fun H locs hP hS => ?_)
    change W p l e _ s m _ below meth c H locs _ _ _ (F0 m (14 + 3) ls (.int r7 :: [.ref (ga G (k0 + 3))]))
    refine lv_if_eq (pc := 17) (tgt := 24) hx hb dX10_isFree_17 (by decide) (fun c8 => ?_) (fun c8 => ?_)
    · have h := ipos c8 h
      refine lv_iconst (pc := 24) (v := 0) hx hb dX10_isFree_24 (by decide) ?_
      obtain ⟨j9, hj10, h⟩ := bnd1 h
      refine r_iald (pc := 25) X hP (kf_10_sold hk0).1 hj10 dX10_isFree_25 ?_
      refine lv_if_ne (pc := 26) (tgt := 33) hx hb dX10_isFree_26 (by decide) (fun c11 => ?_) (fun c11 => ?_)
      · have h := ineg c11 h
        refine lv_iconst (pc := 33) (v := 0) hx hb dX10_isFree_33 (by decide) ?_
        obtain ⟨rfl, rfl⟩ := inj2 h
        exact r_zret X hP hS (by decide) dX10_isFree_34
      · have h := ipos c11 h
        refine lv_iconst (pc := 29) (v := 1) hx hb dX10_isFree_29 (by decide) ?_
        refine lv_goto (pc := 30) (tgt := 34) hx hb dX10_isFree_30 (by decide) ?_
        obtain ⟨rfl, rfl⟩ := inj2 h
        exact r_zret X hP hS (by decide) dX10_isFree_34
    · have h := ineg c8 h
      refine lv_iload_n (pc := 20) hx hb dX10_isFree_20 rfl (lv_at hl 1 rfl) ?_
      refine lv_goto (pc := 21) (tgt := 25) hx hb dX10_isFree_21 (by decide) ?_
      obtain ⟨j12, hj13, h⟩ := bnd1 h
      refine r_iald (pc := 25) X hP (kf_10_sold hk0).1 hj13 dX10_isFree_25 ?_
      refine lv_if_ne (pc := 26) (tgt := 33) hx hb dX10_isFree_26 (by decide) (fun c14 => ?_) (fun c14 => ?_)
      · have h := ineg c14 h
        refine lv_iconst (pc := 33) (v := 0) hx hb dX10_isFree_33 (by decide) ?_
        obtain ⟨rfl, rfl⟩ := inj2 h
        exact r_zret X hP hS (by decide) dX10_isFree_34
      · have h := ipos c14 h
        refine lv_iconst (pc := 29) (v := 1) hx hb dX10_isFree_29 (by decide) ?_
        refine lv_goto (pc := 30) (tgt := 34) hx hb dX10_isFree_30 (by decide) ?_
        obtain ⟨rfl, rfl⟩ := inj2 h
        exact r_zret X hP hS (by decide) dX10_isFree_34
def f_X10_isBidder (k0 : Nat) (a1 : Int32) (σ : Mem) : Option (Int32 × Mem) :=
  bd2 (f_X10_in a1 (0 : Int32) ((gI σ k0 8) - (1 : Int32)) σ) fun r3 σ1 =>
  grd (r3 = 0 ∨ r3 = 1) <|
  some (r3, σ1)
abbrev RM_X10_isBidder : Room := { frames := 1, cells := 0, slots := 0, locals := 22 }
set_option maxHeartbeats 4000000 in
set_option maxRecDepth 100000 in
theorem c_X10_isBidder (l : Launch) (G : Gh) {k0 : Nat} {a1 : Int32} {σ : Mem} {rr : Int32} {σr : Mem} (hk0 : kd k0 = 10) (h : f_X10_isBidder k0 a1 σ = some (rr, σr)) : Met l yX10_isBidder [Cond.code yX10_isBidder prog_12_method_5_code 2 (some .boolean)] RM_X10_isBidder (va_Pc [.ref (ga G k0), .int a1] (Pre G σ)) (QG G (some (.int rr)) σr) 0 0 (AA G) := by
  refine ct_of (by decide) (fun p e s m below meth c X hP => ?_)
  have hx := X.hx
  have hb := X.hb
  have hS : va_S (AA G) s.heap s.heap [] := va_S.rf
  have hl := lv_entry ([.ref (ga G k0), .int a1]) (n := 2) (Nat.le_of_ble_eq_true rfl)
  rw [lg_entry_eq]
  generalize (lg_sl ([.ref (ga G k0), .int a1]) ++ List.replicate (2 - (lg_sl ([.ref (ga G k0), .int a1])).length) Slot.unset).toArray = ls at hl ⊢
  have hl : lv_has ls 2 [(0, .ref (ga G k0)), (1, .int a1)] := hl
  unfold f_X10_isBidder at h
  refine lv_iload_n (pc := 0) hx hb dX10_isBidder_0 rfl (lv_at hl 1 rfl) ?_
  refine lv_iconst (pc := 1) (v := 0) hx hb dX10_isBidder_1 (by decide) ?_
  refine lv_aload_n (pc := 2) hx hb dX10_isBidder_2 rfl (lv_at hl 0 rfl) ?_
  refine gt_X10_128 X hP hk0 dX10_isBidder_3 ?_
  refine lv_iconst (pc := 6) (v := 1) hx hb dX10_isBidder_6 (by decide) ?_
  refine lv_isub (pc := 7) hx hb dX10_isBidder_7 ?_
  obtain ⟨r3, σ1, e2, h⟩ := bnd2 h
  refine cl_X10_120 X hP hS (As := [.int a1, .int (0 : Int32), .int ((gI σ k0 8) - (1 : Int32))]) (rest := []) (c_X10_in l G  e2) ⟨rfl, rfl, Nat.le_of_ble_eq_true rfl, Nat.le_of_ble_eq_true rfl⟩ rfl hl.1 rfl (Nat.le_of_ble_eq_true rfl) ⟨Nat.zero_le _, Nat.zero_le _⟩ (pc := 8) dX10_isBidder_8 (fun H locs hP hS => ?_)
  change W p l e _ s m _ below meth c H locs _ _ _ (F0 m (8 + 3) ls (.int r3 :: []))
  obtain ⟨g4, h⟩ := grd_inv h
  obtain ⟨rfl, rfl⟩ := inj2 h
  exact r_zret X hP hS g4 dX10_isBidder_11
def f_X10_isSide (a0 : Int32) (σ : Mem) : Option (Int32 × Mem) :=
  bd2 (f_X10_in a0 (0 : Int32) (1 : Int32) σ) fun r3 σ1 =>
  grd (r3 = 0 ∨ r3 = 1) <|
  some (r3, σ1)
abbrev RM_X10_isSide : Room := { frames := 1, cells := 0, slots := 0, locals := 22 }
set_option maxHeartbeats 4000000 in
set_option maxRecDepth 100000 in
theorem c_X10_isSide (l : Launch) (G : Gh) {a0 : Int32} {σ : Mem} {rr : Int32} {σr : Mem} (h : f_X10_isSide a0 σ = some (rr, σr)) : Met l yX10_isSide [Cond.code yX10_isSide prog_12_method_6_code 1 (some .boolean)] RM_X10_isSide (va_Pc [.int a0] (Pre G σ)) (QG G (some (.int rr)) σr) 0 0 (AA G) := by
  refine ct_of (by decide) (fun p e s m below meth c X hP => ?_)
  have hx := X.hx
  have hb := X.hb
  have hS : va_S (AA G) s.heap s.heap [] := va_S.rf
  have hl := lv_entry ([.int a0]) (n := 1) (Nat.le_of_ble_eq_true rfl)
  rw [lg_entry_eq]
  generalize (lg_sl ([.int a0]) ++ List.replicate (1 - (lg_sl ([.int a0])).length) Slot.unset).toArray = ls at hl ⊢
  have hl : lv_has ls 1 [(0, .int a0)] := hl
  unfold f_X10_isSide at h
  refine lv_iload_n (pc := 0) hx hb dX10_isSide_0 rfl (lv_at hl 0 rfl) ?_
  refine lv_iconst (pc := 1) (v := 0) hx hb dX10_isSide_1 (by decide) ?_
  refine lv_iconst (pc := 2) (v := 1) hx hb dX10_isSide_2 (by decide) ?_
  obtain ⟨r3, σ1, e2, h⟩ := bnd2 h
  refine cl_X10_120 X hP hS (As := [.int a0, .int (0 : Int32), .int (1 : Int32)]) (rest := []) (c_X10_in l G  e2) ⟨rfl, rfl, Nat.le_of_ble_eq_true rfl, Nat.le_of_ble_eq_true rfl⟩ rfl hl.1 rfl (Nat.le_of_ble_eq_true rfl) ⟨Nat.zero_le _, Nat.zero_le _⟩ (pc := 3) dX10_isSide_3 (fun H locs hP hS => ?_)
  change W p l e _ s m _ below meth c H locs _ _ _ (F0 m (3 + 3) ls (.int r3 :: []))
  obtain ⟨g4, h⟩ := grd_inv h
  obtain ⟨rfl, rfl⟩ := inj2 h
  exact r_zret X hP hS g4 dX10_isSide_6
def f_X10_isPlace (a0 : Int32) (σ : Mem) : Option (Int32 × Mem) :=
  bd2 (f_X10_in a0 (0 : Int32) (11 : Int32) σ) fun r3 σ1 =>
  grd (r3 = 0 ∨ r3 = 1) <|
  some (r3, σ1)
abbrev RM_X10_isPlace : Room := { frames := 1, cells := 0, slots := 0, locals := 22 }
set_option maxHeartbeats 4000000 in
set_option maxRecDepth 100000 in
theorem c_X10_isPlace (l : Launch) (G : Gh) {a0 : Int32} {σ : Mem} {rr : Int32} {σr : Mem} (h : f_X10_isPlace a0 σ = some (rr, σr)) : Met l yX10_isPlace [Cond.code yX10_isPlace prog_12_method_7_code 1 (some .boolean)] RM_X10_isPlace (va_Pc [.int a0] (Pre G σ)) (QG G (some (.int rr)) σr) 0 0 (AA G) := by
  refine ct_of (by decide) (fun p e s m below meth c X hP => ?_)
  have hx := X.hx
  have hb := X.hb
  have hS : va_S (AA G) s.heap s.heap [] := va_S.rf
  have hl := lv_entry ([.int a0]) (n := 1) (Nat.le_of_ble_eq_true rfl)
  rw [lg_entry_eq]
  generalize (lg_sl ([.int a0]) ++ List.replicate (1 - (lg_sl ([.int a0])).length) Slot.unset).toArray = ls at hl ⊢
  have hl : lv_has ls 1 [(0, .int a0)] := hl
  unfold f_X10_isPlace at h
  refine lv_iload_n (pc := 0) hx hb dX10_isPlace_0 rfl (lv_at hl 0 rfl) ?_
  refine lv_iconst (pc := 1) (v := 0) hx hb dX10_isPlace_1 (by decide) ?_
  refine lv_bipush (pc := 2) (v := (11)) hx hb dX10_isPlace_2 (by decide) ?_
  obtain ⟨r3, σ1, e2, h⟩ := bnd2 h
  refine cl_X10_120 X hP hS (As := [.int a0, .int (0 : Int32), .int (11 : Int32)]) (rest := []) (c_X10_in l G  e2) ⟨rfl, rfl, Nat.le_of_ble_eq_true rfl, Nat.le_of_ble_eq_true rfl⟩ rfl hl.1 rfl (Nat.le_of_ble_eq_true rfl) ⟨Nat.zero_le _, Nat.zero_le _⟩ (pc := 4) dX10_isPlace_4 (fun H locs hP hS => ?_)
  change W p l e _ s m _ below meth c H locs _ _ _ (F0 m (4 + 3) ls (.int r3 :: []))
  obtain ⟨g4, h⟩ := grd_inv h
  obtain ⟨rfl, rfl⟩ := inj2 h
  exact r_zret X hP hS g4 dX10_isPlace_7
def f_X10_its (k0 : Nat) (a1 : Int32) (σ : Mem) : Option (Int32 × Mem) :=
  bd1 (ixo (k0 + 10) ((gI σ k0 13) + a1)) fun j1 =>
  some ((gI σ (k0 + 10) j1), σ)
abbrev RM_X10_its : Room := { frames := 0, cells := 0, slots := 0, locals := 0 }
set_option maxHeartbeats 4000000 in
set_option maxRecDepth 100000 in
theorem c_X10_its (l : Launch) (G : Gh) {k0 : Nat} {a1 : Int32} {σ : Mem} {rr : Int32} {σr : Mem} (hk0 : kd k0 = 10) (h : f_X10_its k0 a1 σ = some (rr, σr)) : Met l yX10_its [Cond.code yX10_its prog_12_method_8_code 2 (some .int)] RM_X10_its (va_Pc [.ref (ga G k0), .int a1] (Pre G σ)) (QG G (some (.int rr)) σr) 0 0 (AA G) := by
  refine ct_of (by decide) (fun p e s m below meth c X hP => ?_)
  have hx := X.hx
  have hb := X.hb
  have hS : va_S (AA G) s.heap s.heap [] := va_S.rf
  have hl := lv_entry ([.ref (ga G k0), .int a1]) (n := 2) (Nat.le_of_ble_eq_true rfl)
  rw [lg_entry_eq]
  generalize (lg_sl ([.ref (ga G k0), .int a1]) ++ List.replicate (2 - (lg_sl ([.ref (ga G k0), .int a1])).length) Slot.unset).toArray = ls at hl ⊢
  have hl : lv_has ls 2 [(0, .ref (ga G k0)), (1, .int a1)] := hl
  unfold f_X10_its at h
  refine lv_aload_n (pc := 0) hx hb dX10_its_0 rfl (lv_at hl 0 rfl) ?_
  refine gt_X10_41 X hP hk0 dX10_its_1 ?_
  refine lv_aload_n (pc := 4) hx hb dX10_its_4 rfl (lv_at hl 0 rfl) ?_
  refine gt_X10_131 X hP hk0 dX10_its_5 ?_
  refine lv_iload_n (pc := 8) hx hb dX10_its_8 rfl (lv_at hl 1 rfl) ?_
  refine lv_iadd (pc := 9) hx hb dX10_its_9 ?_
  obtain ⟨j1, hj2, h⟩ := bnd1 h
  refine r_iald (pc := 10) X hP (kf_10_row hk0).1 hj2 dX10_its_10 ?_
  obtain ⟨rfl, rfl⟩ := inj2 h
  exact r_iret X hP hS dX10_its_11
def f_X10_becomes (k0 : Nat) (a1 : Int32) (a2 : Int32) (σ : Mem) : Option Mem :=
  bd1 (ixo (k0 + 10) ((gI σ k0 13) + a1)) fun j1 =>
  bd1 (some (pI σ (k0 + 10) j1 a2)) fun σ3 =>
  some σ3
abbrev RM_X10_becomes : Room := { frames := 0, cells := 0, slots := 0, locals := 0 }
set_option maxHeartbeats 4000000 in
set_option maxRecDepth 100000 in
theorem c_X10_becomes (l : Launch) (G : Gh) {k0 : Nat} {a1 : Int32} {a2 : Int32} {σ : Mem} {σr : Mem} (hk0 : kd k0 = 10) (h : f_X10_becomes k0 a1 a2 σ = some σr) : Met l yX10_becomes [Cond.code yX10_becomes prog_12_method_9_code 3 none] RM_X10_becomes (va_Pc [.ref (ga G k0), .int a1, .int a2] (Pre G σ)) (QG G none σr) 0 0 (AA G) := by
  refine ct_of (by decide) (fun p e s m below meth c X hP => ?_)
  have hx := X.hx
  have hb := X.hb
  have hS : va_S (AA G) s.heap s.heap [] := va_S.rf
  have hl := lv_entry ([.ref (ga G k0), .int a1, .int a2]) (n := 3) (Nat.le_of_ble_eq_true rfl)
  rw [lg_entry_eq]
  generalize (lg_sl ([.ref (ga G k0), .int a1, .int a2]) ++ List.replicate (3 - (lg_sl ([.ref (ga G k0), .int a1, .int a2])).length) Slot.unset).toArray = ls at hl ⊢
  have hl : lv_has ls 3 [(0, .ref (ga G k0)), (1, .int a1), (2, .int a2)] := hl
  unfold f_X10_becomes at h
  refine lv_aload_n (pc := 0) hx hb dX10_becomes_0 rfl (lv_at hl 0 rfl) ?_
  refine gt_X10_41 X hP hk0 dX10_becomes_1 ?_
  refine lv_aload_n (pc := 4) hx hb dX10_becomes_4 rfl (lv_at hl 0 rfl) ?_
  refine gt_X10_131 X hP hk0 dX10_becomes_5 ?_
  refine lv_iload_n (pc := 8) hx hb dX10_becomes_8 rfl (lv_at hl 1 rfl) ?_
  refine lv_iadd (pc := 9) hx hb dX10_becomes_9 ?_
  refine lv_iload_n (pc := 10) hx hb dX10_becomes_10 rfl (lv_at hl 2 rfl) ?_
  obtain ⟨j1, hj2, h⟩ := bnd1 h
  obtain ⟨σ3, e4, h⟩ := bnd1 h
  refine r_iast (pc := 11) X hP hS (kf_10_row hk0).1 hj2 dX10_becomes_11 (fun H locs hP hS => ?_)
  rw [Option.some.inj e4] at hP
  obtain rfl := Option.some.inj h
  exact r_vret X hP hS dX10_becomes_12
def F_X10_feed_30 (k0z : Nat) (p1 : Int64) (p3 : Int32) (rec1 : Int32 → Mem → Option (Int32 × Mem)) : Int32 → Mem → Option (Int32 × Mem) := fun v4 σ =>
  if p3 ≤ v4 then
    some ((gI σ k0z 16), σ)
  else
    bd1 (ixo (k0z + 11) (gI σ k0z 16)) fun j7 =>
    bd1 (some (pI σ (k0z + 11) j7 ((p1 >>> (((8 : Int32) * v4).toInt64 &&& 63)) &&& (255 : Int64)).toInt32)) fun σ9 =>
    bd1 (some (pI σ9 k0z 16 ((gI σ9 k0z 16) + (1 : Int32)))) fun σ11 =>
    rec1 (v4 + (1 : Int32)) σ11
def f_X10_feed (k0 : Nat) (a1 : Int64) (a3 : Int32) (σ : Mem) : Option (Int32 × Mem) :=
  bd2 (f_X10_in a3 (1 : Int32) (8 : Int32) σ) fun r3 σ1 =>
  if r3 = (0 : Int32) then
    some ((-1 : Int32), σ1)
  else
    if ((gI σ1 k0 16) + a3) ≤ (200 : Int32) then
      iterF (F_X10_feed_30 k0 a1 a3) (fun _ _ => none) FU (0 : Int32) σ1
    else
      some ((-2 : Int32), σ1)
abbrev RM_X10_feed : Room := { frames := 1, cells := 0, slots := 0, locals := 22 }
set_option maxHeartbeats 4000000 in
set_option maxRecDepth 100000 in
theorem w_X10_feed_30 {l : Launch} {G : Gh} {p : Program} {e : Env} {s : State} {m : MethodId} {args : Array Value} {below : List Frame} {meth : Method} {c : Code} (X : Cx G p s m args meth c prog_12_method_10_code RX10 5 (some .int)) {k0z : Nat} {p1 : Int64} {p3 : Int32} (hz0 : kd k0z = 10) {rr : Int32} {σr : Mem} : ∀ (n : Nat) (v4 : Int32) (σ : Mem) (H : Heap) (locs : List Loc) (ls : Array Slot), PW G σ H → va_S (AA G) s.heap H locs → lv_has ls 5 [(0, .ref (ga G k0z)), (1, .long p1), (3, .int p3), (4, .int v4)] → iterF (F_X10_feed_30 k0z p1 p3) (fun _ _ => none) n v4 σ = some (rr, σr) → W p l e RM_X10_feed s m args below meth c H locs 0 0 (MQ below (QG G (some (.int rr)) σr) args s 0 0 (AA G)) (F0 m 30 ls []) := by
  have hx := X.hx
  have hb := X.hb
  intro n
  induction n with
  | zero => intro v4 σ H locs ls hP hS hl h; exact nnone (α := (Int32 × Mem)) h
  | succ n ih1 =>
    intro v4 σ H locs ls hP hS hl h
    have h : F_X10_feed_30 k0z p1 p3 (iterF (F_X10_feed_30 k0z p1 p3) (fun _ _ => none) n) v4 σ = some _ := h
    unfold F_X10_feed_30 at h
    refine lv_iload (pc := 30) hx hb dX10_feed_30 (lv_at hl 3 rfl) ?_
    refine lv_iload_n (pc := 32) hx hb dX10_feed_32 rfl (lv_at hl 2 rfl) ?_
    refine lv_icmp_ge (pc := 33) (tgt := 73) hx hb dX10_feed_33 (by decide) (fun c6 => ?_) (fun c6 => ?_)
    · have h := ipos c6 h
      refine lv_aload_n (pc := 73) hx hb dX10_feed_73 rfl (lv_at hl 0 rfl) ?_
      refine gt_X10_134 X hP hz0 dX10_feed_74 ?_
      obtain ⟨rfl, rfl⟩ := inj2 h
      exact r_iret X hP hS dX10_feed_77
    · have h := ineg c6 h
      refine lv_aload_n (pc := 36) hx hb dX10_feed_36 rfl (lv_at hl 0 rfl) ?_
      refine gt_X10_47 X hP hz0 dX10_feed_37 ?_
      refine lv_aload_n (pc := 40) hx hb dX10_feed_40 rfl (lv_at hl 0 rfl) ?_
      refine gt_X10_134 X hP hz0 dX10_feed_41 ?_
      refine lv_lload_n (pc := 44) hx hb dX10_feed_44 rfl (lv_at hl 1 rfl) ?_
      refine lv_bipush (pc := 45) (v := (8)) hx hb dX10_feed_45 (by decide) ?_
      refine lv_iload (pc := 47) hx hb dX10_feed_47 (lv_at hl 3 rfl) ?_
      refine lv_imul (pc := 49) hx hb dX10_feed_49 ?_
      refine lv_lshr (pc := 50) (v := (p1 >>> (((8 : Int32) * v4).toInt64 &&& 63))) hx hb dX10_feed_50 rfl ?_
      refine lv_ldc2 (pc := 51) (v := (255)) hx hb X.hown (X.tb tw_1179 rfl) dX10_feed_51 ?_
      refine lv_land (pc := 54) hx hb dX10_feed_54 ?_
      refine lv_l2i (pc := 55) (v := ((p1 >>> (((8 : Int32) * v4).toInt64 &&& 63)) &&& (255 : Int64)).toInt32) hx hb dX10_feed_55 rfl ?_
      obtain ⟨j7, hj8, h⟩ := bnd1 h
      obtain ⟨σ9, e10, h⟩ := bnd1 h
      refine r_iast (pc := 56) X hP hS (kf_10_tape hz0).1 hj8 dX10_feed_56 (fun H locs hP hS => ?_)
      rw [Option.some.inj e10] at hP
      refine lv_aload_n (pc := 57) hx hb dX10_feed_57 rfl (lv_at hl 0 rfl) ?_
      refine lv_dup (pc := 58) hx hb dX10_feed_58 rfl ?_
      refine gt_X10_134 X hP hz0 dX10_feed_59 ?_
      refine lv_iconst (pc := 62) (v := 1) hx hb dX10_feed_62 (by decide) ?_
      refine lv_iadd (pc := 63) hx hb dX10_feed_63 ?_
      obtain ⟨σ11, e12, h⟩ := bnd1 h
      refine pt_X10_134 X hP hS hz0 dX10_feed_64 (fun H locs hP hS => ?_)
      rw [Option.some.inj e12] at hP
      refine lv_iinc (pc := 67) (v := (v4 + (1 : Int32))) (lv' := [(4, .int (v4 + (1 : Int32))), (0, .ref (ga G k0z)), (1, .long p1), (3, .int p3)]) hx hb dX10_feed_67 hl (k := 3) rfl (congrArg (fun z => v4 + z) (by decide)) (by decide) rfl (fun ls hl => ?_)
      refine lv_goto (pc := 70) (tgt := 30) hx hb dX10_feed_70 (by decide) ?_
      exact ih1 _ _ _ _ _ hP hS (lv_sub hl [1, 2, 3, 0] rfl) h
set_option maxHeartbeats 4000000 in
set_option maxRecDepth 100000 in
theorem c_X10_feed (l : Launch) (G : Gh) {k0 : Nat} {a1 : Int64} {a3 : Int32} {σ : Mem} {rr : Int32} {σr : Mem} (hk0 : kd k0 = 10) (h : f_X10_feed k0 a1 a3 σ = some (rr, σr)) : Met l yX10_feed [Cond.code yX10_feed prog_12_method_10_code 5 (some .int)] RM_X10_feed (va_Pc [.ref (ga G k0), .long a1, .int a3] (Pre G σ)) (QG G (some (.int rr)) σr) 0 0 (AA G) := by
  refine ct_of (by decide) (fun p e s m below meth c X hP => ?_)
  have hx := X.hx
  have hb := X.hb
  have hS : va_S (AA G) s.heap s.heap [] := va_S.rf
  have hl := lv_entry ([.ref (ga G k0), .long a1, .int a3]) (n := 5) (Nat.le_of_ble_eq_true rfl)
  rw [lg_entry_eq]
  generalize (lg_sl ([.ref (ga G k0), .long a1, .int a3]) ++ List.replicate (5 - (lg_sl ([.ref (ga G k0), .long a1, .int a3])).length) Slot.unset).toArray = ls at hl ⊢
  have hl : lv_has ls 5 [(0, .ref (ga G k0)), (1, .long a1), (3, .int a3)] := hl
  unfold f_X10_feed at h
  refine lv_iload_n (pc := 0) hx hb dX10_feed_0 rfl (lv_at hl 2 rfl) ?_
  refine lv_iconst (pc := 1) (v := 1) hx hb dX10_feed_1 (by decide) ?_
  refine lv_bipush (pc := 2) (v := (8)) hx hb dX10_feed_2 (by decide) ?_
  obtain ⟨r3, σ1, e2, h⟩ := bnd2 h
  refine cl_X10_120 X hP hS (As := [.int a3, .int (1 : Int32), .int (8 : Int32)]) (rest := []) (c_X10_in l G  e2) ⟨rfl, rfl, Nat.le_of_ble_eq_true rfl, Nat.le_of_ble_eq_true rfl⟩ rfl hl.1 rfl (Nat.le_of_ble_eq_true rfl) ⟨Nat.zero_le _, Nat.zero_le _⟩ (pc := 4) dX10_feed_4 (fun H locs hP hS => ?_)
  change W p l e _ s m _ below meth c H locs _ _ _ (F0 m (4 + 3) ls (.int r3 :: []))
  refine lv_if_ne (pc := 7) (tgt := 12) hx hb dX10_feed_7 (by decide) (fun c4 => ?_) (fun c4 => ?_)
  · have h := ineg c4 h
    refine lv_aload_n (pc := 12) hx hb dX10_feed_12 rfl (lv_at hl 0 rfl) ?_
    refine gt_X10_134 X hP hk0 dX10_feed_13 ?_
    refine lv_iload_n (pc := 16) hx hb dX10_feed_16 rfl (lv_at hl 2 rfl) ?_
    refine lv_iadd (pc := 17) hx hb dX10_feed_17 ?_
    refine lv_sipush (pc := 18) (v := (200)) hx hb dX10_feed_18 (by decide) ?_
    refine lv_icmp_le (pc := 21) (tgt := 27) hx hb dX10_feed_21 (by decide) (fun c5 => ?_) (fun c5 => ?_)
    · have h := ipos c5 h
      refine lv_iconst (pc := 27) (v := 0) hx hb dX10_feed_27 (by decide) ?_
      refine lv_istore (pc := 28) (lv' := [(4, .int (0 : Int32)), (0, .ref (ga G k0)), (1, .long a1), (3, .int a3)]) hx hb dX10_feed_28 hl (by decide) rfl (fun ls hl => ?_)
      exact w_X10_feed_30 X  hk0  FU _ _ _ _ _ hP hS (lv_sub hl [1, 2, 3, 0] rfl) h
    · have h := ineg c5 h
      refine lv_bipush (pc := 24) (v := (-2)) hx hb dX10_feed_24 (by decide) ?_
      obtain ⟨rfl, rfl⟩ := inj2 h
      exact r_iret X hP hS dX10_feed_26
  · have h := ipos c4 h
    refine lv_iconst (pc := 10) (v := (-1)) hx hb dX10_feed_10 (by decide) ?_
    obtain ⟨rfl, rfl⟩ := inj2 h
    exact r_iret X hP hS dX10_feed_11
def f_X10_byteAt (k0 : Nat) (a1 : Int32) (σ : Mem) : Option (Int32 × Mem) :=
  if (gI σ k0 16) ≤ a1 then
    some ((-1 : Int32), σ)
  else
    bd1 (ixo (k0 + 11) a1) fun j2 =>
    some ((gI σ (k0 + 11) j2), σ)
abbrev RM_X10_byteAt : Room := { frames := 0, cells := 0, slots := 0, locals := 0 }
set_option maxHeartbeats 4000000 in
set_option maxRecDepth 100000 in
theorem c_X10_byteAt (l : Launch) (G : Gh) {k0 : Nat} {a1 : Int32} {σ : Mem} {rr : Int32} {σr : Mem} (hk0 : kd k0 = 10) (h : f_X10_byteAt k0 a1 σ = some (rr, σr)) : Met l yX10_byteAt [Cond.code yX10_byteAt prog_12_method_11_code 2 (some .int)] RM_X10_byteAt (va_Pc [.ref (ga G k0), .int a1] (Pre G σ)) (QG G (some (.int rr)) σr) 0 0 (AA G) := by
  refine ct_of (by decide) (fun p e s m below meth c X hP => ?_)
  have hx := X.hx
  have hb := X.hb
  have hS : va_S (AA G) s.heap s.heap [] := va_S.rf
  have hl := lv_entry ([.ref (ga G k0), .int a1]) (n := 2) (Nat.le_of_ble_eq_true rfl)
  rw [lg_entry_eq]
  generalize (lg_sl ([.ref (ga G k0), .int a1]) ++ List.replicate (2 - (lg_sl ([.ref (ga G k0), .int a1])).length) Slot.unset).toArray = ls at hl ⊢
  have hl : lv_has ls 2 [(0, .ref (ga G k0)), (1, .int a1)] := hl
  unfold f_X10_byteAt at h
  refine lv_iload_n (pc := 0) hx hb dX10_byteAt_0 rfl (lv_at hl 1 rfl) ?_
  refine lv_aload_n (pc := 1) hx hb dX10_byteAt_1 rfl (lv_at hl 0 rfl) ?_
  refine gt_X10_134 X hP hk0 dX10_byteAt_2 ?_
  refine lv_icmp_ge (pc := 5) (tgt := 17) hx hb dX10_byteAt_5 (by decide) (fun c1 => ?_) (fun c1 => ?_)
  · have h := ipos c1 h
    refine lv_iconst (pc := 17) (v := (-1)) hx hb dX10_byteAt_17 (by decide) ?_
    obtain ⟨rfl, rfl⟩ := inj2 h
    exact r_iret X hP hS dX10_byteAt_18
  · have h := ineg c1 h
    refine lv_aload_n (pc := 8) hx hb dX10_byteAt_8 rfl (lv_at hl 0 rfl) ?_
    refine gt_X10_47 X hP hk0 dX10_byteAt_9 ?_
    refine lv_iload_n (pc := 12) hx hb dX10_byteAt_12 rfl (lv_at hl 1 rfl) ?_
    obtain ⟨j2, hj3, h⟩ := bnd1 h
    refine r_iald (pc := 13) X hP (kf_10_tape hk0).1 hj3 dX10_byteAt_13 ?_
    refine lv_goto (pc := 14) (tgt := 18) hx hb dX10_byteAt_14 (by decide) ?_
    obtain ⟨rfl, rfl⟩ := inj2 h
    exact r_iret X hP hS dX10_byteAt_18
def f_X10_isLetter (a0 : Int32) (σ : Mem) : Option (Int32 × Mem) :=
  bd2 (f_X10_in a0 (97 : Int32) (122 : Int32) σ) fun r3 σ1 =>
  grd (r3 = 0 ∨ r3 = 1) <|
  some (r3, σ1)
abbrev RM_X10_isLetter : Room := { frames := 1, cells := 0, slots := 0, locals := 22 }
set_option maxHeartbeats 4000000 in
set_option maxRecDepth 100000 in
theorem c_X10_isLetter (l : Launch) (G : Gh) {a0 : Int32} {σ : Mem} {rr : Int32} {σr : Mem} (h : f_X10_isLetter a0 σ = some (rr, σr)) : Met l yX10_isLetter [Cond.code yX10_isLetter prog_12_method_12_code 1 (some .boolean)] RM_X10_isLetter (va_Pc [.int a0] (Pre G σ)) (QG G (some (.int rr)) σr) 0 0 (AA G) := by
  refine ct_of (by decide) (fun p e s m below meth c X hP => ?_)
  have hx := X.hx
  have hb := X.hb
  have hS : va_S (AA G) s.heap s.heap [] := va_S.rf
  have hl := lv_entry ([.int a0]) (n := 1) (Nat.le_of_ble_eq_true rfl)
  rw [lg_entry_eq]
  generalize (lg_sl ([.int a0]) ++ List.replicate (1 - (lg_sl ([.int a0])).length) Slot.unset).toArray = ls at hl ⊢
  have hl : lv_has ls 1 [(0, .int a0)] := hl
  unfold f_X10_isLetter at h
  refine lv_iload_n (pc := 0) hx hb dX10_isLetter_0 rfl (lv_at hl 0 rfl) ?_
  refine lv_bipush (pc := 1) (v := (97)) hx hb dX10_isLetter_1 (by decide) ?_
  refine lv_bipush (pc := 3) (v := (122)) hx hb dX10_isLetter_3 (by decide) ?_
  obtain ⟨r3, σ1, e2, h⟩ := bnd2 h
  refine cl_X10_120 X hP hS (As := [.int a0, .int (97 : Int32), .int (122 : Int32)]) (rest := []) (c_X10_in l G  e2) ⟨rfl, rfl, Nat.le_of_ble_eq_true rfl, Nat.le_of_ble_eq_true rfl⟩ rfl hl.1 rfl (Nat.le_of_ble_eq_true rfl) ⟨Nat.zero_le _, Nat.zero_le _⟩ (pc := 5) dX10_isLetter_5 (fun H locs hP hS => ?_)
  change W p l e _ s m _ below meth c H locs _ _ _ (F0 m (5 + 3) ls (.int r3 :: []))
  obtain ⟨g4, h⟩ := grd_inv h
  obtain ⟨rfl, rfl⟩ := inj2 h
  exact r_zret X hP hS g4 dX10_isLetter_8
def f_X10_isDigit (a0 : Int32) (σ : Mem) : Option (Int32 × Mem) :=
  bd2 (f_X10_in a0 (48 : Int32) (57 : Int32) σ) fun r3 σ1 =>
  grd (r3 = 0 ∨ r3 = 1) <|
  some (r3, σ1)
abbrev RM_X10_isDigit : Room := { frames := 1, cells := 0, slots := 0, locals := 22 }
set_option maxHeartbeats 4000000 in
set_option maxRecDepth 100000 in
theorem c_X10_isDigit (l : Launch) (G : Gh) {a0 : Int32} {σ : Mem} {rr : Int32} {σr : Mem} (h : f_X10_isDigit a0 σ = some (rr, σr)) : Met l yX10_isDigit [Cond.code yX10_isDigit prog_12_method_13_code 1 (some .boolean)] RM_X10_isDigit (va_Pc [.int a0] (Pre G σ)) (QG G (some (.int rr)) σr) 0 0 (AA G) := by
  refine ct_of (by decide) (fun p e s m below meth c X hP => ?_)
  have hx := X.hx
  have hb := X.hb
  have hS : va_S (AA G) s.heap s.heap [] := va_S.rf
  have hl := lv_entry ([.int a0]) (n := 1) (Nat.le_of_ble_eq_true rfl)
  rw [lg_entry_eq]
  generalize (lg_sl ([.int a0]) ++ List.replicate (1 - (lg_sl ([.int a0])).length) Slot.unset).toArray = ls at hl ⊢
  have hl : lv_has ls 1 [(0, .int a0)] := hl
  unfold f_X10_isDigit at h
  refine lv_iload_n (pc := 0) hx hb dX10_isDigit_0 rfl (lv_at hl 0 rfl) ?_
  refine lv_bipush (pc := 1) (v := (48)) hx hb dX10_isDigit_1 (by decide) ?_
  refine lv_bipush (pc := 3) (v := (57)) hx hb dX10_isDigit_3 (by decide) ?_
  obtain ⟨r3, σ1, e2, h⟩ := bnd2 h
  refine cl_X10_120 X hP hS (As := [.int a0, .int (48 : Int32), .int (57 : Int32)]) (rest := []) (c_X10_in l G  e2) ⟨rfl, rfl, Nat.le_of_ble_eq_true rfl, Nat.le_of_ble_eq_true rfl⟩ rfl hl.1 rfl (Nat.le_of_ble_eq_true rfl) ⟨Nat.zero_le _, Nat.zero_le _⟩ (pc := 5) dX10_isDigit_5 (fun H locs hP hS => ?_)
  change W p l e _ s m _ below meth c H locs _ _ _ (F0 m (5 + 3) ls (.int r3 :: []))
  obtain ⟨g4, h⟩ := grd_inv h
  obtain ⟨rfl, rfl⟩ := inj2 h
  exact r_zret X hP hS g4 dX10_isDigit_8
def F_X10_advance_207 (k0z : Nat) (rec1 : Mem → Option Mem) : Mem → Option Mem := fun  σ =>
  if (gI σ k0z 17) = (2 : Int32) then
    bd2 (f_X10_byteAt k0z (gI σ k0z 19) σ) fun r33 σ31 =>
    bd2 (f_X10_isDigit r33 σ31) fun r36 σ34 =>
    if r36 = (0 : Int32) then
      some σ34
    else
      if (4 : Int32) ≤ ((gI σ34 k0z 19) - (gI σ34 k0z 18)) then
        bd1 (some (pI σ34 k0z 21 (-1 : Int32))) fun σ39 =>
        bd1 (some (pI σ39 k0z 19 ((gI σ39 k0z 19) + (1 : Int32)))) fun σ41 =>
        rec1  σ41
      else
        bd2 (f_X10_byteAt k0z (gI σ34 k0z 19) σ34) fun r45 σ43 =>
        bd1 (some (pI σ43 k0z 21 ((((10 : Int32) * (gI σ34 k0z 21)) + r45) - (48 : Int32)))) fun σ46 =>
        bd1 (some (pI σ46 k0z 19 ((gI σ46 k0z 19) + (1 : Int32)))) fun σ48 =>
        rec1  σ48
  else
    some σ
def F_X10_advance_126 (k0z : Nat) (rec1 : Mem → Option Mem) : Mem → Option Mem := fun  σ =>
  if (gI σ k0z 17) = (1 : Int32) then
    bd2 (f_X10_byteAt k0z (gI σ k0z 19) σ) fun r52 σ50 =>
    bd2 (f_X10_isLetter r52 σ50) fun r55 σ53 =>
    if r55 = (0 : Int32) then
      iterF (F_X10_advance_207 k0z) (fun _ => none) FU  σ53
    else
      if (8 : Int32) ≤ ((gI σ53 k0z 19) - (gI σ53 k0z 18)) then
        bd1 (some (pL σ53 k0z 20 (-1 : Int64))) fun σ58 =>
        bd1 (some (pI σ58 k0z 19 ((gI σ58 k0z 19) + (1 : Int32)))) fun σ60 =>
        rec1  σ60
      else
        bd2 (f_X10_byteAt k0z (gI σ53 k0z 19) σ53) fun r64 σ62 =>
        bd1 (some (pL σ62 k0z 20 ((((27 : Int64) * (gL σ53 k0z 20)) + r64.toInt64) - (96 : Int64)))) fun σ65 =>
        bd1 (some (pI σ65 k0z 19 ((gI σ65 k0z 19) + (1 : Int32)))) fun σ67 =>
        rec1  σ67
  else
    iterF (F_X10_advance_207 k0z) (fun _ => none) FU  σ
def F_X10_advance_83 (k0z : Nat) (s1z : Nat) (v1 : Int32) (σ : Mem) : Option Mem :=
  bd1 (some (pI σ s1z 17 (3 : Int32))) fun σ21 =>
  bd1 (some (pL σ21 k0z 20 (0 : Int64))) fun σ23 =>
  if (gI σ23 k0z 17) = (2 : Int32) then
    bd1 (some (pI σ23 k0z 21 (0 : Int32))) fun σ71 =>
    if (gI σ71 k0z 17) = (3 : Int32) then
      bd1 (some (pI σ71 k0z 19 ((gI σ71 k0z 19) + (1 : Int32)))) fun σ74 =>
      iterF (F_X10_advance_126 k0z) (fun _ => none) FU  σ74
    else
      iterF (F_X10_advance_126 k0z) (fun _ => none) FU  σ71
  else
    bd1 (some (pI σ23 k0z 21 v1)) fun σ26 =>
    if (gI σ26 k0z 17) = (3 : Int32) then
      bd1 (some (pI σ26 k0z 19 ((gI σ26 k0z 19) + (1 : Int32)))) fun σ69 =>
      iterF (F_X10_advance_126 k0z) (fun _ => none) FU  σ69
    else
      iterF (F_X10_advance_126 k0z) (fun _ => none) FU  σ26
def F_X10_advance_83x1 (k0z : Nat) (s1z : Nat) (v1 : Int32) (σ : Mem) : Option Mem :=
  bd1 (some (pI σ s1z 17 (2 : Int32))) fun σ76 =>
  bd1 (some (pL σ76 k0z 20 (0 : Int64))) fun σ78 =>
  if (gI σ78 k0z 17) = (2 : Int32) then
    bd1 (some (pI σ78 k0z 21 (0 : Int32))) fun σ86 =>
    if (gI σ86 k0z 17) = (3 : Int32) then
      bd1 (some (pI σ86 k0z 19 ((gI σ86 k0z 19) + (1 : Int32)))) fun σ89 =>
      iterF (F_X10_advance_126 k0z) (fun _ => none) FU  σ89
    else
      iterF (F_X10_advance_126 k0z) (fun _ => none) FU  σ86
  else
    bd1 (some (pI σ78 k0z 21 v1)) fun σ81 =>
    if (gI σ81 k0z 17) = (3 : Int32) then
      bd1 (some (pI σ81 k0z 19 ((gI σ81 k0z 19) + (1 : Int32)))) fun σ84 =>
      iterF (F_X10_advance_126 k0z) (fun _ => none) FU  σ84
    else
      iterF (F_X10_advance_126 k0z) (fun _ => none) FU  σ81
def F_X10_advance_83x2 (k0z : Nat) (s1z : Nat) (v1 : Int32) (σ : Mem) : Option Mem :=
  bd1 (some (pI σ s1z 17 (1 : Int32))) fun σ91 =>
  bd1 (some (pL σ91 k0z 20 (0 : Int64))) fun σ93 =>
  if (gI σ93 k0z 17) = (2 : Int32) then
    bd1 (some (pI σ93 k0z 21 (0 : Int32))) fun σ101 =>
    if (gI σ101 k0z 17) = (3 : Int32) then
      bd1 (some (pI σ101 k0z 19 ((gI σ101 k0z 19) + (1 : Int32)))) fun σ104 =>
      iterF (F_X10_advance_126 k0z) (fun _ => none) FU  σ104
    else
      iterF (F_X10_advance_126 k0z) (fun _ => none) FU  σ101
  else
    bd1 (some (pI σ93 k0z 21 v1)) fun σ96 =>
    if (gI σ96 k0z 17) = (3 : Int32) then
      bd1 (some (pI σ96 k0z 19 ((gI σ96 k0z 19) + (1 : Int32)))) fun σ99 =>
      iterF (F_X10_advance_126 k0z) (fun _ => none) FU  σ99
    else
      iterF (F_X10_advance_126 k0z) (fun _ => none) FU  σ96
def F_X10_advance_83x3 (k0z : Nat) (s1z : Nat) (v1 : Int32) (σ : Mem) : Option Mem :=
  bd1 (some (pI σ s1z 17 (0 : Int32))) fun σ106 =>
  bd1 (some (pL σ106 k0z 20 (0 : Int64))) fun σ108 =>
  if (gI σ108 k0z 17) = (2 : Int32) then
    bd1 (some (pI σ108 k0z 21 (0 : Int32))) fun σ116 =>
    if (gI σ116 k0z 17) = (3 : Int32) then
      bd1 (some (pI σ116 k0z 19 ((gI σ116 k0z 19) + (1 : Int32)))) fun σ119 =>
      iterF (F_X10_advance_126 k0z) (fun _ => none) FU  σ119
    else
      iterF (F_X10_advance_126 k0z) (fun _ => none) FU  σ116
  else
    bd1 (some (pI σ108 k0z 21 v1)) fun σ111 =>
    if (gI σ111 k0z 17) = (3 : Int32) then
      bd1 (some (pI σ111 k0z 19 ((gI σ111 k0z 19) + (1 : Int32)))) fun σ114 =>
      iterF (F_X10_advance_126 k0z) (fun _ => none) FU  σ114
    else
      iterF (F_X10_advance_126 k0z) (fun _ => none) FU  σ111
def F_X10_advance_8 (k0z : Nat) (rec1 : Mem → Option Mem) : Mem → Option Mem := fun  σ =>
  bd2 (f_X10_byteAt k0z (gI σ k0z 18) σ) fun r5 σ3 =>
  if r5 = (32 : Int32) then
    bd1 (some (pI σ3 k0z 18 ((gI σ3 k0z 18) + (1 : Int32)))) fun σ121 =>
    rec1  σ121
  else
    bd1 (some (pI σ3 k0z 19 (gI σ3 k0z 18))) fun σ7 =>
    bd2 (f_X10_byteAt k0z (gI σ7 k0z 18) σ7) fun r11 σ9 =>
    if (0 : Int32) ≤ r11 then
      bd2 (f_X10_isLetter r11 σ9) fun r15 σ13 =>
      if r15 = (0 : Int32) then
        bd2 (f_X10_isDigit r11 σ13) fun r19 σ17 =>
        if r19 = (0 : Int32) then
          F_X10_advance_83 k0z k0z r11 σ17
        else
          F_X10_advance_83x1 k0z k0z r11 σ17
      else
        F_X10_advance_83x2 k0z k0z r11 σ13
    else
      F_X10_advance_83x3 k0z k0z r11 σ9
def f_X10_advance (k0 : Nat) (σ : Mem) : Option Mem :=
  bd1 (some (pI σ k0 18 (gI σ k0 19))) fun σ1 =>
  iterF (F_X10_advance_8 k0) (fun _ => none) FU  σ1
abbrev RM_X10_advance : Room := { frames := 2, cells := 0, slots := 0, locals := 42 }
set_option maxHeartbeats 4000000 in
set_option maxRecDepth 100000 in
theorem w_X10_advance_207 {l : Launch} {G : Gh} {p : Program} {e : Env} {s : State} {m : MethodId} {args : Array Value} {below : List Frame} {meth : Method} {c : Code} (X : Cx G p s m args meth c prog_12_method_14_code RX10 2 none) {k0z : Nat} (hz0 : kd k0z = 10) {σr : Mem} : ∀ (n : Nat) (σ : Mem) (H : Heap) (locs : List Loc) (ls : Array Slot), PW G σ H → va_S (AA G) s.heap H locs → lv_has ls 2 [(0, .ref (ga G k0z))] → iterF (F_X10_advance_207 k0z) (fun _ => none) n  σ = some σr → W p l e RM_X10_advance s m args below meth c H locs 0 0 (MQ below (QG G none σr) args s 0 0 (AA G)) (F0 m 207 ls []) := by
  have hx := X.hx
  have hb := X.hb
  intro n
  induction n with
  | zero => intro  σ H locs ls hP hS hl h; exact nnone (α := Mem) h
  | succ n ih1 =>
    intro  σ H locs ls hP hS hl h
    have h : F_X10_advance_207 k0z (iterF (F_X10_advance_207 k0z) (fun _ => none) n)  σ = some _ := h
    unfold F_X10_advance_207 at h
    refine lv_aload_n (pc := 207) hx hb dX10_advance_207 rfl (lv_at hl 0 rfl) ?_
    refine gt_X10_155 X hP hz0 dX10_advance_208 ?_
    refine lv_iconst (pc := 211) (v := 2) hx hb dX10_advance_211 (by decide) ?_
    refine lv_icmp_ne (pc := 212) (tgt := 282) hx hb dX10_advance_212 (by decide) (fun c30 => ?_) (fun c30 => ?_)
    · have h := ineg c30 h
      obtain rfl := Option.some.inj h
      exact r_vret X hP hS dX10_advance_282
    · have h := ipos c30 h
      refine lv_aload_n (pc := 215) hx hb dX10_advance_215 rfl (lv_at hl 0 rfl) ?_
      refine lv_aload_n (pc := 216) hx hb dX10_advance_216 rfl (lv_at hl 0 rfl) ?_
      refine gt_X10_139 X hP hz0 dX10_advance_217 ?_
      obtain ⟨r33, σ31, e32, h⟩ := bnd2 h
      refine cl_X10_145 X hP hS hz0 (As := [.int (gI σ k0z 19)]) (rest := []) (c_X10_byteAt l G hz0 e32) ⟨rfl, rfl, Nat.le_of_ble_eq_true rfl, Nat.le_of_ble_eq_true rfl⟩ rfl hl.1 rfl (Nat.le_of_ble_eq_true rfl) ⟨Nat.zero_le _, Nat.zero_le _⟩ (pc := 220) dX10_advance_220 (fun H locs hP hS => ?_)
      change W p l e _ s m _ below meth c H locs _ _ _ (F0 m (220 + 3) ls (.int r33 :: []))
      obtain ⟨r36, σ34, e35, h⟩ := bnd2 h
      refine cl_X10_152 X hP hS (As := [.int r33]) (rest := []) (c_X10_isDigit l G  e35) ⟨rfl, rfl, Nat.le_of_ble_eq_true rfl, Nat.le_of_ble_eq_true rfl⟩ rfl hl.1 rfl (Nat.le_of_ble_eq_true rfl) ⟨Nat.zero_le _, Nat.zero_le _⟩ (pc := 223) dX10_advance_223 (fun H locs hP hS => ?_)
      change W p l e _ s m _ below meth c H locs _ _ _ (F0 m (223 + 3) ls (.int r36 :: []))
      refine lv_if_eq (pc := 226) (tgt := 282) hx hb dX10_advance_226 (by decide) (fun c37 => ?_) (fun c37 => ?_)
      · have h := ipos c37 h
        obtain rfl := Option.some.inj h
        exact r_vret X hP hS dX10_advance_282
      · have h := ineg c37 h
        refine lv_aload_n (pc := 229) hx hb dX10_advance_229 rfl (lv_at hl 0 rfl) ?_
        refine lv_aload_n (pc := 230) hx hb dX10_advance_230 rfl (lv_at hl 0 rfl) ?_
        refine gt_X10_139 X hP hz0 dX10_advance_231 ?_
        refine lv_aload_n (pc := 234) hx hb dX10_advance_234 rfl (lv_at hl 0 rfl) ?_
        refine gt_X10_142 X hP hz0 dX10_advance_235 ?_
        refine lv_isub (pc := 238) hx hb dX10_advance_238 ?_
        refine lv_iconst (pc := 239) (v := 4) hx hb dX10_advance_239 (by decide) ?_
        refine lv_icmp_ge (pc := 240) (tgt := 265) hx hb dX10_advance_240 (by decide) (fun c38 => ?_) (fun c38 => ?_)
        · have h := ipos c38 h
          refine lv_iconst (pc := 265) (v := (-1)) hx hb dX10_advance_265 (by decide) ?_
          obtain ⟨σ39, e40, h⟩ := bnd1 h
          refine pt_X10_162 X hP hS hz0 dX10_advance_266 (fun H locs hP hS => ?_)
          rw [Option.some.inj e40] at hP
          refine lv_aload_n (pc := 269) hx hb dX10_advance_269 rfl (lv_at hl 0 rfl) ?_
          refine lv_dup (pc := 270) hx hb dX10_advance_270 rfl ?_
          refine gt_X10_139 X hP hz0 dX10_advance_271 ?_
          refine lv_iconst (pc := 274) (v := 1) hx hb dX10_advance_274 (by decide) ?_
          refine lv_iadd (pc := 275) hx hb dX10_advance_275 ?_
          obtain ⟨σ41, e42, h⟩ := bnd1 h
          refine pt_X10_139 X hP hS hz0 dX10_advance_276 (fun H locs hP hS => ?_)
          rw [Option.some.inj e42] at hP
          refine lv_goto (pc := 279) (tgt := 207) hx hb dX10_advance_279 (by decide) ?_
          exact ih1  _ _ _ _ hP hS (lv_sub hl [0] rfl) h
        · have h := ineg c38 h
          refine lv_bipush (pc := 243) (v := (10)) hx hb dX10_advance_243 (by decide) ?_
          refine lv_aload_n (pc := 245) hx hb dX10_advance_245 rfl (lv_at hl 0 rfl) ?_
          refine gt_X10_162 X hP hz0 dX10_advance_246 ?_
          refine lv_imul (pc := 249) hx hb dX10_advance_249 ?_
          refine lv_aload_n (pc := 250) hx hb dX10_advance_250 rfl (lv_at hl 0 rfl) ?_
          refine lv_aload_n (pc := 251) hx hb dX10_advance_251 rfl (lv_at hl 0 rfl) ?_
          refine gt_X10_139 X hP hz0 dX10_advance_252 ?_
          obtain ⟨r45, σ43, e44, h⟩ := bnd2 h
          refine cl_X10_145 X hP hS hz0 (As := [.int (gI σ34 k0z 19)]) (rest := [.int ((10 : Int32) * (gI σ34 k0z 21)), .ref (ga G k0z)]) (c_X10_byteAt l G hz0 e44) ⟨rfl, rfl, Nat.le_of_ble_eq_true rfl, Nat.le_of_ble_eq_true rfl⟩ rfl hl.1 rfl (Nat.le_of_ble_eq_true rfl) ⟨Nat.zero_le _, Nat.zero_le _⟩ (pc := 255) dX10_advance_255 (fun H locs hP hS => ?_)
          change W p l e _ s m _ below meth c H locs _ _ _ (F0 m (255 + 3) ls (.int r45 :: [.int ((10 : Int32) * (gI σ34 k0z 21)), .ref (ga G k0z)]))
          refine lv_iadd (pc := 258) hx hb dX10_advance_258 ?_
          refine lv_bipush (pc := 259) (v := (48)) hx hb dX10_advance_259 (by decide) ?_
          refine lv_isub (pc := 261) hx hb dX10_advance_261 ?_
          refine lv_goto (pc := 262) (tgt := 266) hx hb dX10_advance_262 (by decide) ?_
          obtain ⟨σ46, e47, h⟩ := bnd1 h
          refine pt_X10_162 X hP hS hz0 dX10_advance_266 (fun H locs hP hS => ?_)
          rw [Option.some.inj e47] at hP
          refine lv_aload_n (pc := 269) hx hb dX10_advance_269 rfl (lv_at hl 0 rfl) ?_
          refine lv_dup (pc := 270) hx hb dX10_advance_270 rfl ?_
          refine gt_X10_139 X hP hz0 dX10_advance_271 ?_
          refine lv_iconst (pc := 274) (v := 1) hx hb dX10_advance_274 (by decide) ?_
          refine lv_iadd (pc := 275) hx hb dX10_advance_275 ?_
          obtain ⟨σ48, e49, h⟩ := bnd1 h
          refine pt_X10_139 X hP hS hz0 dX10_advance_276 (fun H locs hP hS => ?_)
          rw [Option.some.inj e49] at hP
          refine lv_goto (pc := 279) (tgt := 207) hx hb dX10_advance_279 (by decide) ?_
          exact ih1  _ _ _ _ hP hS (lv_sub hl [0] rfl) h
set_option maxHeartbeats 4000000 in
set_option maxRecDepth 100000 in
theorem w_X10_advance_126 {l : Launch} {G : Gh} {p : Program} {e : Env} {s : State} {m : MethodId} {args : Array Value} {below : List Frame} {meth : Method} {c : Code} (X : Cx G p s m args meth c prog_12_method_14_code RX10 2 none) {k0z : Nat} (hz0 : kd k0z = 10) {σr : Mem} : ∀ (n : Nat) (σ : Mem) (H : Heap) (locs : List Loc) (ls : Array Slot), PW G σ H → va_S (AA G) s.heap H locs → lv_has ls 2 [(0, .ref (ga G k0z))] → iterF (F_X10_advance_126 k0z) (fun _ => none) n  σ = some σr → W p l e RM_X10_advance s m args below meth c H locs 0 0 (MQ below (QG G none σr) args s 0 0 (AA G)) (F0 m 126 ls []) := by
  have hx := X.hx
  have hb := X.hb
  intro n
  induction n with
  | zero => intro  σ H locs ls hP hS hl h; exact nnone (α := Mem) h
  | succ n ih1 =>
    intro  σ H locs ls hP hS hl h
    have h : F_X10_advance_126 k0z (iterF (F_X10_advance_126 k0z) (fun _ => none) n)  σ = some _ := h
    unfold F_X10_advance_126 at h
    refine lv_aload_n (pc := 126) hx hb dX10_advance_126 rfl (lv_at hl 0 rfl) ?_
    refine gt_X10_155 X hP hz0 dX10_advance_127 ?_
    refine lv_iconst (pc := 130) (v := 1) hx hb dX10_advance_130 (by decide) ?_
    refine lv_icmp_ne (pc := 131) (tgt := 207) hx hb dX10_advance_131 (by decide) (fun c29 => ?_) (fun c29 => ?_)
    · have h := ineg c29 h
      exact w_X10_advance_207 X  hz0  FU  _ _ _ _ hP hS (lv_sub hl [0] rfl) h
    · have h := ipos c29 h
      refine lv_aload_n (pc := 134) hx hb dX10_advance_134 rfl (lv_at hl 0 rfl) ?_
      refine lv_aload_n (pc := 135) hx hb dX10_advance_135 rfl (lv_at hl 0 rfl) ?_
      refine gt_X10_139 X hP hz0 dX10_advance_136 ?_
      obtain ⟨r52, σ50, e51, h⟩ := bnd2 h
      refine cl_X10_145 X hP hS hz0 (As := [.int (gI σ k0z 19)]) (rest := []) (c_X10_byteAt l G hz0 e51) ⟨rfl, rfl, Nat.le_of_ble_eq_true rfl, Nat.le_of_ble_eq_true rfl⟩ rfl hl.1 rfl (Nat.le_of_ble_eq_true rfl) ⟨Nat.zero_le _, Nat.zero_le _⟩ (pc := 139) dX10_advance_139 (fun H locs hP hS => ?_)
      change W p l e _ s m _ below meth c H locs _ _ _ (F0 m (139 + 3) ls (.int r52 :: []))
      obtain ⟨r55, σ53, e54, h⟩ := bnd2 h
      refine cl_X10_149 X hP hS (As := [.int r52]) (rest := []) (c_X10_isLetter l G  e54) ⟨rfl, rfl, Nat.le_of_ble_eq_true rfl, Nat.le_of_ble_eq_true rfl⟩ rfl hl.1 rfl (Nat.le_of_ble_eq_true rfl) ⟨Nat.zero_le _, Nat.zero_le _⟩ (pc := 142) dX10_advance_142 (fun H locs hP hS => ?_)
      change W p l e _ s m _ below meth c H locs _ _ _ (F0 m (142 + 3) ls (.int r55 :: []))
      refine lv_if_eq (pc := 145) (tgt := 207) hx hb dX10_advance_145 (by decide) (fun c56 => ?_) (fun c56 => ?_)
      · have h := ipos c56 h
        exact w_X10_advance_207 X  hz0  FU  _ _ _ _ hP hS (lv_sub hl [0] rfl) h
      · have h := ineg c56 h
        refine lv_aload_n (pc := 148) hx hb dX10_advance_148 rfl (lv_at hl 0 rfl) ?_
        refine lv_aload_n (pc := 149) hx hb dX10_advance_149 rfl (lv_at hl 0 rfl) ?_
        refine gt_X10_139 X hP hz0 dX10_advance_150 ?_
        refine lv_aload_n (pc := 153) hx hb dX10_advance_153 rfl (lv_at hl 0 rfl) ?_
        refine gt_X10_142 X hP hz0 dX10_advance_154 ?_
        refine lv_isub (pc := 157) hx hb dX10_advance_157 ?_
        refine lv_bipush (pc := 158) (v := (8)) hx hb dX10_advance_158 (by decide) ?_
        refine lv_icmp_ge (pc := 160) (tgt := 188) hx hb dX10_advance_160 (by decide) (fun c57 => ?_) (fun c57 => ?_)
        · have h := ipos c57 h
          refine lv_ldc2 (pc := 188) (v := (-1)) hx hb X.hown (X.tb tw_1200 rfl) dX10_advance_188 ?_
          obtain ⟨σ58, e59, h⟩ := bnd1 h
          refine pt_X10_158 X hP hS hz0 dX10_advance_191 (fun H locs hP hS => ?_)
          rw [Option.some.inj e59] at hP
          refine lv_aload_n (pc := 194) hx hb dX10_advance_194 rfl (lv_at hl 0 rfl) ?_
          refine lv_dup (pc := 195) hx hb dX10_advance_195 rfl ?_
          refine gt_X10_139 X hP hz0 dX10_advance_196 ?_
          refine lv_iconst (pc := 199) (v := 1) hx hb dX10_advance_199 (by decide) ?_
          refine lv_iadd (pc := 200) hx hb dX10_advance_200 ?_
          obtain ⟨σ60, e61, h⟩ := bnd1 h
          refine pt_X10_139 X hP hS hz0 dX10_advance_201 (fun H locs hP hS => ?_)
          rw [Option.some.inj e61] at hP
          refine lv_goto (pc := 204) (tgt := 126) hx hb dX10_advance_204 (by decide) ?_
          exact ih1  _ _ _ _ hP hS (lv_sub hl [0] rfl) h
        · have h := ineg c57 h
          refine lv_ldc2 (pc := 163) (v := (27)) hx hb X.hown (X.tb tw_1198 rfl) dX10_advance_163 ?_
          refine lv_aload_n (pc := 166) hx hb dX10_advance_166 rfl (lv_at hl 0 rfl) ?_
          refine gt_X10_158 X hP hz0 dX10_advance_167 ?_
          refine lv_lmul (pc := 170) hx hb dX10_advance_170 ?_
          refine lv_aload_n (pc := 171) hx hb dX10_advance_171 rfl (lv_at hl 0 rfl) ?_
          refine lv_aload_n (pc := 172) hx hb dX10_advance_172 rfl (lv_at hl 0 rfl) ?_
          refine gt_X10_139 X hP hz0 dX10_advance_173 ?_
          obtain ⟨r64, σ62, e63, h⟩ := bnd2 h
          refine cl_X10_145 X hP hS hz0 (As := [.int (gI σ53 k0z 19)]) (rest := [.long ((27 : Int64) * (gL σ53 k0z 20)), .ref (ga G k0z)]) (c_X10_byteAt l G hz0 e63) ⟨rfl, rfl, Nat.le_of_ble_eq_true rfl, Nat.le_of_ble_eq_true rfl⟩ rfl hl.1 rfl (Nat.le_of_ble_eq_true rfl) ⟨Nat.zero_le _, Nat.zero_le _⟩ (pc := 176) dX10_advance_176 (fun H locs hP hS => ?_)
          change W p l e _ s m _ below meth c H locs _ _ _ (F0 m (176 + 3) ls (.int r64 :: [.long ((27 : Int64) * (gL σ53 k0z 20)), .ref (ga G k0z)]))
          refine lv_i2l (pc := 179) (v := r64.toInt64) hx hb dX10_advance_179 rfl ?_
          refine lv_ladd (pc := 180) hx hb dX10_advance_180 ?_
          refine lv_ldc2 (pc := 181) (v := (96)) hx hb X.hown (X.tb tw_1199 rfl) dX10_advance_181 ?_
          refine lv_lsub (pc := 184) hx hb dX10_advance_184 ?_
          refine lv_goto (pc := 185) (tgt := 191) hx hb dX10_advance_185 (by decide) ?_
          obtain ⟨σ65, e66, h⟩ := bnd1 h
          refine pt_X10_158 X hP hS hz0 dX10_advance_191 (fun H locs hP hS => ?_)
          rw [Option.some.inj e66] at hP
          refine lv_aload_n (pc := 194) hx hb dX10_advance_194 rfl (lv_at hl 0 rfl) ?_
          refine lv_dup (pc := 195) hx hb dX10_advance_195 rfl ?_
          refine gt_X10_139 X hP hz0 dX10_advance_196 ?_
          refine lv_iconst (pc := 199) (v := 1) hx hb dX10_advance_199 (by decide) ?_
          refine lv_iadd (pc := 200) hx hb dX10_advance_200 ?_
          obtain ⟨σ67, e68, h⟩ := bnd1 h
          refine pt_X10_139 X hP hS hz0 dX10_advance_201 (fun H locs hP hS => ?_)
          rw [Option.some.inj e68] at hP
          refine lv_goto (pc := 204) (tgt := 126) hx hb dX10_advance_204 (by decide) ?_
          exact ih1  _ _ _ _ hP hS (lv_sub hl [0] rfl) h
set_option maxHeartbeats 4000000 in
set_option maxRecDepth 100000 in
theorem w_X10_advance_83 {l : Launch} {G : Gh} {p : Program} {e : Env} {s : State} {m : MethodId} {args : Array Value} {below : List Frame} {meth : Method} {c : Code} (X : Cx G p s m args meth c prog_12_method_14_code RX10 2 none) {k0z : Nat} {s1z : Nat} (hz0 : kd k0z = 10) (hs1 : kd s1z = 10) {σr : Mem} : ∀ (v1 : Int32) (σ : Mem) (H : Heap) (locs : List Loc) (ls : Array Slot), PW G σ H → va_S (AA G) s.heap H locs → lv_has ls 2 [(0, .ref (ga G k0z)), (1, .int v1)] → F_X10_advance_83 k0z s1z v1 σ = some σr → W p l e RM_X10_advance s m args below meth c H locs 0 0 (MQ below (QG G none σr) args s 0 0 (AA G)) (F0 m 83 ls [.int (3 : Int32), .ref (ga G s1z)]) := by
  have hx := X.hx
  have hb := X.hb
  intro v1 σ H locs ls hP hS hl h
  unfold F_X10_advance_83 at h
  obtain ⟨σ21, e22, h⟩ := bnd1 h
  refine pt_X10_155 X hP hS hs1 dX10_advance_83 (fun H locs hP hS => ?_)
  rw [Option.some.inj e22] at hP
  refine lv_aload_n (pc := 86) hx hb dX10_advance_86 rfl (lv_at hl 0 rfl) ?_
  refine lv_lconst (pc := 87) (v := 0) hx hb dX10_advance_87 (by decide) ?_
  obtain ⟨σ23, e24, h⟩ := bnd1 h
  refine pt_X10_158 X hP hS hz0 dX10_advance_88 (fun H locs hP hS => ?_)
  rw [Option.some.inj e24] at hP
  refine lv_aload_n (pc := 91) hx hb dX10_advance_91 rfl (lv_at hl 0 rfl) ?_
  refine lv_aload_n (pc := 92) hx hb dX10_advance_92 rfl (lv_at hl 0 rfl) ?_
  refine gt_X10_155 X hP hz0 dX10_advance_93 ?_
  refine lv_iconst (pc := 96) (v := 2) hx hb dX10_advance_96 (by decide) ?_
  refine lv_icmp_ne (pc := 97) (tgt := 104) hx hb dX10_advance_97 (by decide) (fun c25 => ?_) (fun c25 => ?_)
  · have h := ineg c25 h
    refine lv_iload_n (pc := 104) hx hb dX10_advance_104 rfl (lv_at hl 1 rfl) ?_
    obtain ⟨σ26, e27, h⟩ := bnd1 h
    refine pt_X10_162 X hP hS hz0 dX10_advance_105 (fun H locs hP hS => ?_)
    rw [Option.some.inj e27] at hP
    refine lv_aload_n (pc := 108) hx hb dX10_advance_108 rfl (lv_at hl 0 rfl) ?_
    refine gt_X10_155 X hP hz0 dX10_advance_109 ?_
    refine lv_iconst (pc := 112) (v := 3) hx hb dX10_advance_112 (by decide) ?_
    refine lv_icmp_ne (pc := 113) (tgt := 126) hx hb dX10_advance_113 (by decide) (fun c28 => ?_) (fun c28 => ?_)
    · have h := ineg c28 h
      exact w_X10_advance_126 X  hz0  FU  _ _ _ _ hP hS (lv_sub hl [0] rfl) h
    · have h := ipos c28 h
      refine lv_aload_n (pc := 116) hx hb dX10_advance_116 rfl (lv_at hl 0 rfl) ?_
      refine lv_dup (pc := 117) hx hb dX10_advance_117 rfl ?_
      refine gt_X10_139 X hP hz0 dX10_advance_118 ?_
      refine lv_iconst (pc := 121) (v := 1) hx hb dX10_advance_121 (by decide) ?_
      refine lv_iadd (pc := 122) hx hb dX10_advance_122 ?_
      obtain ⟨σ69, e70, h⟩ := bnd1 h
      refine pt_X10_139 X hP hS hz0 dX10_advance_123 (fun H locs hP hS => ?_)
      rw [Option.some.inj e70] at hP
      exact w_X10_advance_126 X  hz0  FU  _ _ _ _ hP hS (lv_sub hl [0] rfl) h
  · have h := ipos c25 h
    refine lv_iconst (pc := 100) (v := 0) hx hb dX10_advance_100 (by decide) ?_
    refine lv_goto (pc := 101) (tgt := 105) hx hb dX10_advance_101 (by decide) ?_
    obtain ⟨σ71, e72, h⟩ := bnd1 h
    refine pt_X10_162 X hP hS hz0 dX10_advance_105 (fun H locs hP hS => ?_)
    rw [Option.some.inj e72] at hP
    refine lv_aload_n (pc := 108) hx hb dX10_advance_108 rfl (lv_at hl 0 rfl) ?_
    refine gt_X10_155 X hP hz0 dX10_advance_109 ?_
    refine lv_iconst (pc := 112) (v := 3) hx hb dX10_advance_112 (by decide) ?_
    refine lv_icmp_ne (pc := 113) (tgt := 126) hx hb dX10_advance_113 (by decide) (fun c73 => ?_) (fun c73 => ?_)
    · have h := ineg c73 h
      exact w_X10_advance_126 X  hz0  FU  _ _ _ _ hP hS (lv_sub hl [0] rfl) h
    · have h := ipos c73 h
      refine lv_aload_n (pc := 116) hx hb dX10_advance_116 rfl (lv_at hl 0 rfl) ?_
      refine lv_dup (pc := 117) hx hb dX10_advance_117 rfl ?_
      refine gt_X10_139 X hP hz0 dX10_advance_118 ?_
      refine lv_iconst (pc := 121) (v := 1) hx hb dX10_advance_121 (by decide) ?_
      refine lv_iadd (pc := 122) hx hb dX10_advance_122 ?_
      obtain ⟨σ74, e75, h⟩ := bnd1 h
      refine pt_X10_139 X hP hS hz0 dX10_advance_123 (fun H locs hP hS => ?_)
      rw [Option.some.inj e75] at hP
      exact w_X10_advance_126 X  hz0  FU  _ _ _ _ hP hS (lv_sub hl [0] rfl) h
set_option maxHeartbeats 4000000 in
set_option maxRecDepth 100000 in
theorem w_X10_advance_83x1 {l : Launch} {G : Gh} {p : Program} {e : Env} {s : State} {m : MethodId} {args : Array Value} {below : List Frame} {meth : Method} {c : Code} (X : Cx G p s m args meth c prog_12_method_14_code RX10 2 none) {k0z : Nat} {s1z : Nat} (hz0 : kd k0z = 10) (hs1 : kd s1z = 10) {σr : Mem} : ∀ (v1 : Int32) (σ : Mem) (H : Heap) (locs : List Loc) (ls : Array Slot), PW G σ H → va_S (AA G) s.heap H locs → lv_has ls 2 [(0, .ref (ga G k0z)), (1, .int v1)] → F_X10_advance_83x1 k0z s1z v1 σ = some σr → W p l e RM_X10_advance s m args below meth c H locs 0 0 (MQ below (QG G none σr) args s 0 0 (AA G)) (F0 m 83 ls [.int (2 : Int32), .ref (ga G s1z)]) := by
  have hx := X.hx
  have hb := X.hb
  intro v1 σ H locs ls hP hS hl h
  unfold F_X10_advance_83x1 at h
  obtain ⟨σ76, e77, h⟩ := bnd1 h
  refine pt_X10_155 X hP hS hs1 dX10_advance_83 (fun H locs hP hS => ?_)
  rw [Option.some.inj e77] at hP
  refine lv_aload_n (pc := 86) hx hb dX10_advance_86 rfl (lv_at hl 0 rfl) ?_
  refine lv_lconst (pc := 87) (v := 0) hx hb dX10_advance_87 (by decide) ?_
  obtain ⟨σ78, e79, h⟩ := bnd1 h
  refine pt_X10_158 X hP hS hz0 dX10_advance_88 (fun H locs hP hS => ?_)
  rw [Option.some.inj e79] at hP
  refine lv_aload_n (pc := 91) hx hb dX10_advance_91 rfl (lv_at hl 0 rfl) ?_
  refine lv_aload_n (pc := 92) hx hb dX10_advance_92 rfl (lv_at hl 0 rfl) ?_
  refine gt_X10_155 X hP hz0 dX10_advance_93 ?_
  refine lv_iconst (pc := 96) (v := 2) hx hb dX10_advance_96 (by decide) ?_
  refine lv_icmp_ne (pc := 97) (tgt := 104) hx hb dX10_advance_97 (by decide) (fun c80 => ?_) (fun c80 => ?_)
  · have h := ineg c80 h
    refine lv_iload_n (pc := 104) hx hb dX10_advance_104 rfl (lv_at hl 1 rfl) ?_
    obtain ⟨σ81, e82, h⟩ := bnd1 h
    refine pt_X10_162 X hP hS hz0 dX10_advance_105 (fun H locs hP hS => ?_)
    rw [Option.some.inj e82] at hP
    refine lv_aload_n (pc := 108) hx hb dX10_advance_108 rfl (lv_at hl 0 rfl) ?_
    refine gt_X10_155 X hP hz0 dX10_advance_109 ?_
    refine lv_iconst (pc := 112) (v := 3) hx hb dX10_advance_112 (by decide) ?_
    refine lv_icmp_ne (pc := 113) (tgt := 126) hx hb dX10_advance_113 (by decide) (fun c83 => ?_) (fun c83 => ?_)
    · have h := ineg c83 h
      exact w_X10_advance_126 X  hz0  FU  _ _ _ _ hP hS (lv_sub hl [0] rfl) h
    · have h := ipos c83 h
      refine lv_aload_n (pc := 116) hx hb dX10_advance_116 rfl (lv_at hl 0 rfl) ?_
      refine lv_dup (pc := 117) hx hb dX10_advance_117 rfl ?_
      refine gt_X10_139 X hP hz0 dX10_advance_118 ?_
      refine lv_iconst (pc := 121) (v := 1) hx hb dX10_advance_121 (by decide) ?_
      refine lv_iadd (pc := 122) hx hb dX10_advance_122 ?_
      obtain ⟨σ84, e85, h⟩ := bnd1 h
      refine pt_X10_139 X hP hS hz0 dX10_advance_123 (fun H locs hP hS => ?_)
      rw [Option.some.inj e85] at hP
      exact w_X10_advance_126 X  hz0  FU  _ _ _ _ hP hS (lv_sub hl [0] rfl) h
  · have h := ipos c80 h
    refine lv_iconst (pc := 100) (v := 0) hx hb dX10_advance_100 (by decide) ?_
    refine lv_goto (pc := 101) (tgt := 105) hx hb dX10_advance_101 (by decide) ?_
    obtain ⟨σ86, e87, h⟩ := bnd1 h
    refine pt_X10_162 X hP hS hz0 dX10_advance_105 (fun H locs hP hS => ?_)
    rw [Option.some.inj e87] at hP
    refine lv_aload_n (pc := 108) hx hb dX10_advance_108 rfl (lv_at hl 0 rfl) ?_
    refine gt_X10_155 X hP hz0 dX10_advance_109 ?_
    refine lv_iconst (pc := 112) (v := 3) hx hb dX10_advance_112 (by decide) ?_
    refine lv_icmp_ne (pc := 113) (tgt := 126) hx hb dX10_advance_113 (by decide) (fun c88 => ?_) (fun c88 => ?_)
    · have h := ineg c88 h
      exact w_X10_advance_126 X  hz0  FU  _ _ _ _ hP hS (lv_sub hl [0] rfl) h
    · have h := ipos c88 h
      refine lv_aload_n (pc := 116) hx hb dX10_advance_116 rfl (lv_at hl 0 rfl) ?_
      refine lv_dup (pc := 117) hx hb dX10_advance_117 rfl ?_
      refine gt_X10_139 X hP hz0 dX10_advance_118 ?_
      refine lv_iconst (pc := 121) (v := 1) hx hb dX10_advance_121 (by decide) ?_
      refine lv_iadd (pc := 122) hx hb dX10_advance_122 ?_
      obtain ⟨σ89, e90, h⟩ := bnd1 h
      refine pt_X10_139 X hP hS hz0 dX10_advance_123 (fun H locs hP hS => ?_)
      rw [Option.some.inj e90] at hP
      exact w_X10_advance_126 X  hz0  FU  _ _ _ _ hP hS (lv_sub hl [0] rfl) h
set_option maxHeartbeats 4000000 in
set_option maxRecDepth 100000 in
theorem w_X10_advance_83x2 {l : Launch} {G : Gh} {p : Program} {e : Env} {s : State} {m : MethodId} {args : Array Value} {below : List Frame} {meth : Method} {c : Code} (X : Cx G p s m args meth c prog_12_method_14_code RX10 2 none) {k0z : Nat} {s1z : Nat} (hz0 : kd k0z = 10) (hs1 : kd s1z = 10) {σr : Mem} : ∀ (v1 : Int32) (σ : Mem) (H : Heap) (locs : List Loc) (ls : Array Slot), PW G σ H → va_S (AA G) s.heap H locs → lv_has ls 2 [(0, .ref (ga G k0z)), (1, .int v1)] → F_X10_advance_83x2 k0z s1z v1 σ = some σr → W p l e RM_X10_advance s m args below meth c H locs 0 0 (MQ below (QG G none σr) args s 0 0 (AA G)) (F0 m 83 ls [.int (1 : Int32), .ref (ga G s1z)]) := by
  have hx := X.hx
  have hb := X.hb
  intro v1 σ H locs ls hP hS hl h
  unfold F_X10_advance_83x2 at h
  obtain ⟨σ91, e92, h⟩ := bnd1 h
  refine pt_X10_155 X hP hS hs1 dX10_advance_83 (fun H locs hP hS => ?_)
  rw [Option.some.inj e92] at hP
  refine lv_aload_n (pc := 86) hx hb dX10_advance_86 rfl (lv_at hl 0 rfl) ?_
  refine lv_lconst (pc := 87) (v := 0) hx hb dX10_advance_87 (by decide) ?_
  obtain ⟨σ93, e94, h⟩ := bnd1 h
  refine pt_X10_158 X hP hS hz0 dX10_advance_88 (fun H locs hP hS => ?_)
  rw [Option.some.inj e94] at hP
  refine lv_aload_n (pc := 91) hx hb dX10_advance_91 rfl (lv_at hl 0 rfl) ?_
  refine lv_aload_n (pc := 92) hx hb dX10_advance_92 rfl (lv_at hl 0 rfl) ?_
  refine gt_X10_155 X hP hz0 dX10_advance_93 ?_
  refine lv_iconst (pc := 96) (v := 2) hx hb dX10_advance_96 (by decide) ?_
  refine lv_icmp_ne (pc := 97) (tgt := 104) hx hb dX10_advance_97 (by decide) (fun c95 => ?_) (fun c95 => ?_)
  · have h := ineg c95 h
    refine lv_iload_n (pc := 104) hx hb dX10_advance_104 rfl (lv_at hl 1 rfl) ?_
    obtain ⟨σ96, e97, h⟩ := bnd1 h
    refine pt_X10_162 X hP hS hz0 dX10_advance_105 (fun H locs hP hS => ?_)
    rw [Option.some.inj e97] at hP
    refine lv_aload_n (pc := 108) hx hb dX10_advance_108 rfl (lv_at hl 0 rfl) ?_
    refine gt_X10_155 X hP hz0 dX10_advance_109 ?_
    refine lv_iconst (pc := 112) (v := 3) hx hb dX10_advance_112 (by decide) ?_
    refine lv_icmp_ne (pc := 113) (tgt := 126) hx hb dX10_advance_113 (by decide) (fun c98 => ?_) (fun c98 => ?_)
    · have h := ineg c98 h
      exact w_X10_advance_126 X  hz0  FU  _ _ _ _ hP hS (lv_sub hl [0] rfl) h
    · have h := ipos c98 h
      refine lv_aload_n (pc := 116) hx hb dX10_advance_116 rfl (lv_at hl 0 rfl) ?_
      refine lv_dup (pc := 117) hx hb dX10_advance_117 rfl ?_
      refine gt_X10_139 X hP hz0 dX10_advance_118 ?_
      refine lv_iconst (pc := 121) (v := 1) hx hb dX10_advance_121 (by decide) ?_
      refine lv_iadd (pc := 122) hx hb dX10_advance_122 ?_
      obtain ⟨σ99, e100, h⟩ := bnd1 h
      refine pt_X10_139 X hP hS hz0 dX10_advance_123 (fun H locs hP hS => ?_)
      rw [Option.some.inj e100] at hP
      exact w_X10_advance_126 X  hz0  FU  _ _ _ _ hP hS (lv_sub hl [0] rfl) h
  · have h := ipos c95 h
    refine lv_iconst (pc := 100) (v := 0) hx hb dX10_advance_100 (by decide) ?_
    refine lv_goto (pc := 101) (tgt := 105) hx hb dX10_advance_101 (by decide) ?_
    obtain ⟨σ101, e102, h⟩ := bnd1 h
    refine pt_X10_162 X hP hS hz0 dX10_advance_105 (fun H locs hP hS => ?_)
    rw [Option.some.inj e102] at hP
    refine lv_aload_n (pc := 108) hx hb dX10_advance_108 rfl (lv_at hl 0 rfl) ?_
    refine gt_X10_155 X hP hz0 dX10_advance_109 ?_
    refine lv_iconst (pc := 112) (v := 3) hx hb dX10_advance_112 (by decide) ?_
    refine lv_icmp_ne (pc := 113) (tgt := 126) hx hb dX10_advance_113 (by decide) (fun c103 => ?_) (fun c103 => ?_)
    · have h := ineg c103 h
      exact w_X10_advance_126 X  hz0  FU  _ _ _ _ hP hS (lv_sub hl [0] rfl) h
    · have h := ipos c103 h
      refine lv_aload_n (pc := 116) hx hb dX10_advance_116 rfl (lv_at hl 0 rfl) ?_
      refine lv_dup (pc := 117) hx hb dX10_advance_117 rfl ?_
      refine gt_X10_139 X hP hz0 dX10_advance_118 ?_
      refine lv_iconst (pc := 121) (v := 1) hx hb dX10_advance_121 (by decide) ?_
      refine lv_iadd (pc := 122) hx hb dX10_advance_122 ?_
      obtain ⟨σ104, e105, h⟩ := bnd1 h
      refine pt_X10_139 X hP hS hz0 dX10_advance_123 (fun H locs hP hS => ?_)
      rw [Option.some.inj e105] at hP
      exact w_X10_advance_126 X  hz0  FU  _ _ _ _ hP hS (lv_sub hl [0] rfl) h
set_option maxHeartbeats 4000000 in
set_option maxRecDepth 100000 in
theorem w_X10_advance_83x3 {l : Launch} {G : Gh} {p : Program} {e : Env} {s : State} {m : MethodId} {args : Array Value} {below : List Frame} {meth : Method} {c : Code} (X : Cx G p s m args meth c prog_12_method_14_code RX10 2 none) {k0z : Nat} {s1z : Nat} (hz0 : kd k0z = 10) (hs1 : kd s1z = 10) {σr : Mem} : ∀ (v1 : Int32) (σ : Mem) (H : Heap) (locs : List Loc) (ls : Array Slot), PW G σ H → va_S (AA G) s.heap H locs → lv_has ls 2 [(0, .ref (ga G k0z)), (1, .int v1)] → F_X10_advance_83x3 k0z s1z v1 σ = some σr → W p l e RM_X10_advance s m args below meth c H locs 0 0 (MQ below (QG G none σr) args s 0 0 (AA G)) (F0 m 83 ls [.int (0 : Int32), .ref (ga G s1z)]) := by
  have hx := X.hx
  have hb := X.hb
  intro v1 σ H locs ls hP hS hl h
  unfold F_X10_advance_83x3 at h
  obtain ⟨σ106, e107, h⟩ := bnd1 h
  refine pt_X10_155 X hP hS hs1 dX10_advance_83 (fun H locs hP hS => ?_)
  rw [Option.some.inj e107] at hP
  refine lv_aload_n (pc := 86) hx hb dX10_advance_86 rfl (lv_at hl 0 rfl) ?_
  refine lv_lconst (pc := 87) (v := 0) hx hb dX10_advance_87 (by decide) ?_
  obtain ⟨σ108, e109, h⟩ := bnd1 h
  refine pt_X10_158 X hP hS hz0 dX10_advance_88 (fun H locs hP hS => ?_)
  rw [Option.some.inj e109] at hP
  refine lv_aload_n (pc := 91) hx hb dX10_advance_91 rfl (lv_at hl 0 rfl) ?_
  refine lv_aload_n (pc := 92) hx hb dX10_advance_92 rfl (lv_at hl 0 rfl) ?_
  refine gt_X10_155 X hP hz0 dX10_advance_93 ?_
  refine lv_iconst (pc := 96) (v := 2) hx hb dX10_advance_96 (by decide) ?_
  refine lv_icmp_ne (pc := 97) (tgt := 104) hx hb dX10_advance_97 (by decide) (fun c110 => ?_) (fun c110 => ?_)
  · have h := ineg c110 h
    refine lv_iload_n (pc := 104) hx hb dX10_advance_104 rfl (lv_at hl 1 rfl) ?_
    obtain ⟨σ111, e112, h⟩ := bnd1 h
    refine pt_X10_162 X hP hS hz0 dX10_advance_105 (fun H locs hP hS => ?_)
    rw [Option.some.inj e112] at hP
    refine lv_aload_n (pc := 108) hx hb dX10_advance_108 rfl (lv_at hl 0 rfl) ?_
    refine gt_X10_155 X hP hz0 dX10_advance_109 ?_
    refine lv_iconst (pc := 112) (v := 3) hx hb dX10_advance_112 (by decide) ?_
    refine lv_icmp_ne (pc := 113) (tgt := 126) hx hb dX10_advance_113 (by decide) (fun c113 => ?_) (fun c113 => ?_)
    · have h := ineg c113 h
      exact w_X10_advance_126 X  hz0  FU  _ _ _ _ hP hS (lv_sub hl [0] rfl) h
    · have h := ipos c113 h
      refine lv_aload_n (pc := 116) hx hb dX10_advance_116 rfl (lv_at hl 0 rfl) ?_
      refine lv_dup (pc := 117) hx hb dX10_advance_117 rfl ?_
      refine gt_X10_139 X hP hz0 dX10_advance_118 ?_
      refine lv_iconst (pc := 121) (v := 1) hx hb dX10_advance_121 (by decide) ?_
      refine lv_iadd (pc := 122) hx hb dX10_advance_122 ?_
      obtain ⟨σ114, e115, h⟩ := bnd1 h
      refine pt_X10_139 X hP hS hz0 dX10_advance_123 (fun H locs hP hS => ?_)
      rw [Option.some.inj e115] at hP
      exact w_X10_advance_126 X  hz0  FU  _ _ _ _ hP hS (lv_sub hl [0] rfl) h
  · have h := ipos c110 h
    refine lv_iconst (pc := 100) (v := 0) hx hb dX10_advance_100 (by decide) ?_
    refine lv_goto (pc := 101) (tgt := 105) hx hb dX10_advance_101 (by decide) ?_
    obtain ⟨σ116, e117, h⟩ := bnd1 h
    refine pt_X10_162 X hP hS hz0 dX10_advance_105 (fun H locs hP hS => ?_)
    rw [Option.some.inj e117] at hP
    refine lv_aload_n (pc := 108) hx hb dX10_advance_108 rfl (lv_at hl 0 rfl) ?_
    refine gt_X10_155 X hP hz0 dX10_advance_109 ?_
    refine lv_iconst (pc := 112) (v := 3) hx hb dX10_advance_112 (by decide) ?_
    refine lv_icmp_ne (pc := 113) (tgt := 126) hx hb dX10_advance_113 (by decide) (fun c118 => ?_) (fun c118 => ?_)
    · have h := ineg c118 h
      exact w_X10_advance_126 X  hz0  FU  _ _ _ _ hP hS (lv_sub hl [0] rfl) h
    · have h := ipos c118 h
      refine lv_aload_n (pc := 116) hx hb dX10_advance_116 rfl (lv_at hl 0 rfl) ?_
      refine lv_dup (pc := 117) hx hb dX10_advance_117 rfl ?_
      refine gt_X10_139 X hP hz0 dX10_advance_118 ?_
      refine lv_iconst (pc := 121) (v := 1) hx hb dX10_advance_121 (by decide) ?_
      refine lv_iadd (pc := 122) hx hb dX10_advance_122 ?_
      obtain ⟨σ119, e120, h⟩ := bnd1 h
      refine pt_X10_139 X hP hS hz0 dX10_advance_123 (fun H locs hP hS => ?_)
      rw [Option.some.inj e120] at hP
      exact w_X10_advance_126 X  hz0  FU  _ _ _ _ hP hS (lv_sub hl [0] rfl) h
set_option maxHeartbeats 4000000 in
set_option maxRecDepth 100000 in
theorem w_X10_advance_8 {l : Launch} {G : Gh} {p : Program} {e : Env} {s : State} {m : MethodId} {args : Array Value} {below : List Frame} {meth : Method} {c : Code} (X : Cx G p s m args meth c prog_12_method_14_code RX10 2 none) {k0z : Nat} (hz0 : kd k0z = 10) {σr : Mem} : ∀ (n : Nat) (σ : Mem) (H : Heap) (locs : List Loc) (ls : Array Slot), PW G σ H → va_S (AA G) s.heap H locs → lv_has ls 2 [(0, .ref (ga G k0z))] → iterF (F_X10_advance_8 k0z) (fun _ => none) n  σ = some σr → W p l e RM_X10_advance s m args below meth c H locs 0 0 (MQ below (QG G none σr) args s 0 0 (AA G)) (F0 m 8 ls []) := by
  have hx := X.hx
  have hb := X.hb
  intro n
  induction n with
  | zero => intro  σ H locs ls hP hS hl h; exact nnone (α := Mem) h
  | succ n ih1 =>
    intro  σ H locs ls hP hS hl h
    have h : F_X10_advance_8 k0z (iterF (F_X10_advance_8 k0z) (fun _ => none) n)  σ = some _ := h
    unfold F_X10_advance_8 at h
    refine lv_aload_n (pc := 8) hx hb dX10_advance_8 rfl (lv_at hl 0 rfl) ?_
    refine lv_aload_n (pc := 9) hx hb dX10_advance_9 rfl (lv_at hl 0 rfl) ?_
    refine gt_X10_142 X hP hz0 dX10_advance_10 ?_
    obtain ⟨r5, σ3, e4, h⟩ := bnd2 h
    refine cl_X10_145 X hP hS hz0 (As := [.int (gI σ k0z 18)]) (rest := []) (c_X10_byteAt l G hz0 e4) ⟨rfl, rfl, Nat.le_of_ble_eq_true rfl, Nat.le_of_ble_eq_true rfl⟩ rfl hl.1 rfl (Nat.le_of_ble_eq_true rfl) ⟨Nat.zero_le _, Nat.zero_le _⟩ (pc := 13) dX10_advance_13 (fun H locs hP hS => ?_)
    change W p l e _ s m _ below meth c H locs _ _ _ (F0 m (13 + 3) ls (.int r5 :: []))
    refine lv_bipush (pc := 16) (v := (32)) hx hb dX10_advance_16 (by decide) ?_
    refine lv_icmp_ne (pc := 18) (tgt := 34) hx hb dX10_advance_18 (by decide) (fun c6 => ?_) (fun c6 => ?_)
    · have h := ineg c6 h
      refine lv_aload_n (pc := 34) hx hb dX10_advance_34 rfl (lv_at hl 0 rfl) ?_
      refine lv_aload_n (pc := 35) hx hb dX10_advance_35 rfl (lv_at hl 0 rfl) ?_
      refine gt_X10_142 X hP hz0 dX10_advance_36 ?_
      obtain ⟨σ7, e8, h⟩ := bnd1 h
      refine pt_X10_139 X hP hS hz0 dX10_advance_39 (fun H locs hP hS => ?_)
      rw [Option.some.inj e8] at hP
      refine lv_aload_n (pc := 42) hx hb dX10_advance_42 rfl (lv_at hl 0 rfl) ?_
      refine lv_aload_n (pc := 43) hx hb dX10_advance_43 rfl (lv_at hl 0 rfl) ?_
      refine gt_X10_142 X hP hz0 dX10_advance_44 ?_
      obtain ⟨r11, σ9, e10, h⟩ := bnd2 h
      refine cl_X10_145 X hP hS hz0 (As := [.int (gI σ7 k0z 18)]) (rest := []) (c_X10_byteAt l G hz0 e10) ⟨rfl, rfl, Nat.le_of_ble_eq_true rfl, Nat.le_of_ble_eq_true rfl⟩ rfl hl.1 rfl (Nat.le_of_ble_eq_true rfl) ⟨Nat.zero_le _, Nat.zero_le _⟩ (pc := 47) dX10_advance_47 (fun H locs hP hS => ?_)
      change W p l e _ s m _ below meth c H locs _ _ _ (F0 m (47 + 3) ls (.int r11 :: []))
      refine lv_istore_n (pc := 50) (lv' := [(1, .int r11), (0, .ref (ga G k0z))]) hx hb dX10_advance_50 rfl hl (by decide) rfl (fun ls hl => ?_)
      refine lv_aload_n (pc := 51) hx hb dX10_advance_51 rfl (lv_at hl 1 rfl) ?_
      refine lv_iload_n (pc := 52) hx hb dX10_advance_52 rfl (lv_at hl 0 rfl) ?_
      refine lv_if_ge (pc := 53) (tgt := 60) hx hb dX10_advance_53 (by decide) (fun c12 => ?_) (fun c12 => ?_)
      · have h := ipos c12 h
        refine lv_iload_n (pc := 60) hx hb dX10_advance_60 rfl (lv_at hl 0 rfl) ?_
        obtain ⟨r15, σ13, e14, h⟩ := bnd2 h
        refine cl_X10_149 X hP hS (As := [.int r11]) (rest := [.ref (ga G k0z)]) (c_X10_isLetter l G  e14) ⟨rfl, rfl, Nat.le_of_ble_eq_true rfl, Nat.le_of_ble_eq_true rfl⟩ rfl hl.1 rfl (Nat.le_of_ble_eq_true rfl) ⟨Nat.zero_le _, Nat.zero_le _⟩ (pc := 61) dX10_advance_61 (fun H locs hP hS => ?_)
        change W p l e _ s m _ below meth c H locs _ _ _ (F0 m (61 + 3) ls (.int r15 :: [.ref (ga G k0z)]))
        refine lv_if_eq (pc := 64) (tgt := 71) hx hb dX10_advance_64 (by decide) (fun c16 => ?_) (fun c16 => ?_)
        · have h := ipos c16 h
          refine lv_iload_n (pc := 71) hx hb dX10_advance_71 rfl (lv_at hl 0 rfl) ?_
          obtain ⟨r19, σ17, e18, h⟩ := bnd2 h
          refine cl_X10_152 X hP hS (As := [.int r11]) (rest := [.ref (ga G k0z)]) (c_X10_isDigit l G  e18) ⟨rfl, rfl, Nat.le_of_ble_eq_true rfl, Nat.le_of_ble_eq_true rfl⟩ rfl hl.1 rfl (Nat.le_of_ble_eq_true rfl) ⟨Nat.zero_le _, Nat.zero_le _⟩ (pc := 72) dX10_advance_72 (fun H locs hP hS => ?_)
          change W p l e _ s m _ below meth c H locs _ _ _ (F0 m (72 + 3) ls (.int r19 :: [.ref (ga G k0z)]))
          refine lv_if_eq (pc := 75) (tgt := 82) hx hb dX10_advance_75 (by decide) (fun c20 => ?_) (fun c20 => ?_)
          · have h := ipos c20 h
            refine lv_iconst (pc := 82) (v := 3) hx hb dX10_advance_82 (by decide) ?_
            exact w_X10_advance_83 X  hz0 hz0  _ _ _ _ _ hP hS (lv_sub hl [1, 0] rfl) h
          · have h := ineg c20 h
            refine lv_iconst (pc := 78) (v := 2) hx hb dX10_advance_78 (by decide) ?_
            refine lv_goto (pc := 79) (tgt := 83) hx hb dX10_advance_79 (by decide) ?_
            exact w_X10_advance_83x1 X  hz0 hz0  _ _ _ _ _ hP hS (lv_sub hl [1, 0] rfl) h
        · have h := ineg c16 h
          refine lv_iconst (pc := 67) (v := 1) hx hb dX10_advance_67 (by decide) ?_
          refine lv_goto (pc := 68) (tgt := 83) hx hb dX10_advance_68 (by decide) ?_
          exact w_X10_advance_83x2 X  hz0 hz0  _ _ _ _ _ hP hS (lv_sub hl [1, 0] rfl) h
      · have h := ineg c12 h
        refine lv_iconst (pc := 56) (v := 0) hx hb dX10_advance_56 (by decide) ?_
        refine lv_goto (pc := 57) (tgt := 83) hx hb dX10_advance_57 (by decide) ?_
        exact w_X10_advance_83x3 X  hz0 hz0  _ _ _ _ _ hP hS (lv_sub hl [1, 0] rfl) h
    · have h := ipos c6 h
      refine lv_aload_n (pc := 21) hx hb dX10_advance_21 rfl (lv_at hl 0 rfl) ?_
      refine lv_dup (pc := 22) hx hb dX10_advance_22 rfl ?_
      refine gt_X10_142 X hP hz0 dX10_advance_23 ?_
      refine lv_iconst (pc := 26) (v := 1) hx hb dX10_advance_26 (by decide) ?_
      refine lv_iadd (pc := 27) hx hb dX10_advance_27 ?_
      obtain ⟨σ121, e122, h⟩ := bnd1 h
      refine pt_X10_142 X hP hS hz0 dX10_advance_28 (fun H locs hP hS => ?_)
      rw [Option.some.inj e122] at hP
      refine lv_goto (pc := 31) (tgt := 8) hx hb dX10_advance_31 (by decide) ?_
      exact ih1  _ _ _ _ hP hS (lv_sub hl [0] rfl) h
set_option maxHeartbeats 4000000 in
set_option maxRecDepth 100000 in
theorem c_X10_advance (l : Launch) (G : Gh) {k0 : Nat} {σ : Mem} {σr : Mem} (hk0 : kd k0 = 10) (h : f_X10_advance k0 σ = some σr) : Met l yX10_advance [Cond.code yX10_advance prog_12_method_14_code 2 none] RM_X10_advance (va_Pc [.ref (ga G k0)] (Pre G σ)) (QG G none σr) 0 0 (AA G) := by
  refine ct_of (by decide) (fun p e s m below meth c X hP => ?_)
  have hx := X.hx
  have hb := X.hb
  have hS : va_S (AA G) s.heap s.heap [] := va_S.rf
  have hl := lv_entry ([.ref (ga G k0)]) (n := 2) (Nat.le_of_ble_eq_true rfl)
  rw [lg_entry_eq]
  generalize (lg_sl ([.ref (ga G k0)]) ++ List.replicate (2 - (lg_sl ([.ref (ga G k0)])).length) Slot.unset).toArray = ls at hl ⊢
  have hl : lv_has ls 2 [(0, .ref (ga G k0))] := hl
  unfold f_X10_advance at h
  refine lv_aload_n (pc := 0) hx hb dX10_advance_0 rfl (lv_at hl 0 rfl) ?_
  refine lv_aload_n (pc := 1) hx hb dX10_advance_1 rfl (lv_at hl 0 rfl) ?_
  refine gt_X10_139 X hP hk0 dX10_advance_2 ?_
  obtain ⟨σ1, e2, h⟩ := bnd1 h
  refine pt_X10_142 X hP hS hk0 dX10_advance_5 (fun H locs hP hS => ?_)
  rw [Option.some.inj e2] at hP
  exact w_X10_advance_8 X  hk0  FU  _ _ _ _ hP hS (lv_sub hl [0] rfl) h
def f_X10_isWord (k0 : Nat) (a1 : Int64) (σ : Mem) : Option (Int32 × Mem) :=
  if (gI σ k0 17) = (1 : Int32) then
    if (lg_cmp (gL σ k0 20) a1) = (0 : Int32) then
      some ((1 : Int32), σ)
    else
      some ((0 : Int32), σ)
  else
    some ((0 : Int32), σ)
abbrev RM_X10_isWord : Room := { frames := 0, cells := 0, slots := 0, locals := 0 }
set_option maxHeartbeats 4000000 in
set_option maxRecDepth 100000 in
theorem c_X10_isWord (l : Launch) (G : Gh) {k0 : Nat} {a1 : Int64} {σ : Mem} {rr : Int32} {σr : Mem} (hk0 : kd k0 = 10) (h : f_X10_isWord k0 a1 σ = some (rr, σr)) : Met l yX10_isWord [Cond.code yX10_isWord prog_12_method_15_code 3 (some .boolean)] RM_X10_isWord (va_Pc [.ref (ga G k0), .long a1] (Pre G σ)) (QG G (some (.int rr)) σr) 0 0 (AA G) := by
  refine ct_of (by decide) (fun p e s m below meth c X hP => ?_)
  have hx := X.hx
  have hb := X.hb
  have hS : va_S (AA G) s.heap s.heap [] := va_S.rf
  have hl := lv_entry ([.ref (ga G k0), .long a1]) (n := 3) (Nat.le_of_ble_eq_true rfl)
  rw [lg_entry_eq]
  generalize (lg_sl ([.ref (ga G k0), .long a1]) ++ List.replicate (3 - (lg_sl ([.ref (ga G k0), .long a1])).length) Slot.unset).toArray = ls at hl ⊢
  have hl : lv_has ls 3 [(0, .ref (ga G k0)), (1, .long a1)] := hl
  unfold f_X10_isWord at h
  refine lv_aload_n (pc := 0) hx hb dX10_isWord_0 rfl (lv_at hl 0 rfl) ?_
  refine gt_X10_155 X hP hk0 dX10_isWord_1 ?_
  refine lv_iconst (pc := 4) (v := 1) hx hb dX10_isWord_4 (by decide) ?_
  refine lv_icmp_ne (pc := 5) (tgt := 21) hx hb dX10_isWord_5 (by decide) (fun c1 => ?_) (fun c1 => ?_)
  · have h := ineg c1 h
    refine lv_iconst (pc := 21) (v := 0) hx hb dX10_isWord_21 (by decide) ?_
    obtain ⟨rfl, rfl⟩ := inj2 h
    exact r_zret X hP hS (by decide) dX10_isWord_22
  · have h := ipos c1 h
    refine lv_aload_n (pc := 8) hx hb dX10_isWord_8 rfl (lv_at hl 0 rfl) ?_
    refine gt_X10_158 X hP hk0 dX10_isWord_9 ?_
    refine lv_lload_n (pc := 12) hx hb dX10_isWord_12 rfl (lv_at hl 1 rfl) ?_
    refine W.lcmp (pc := 13) hx hb dX10_isWord_13 ?_
    refine lv_if_ne (pc := 14) (tgt := 21) hx hb dX10_isWord_14 (by decide) (fun c2 => ?_) (fun c2 => ?_)
    · have h := ineg c2 h
      refine lv_iconst (pc := 21) (v := 0) hx hb dX10_isWord_21 (by decide) ?_
      obtain ⟨rfl, rfl⟩ := inj2 h
      exact r_zret X hP hS (by decide) dX10_isWord_22
    · have h := ipos c2 h
      refine lv_iconst (pc := 17) (v := 1) hx hb dX10_isWord_17 (by decide) ?_
      refine lv_goto (pc := 18) (tgt := 22) hx hb dX10_isWord_18 (by decide) ?_
      obtain ⟨rfl, rfl⟩ := inj2 h
      exact r_zret X hP hS (by decide) dX10_isWord_22
def f_X10_isMark (k0 : Nat) (a1 : Int32) (σ : Mem) : Option (Int32 × Mem) :=
  if (gI σ k0 17) = (3 : Int32) then
    if (gI σ k0 21) = a1 then
      some ((1 : Int32), σ)
    else
      some ((0 : Int32), σ)
  else
    some ((0 : Int32), σ)
abbrev RM_X10_isMark : Room := { frames := 0, cells := 0, slots := 0, locals := 0 }
set_option maxHeartbeats 4000000 in
set_option maxRecDepth 100000 in
theorem c_X10_isMark (l : Launch) (G : Gh) {k0 : Nat} {a1 : Int32} {σ : Mem} {rr : Int32} {σr : Mem} (hk0 : kd k0 = 10) (h : f_X10_isMark k0 a1 σ = some (rr, σr)) : Met l yX10_isMark [Cond.code yX10_isMark prog_12_method_16_code 2 (some .boolean)] RM_X10_isMark (va_Pc [.ref (ga G k0), .int a1] (Pre G σ)) (QG G (some (.int rr)) σr) 0 0 (AA G) := by
  refine ct_of (by decide) (fun p e s m below meth c X hP => ?_)
  have hx := X.hx
  have hb := X.hb
  have hS : va_S (AA G) s.heap s.heap [] := va_S.rf
  have hl := lv_entry ([.ref (ga G k0), .int a1]) (n := 2) (Nat.le_of_ble_eq_true rfl)
  rw [lg_entry_eq]
  generalize (lg_sl ([.ref (ga G k0), .int a1]) ++ List.replicate (2 - (lg_sl ([.ref (ga G k0), .int a1])).length) Slot.unset).toArray = ls at hl ⊢
  have hl : lv_has ls 2 [(0, .ref (ga G k0)), (1, .int a1)] := hl
  unfold f_X10_isMark at h
  refine lv_aload_n (pc := 0) hx hb dX10_isMark_0 rfl (lv_at hl 0 rfl) ?_
  refine gt_X10_155 X hP hk0 dX10_isMark_1 ?_
  refine lv_iconst (pc := 4) (v := 3) hx hb dX10_isMark_4 (by decide) ?_
  refine lv_icmp_ne (pc := 5) (tgt := 20) hx hb dX10_isMark_5 (by decide) (fun c1 => ?_) (fun c1 => ?_)
  · have h := ineg c1 h
    refine lv_iconst (pc := 20) (v := 0) hx hb dX10_isMark_20 (by decide) ?_
    obtain ⟨rfl, rfl⟩ := inj2 h
    exact r_zret X hP hS (by decide) dX10_isMark_21
  · have h := ipos c1 h
    refine lv_aload_n (pc := 8) hx hb dX10_isMark_8 rfl (lv_at hl 0 rfl) ?_
    refine gt_X10_162 X hP hk0 dX10_isMark_9 ?_
    refine lv_iload_n (pc := 12) hx hb dX10_isMark_12 rfl (lv_at hl 1 rfl) ?_
    refine lv_icmp_ne (pc := 13) (tgt := 20) hx hb dX10_isMark_13 (by decide) (fun c2 => ?_) (fun c2 => ?_)
    · have h := ineg c2 h
      refine lv_iconst (pc := 20) (v := 0) hx hb dX10_isMark_20 (by decide) ?_
      obtain ⟨rfl, rfl⟩ := inj2 h
      exact r_zret X hP hS (by decide) dX10_isMark_21
    · have h := ipos c2 h
      refine lv_iconst (pc := 16) (v := 1) hx hb dX10_isMark_16 (by decide) ?_
      refine lv_goto (pc := 17) (tgt := 21) hx hb dX10_isMark_17 (by decide) ?_
      obtain ⟨rfl, rfl⟩ := inj2 h
      exact r_zret X hP hS (by decide) dX10_isMark_21
def f_X10_kindHere (k0 : Nat) (σ : Mem) : Option (Int32 × Mem) :=
  bd2 (f_X10_isWord k0 (33562584 : Int64) σ) fun r3 σ1 =>
  if r3 = (0 : Int32) then
    bd2 (f_X10_isWord k0 (237470 : Int64) σ1) fun r7 σ5 =>
    if r7 = (0 : Int32) then
      bd2 (f_X10_isWord k0 (174875589 : Int64) σ5) fun r11 σ9 =>
      if r11 = (0 : Int32) then
        bd2 (f_X10_isWord k0 (280258371 : Int64) σ9) fun r15 σ13 =>
        if r15 = (0 : Int32) then
          bd2 (f_X10_isWord k0 (38567169 : Int64) σ13) fun r19 σ17 =>
          if r19 = (0 : Int32) then
            bd2 (f_X10_isWord k0 (1306021 : Int64) σ17) fun r23 σ21 =>
            if r23 = (0 : Int32) then
              some ((-1 : Int32), σ21)
            else
              some ((5 : Int32), σ21)
          else
            some ((4 : Int32), σ17)
        else
          some ((3 : Int32), σ13)
      else
        some ((2 : Int32), σ9)
    else
      some ((1 : Int32), σ5)
  else
    some ((0 : Int32), σ1)
abbrev RM_X10_kindHere : Room := { frames := 1, cells := 0, slots := 0, locals := 22 }
set_option maxHeartbeats 4000000 in
set_option maxRecDepth 100000 in
theorem c_X10_kindHere (l : Launch) (G : Gh) {k0 : Nat} {σ : Mem} {rr : Int32} {σr : Mem} (hk0 : kd k0 = 10) (h : f_X10_kindHere k0 σ = some (rr, σr)) : Met l yX10_kindHere [Cond.code yX10_kindHere prog_12_method_17_code 1 (some .int)] RM_X10_kindHere (va_Pc [.ref (ga G k0)] (Pre G σ)) (QG G (some (.int rr)) σr) 0 0 (AA G) := by
  refine ct_of (by decide) (fun p e s m below meth c X hP => ?_)
  have hx := X.hx
  have hb := X.hb
  have hS : va_S (AA G) s.heap s.heap [] := va_S.rf
  have hl := lv_entry ([.ref (ga G k0)]) (n := 1) (Nat.le_of_ble_eq_true rfl)
  rw [lg_entry_eq]
  generalize (lg_sl ([.ref (ga G k0)]) ++ List.replicate (1 - (lg_sl ([.ref (ga G k0)])).length) Slot.unset).toArray = ls at hl ⊢
  have hl : lv_has ls 1 [(0, .ref (ga G k0))] := hl
  unfold f_X10_kindHere at h
  refine lv_aload_n (pc := 0) hx hb dX10_kindHere_0 rfl (lv_at hl 0 rfl) ?_
  refine lv_ldc2 (pc := 1) (v := (33562584)) hx hb X.hown (X.tb tw_1241 rfl) dX10_kindHere_1 ?_
  obtain ⟨r3, σ1, e2, h⟩ := bnd2 h
  refine cl_X10_173 X hP hS hk0 (As := [.long (33562584 : Int64)]) (rest := []) (c_X10_isWord l G hk0 e2) ⟨rfl, rfl, Nat.le_of_ble_eq_true rfl, Nat.le_of_ble_eq_true rfl⟩ rfl hl.1 rfl (Nat.le_of_ble_eq_true rfl) ⟨Nat.zero_le _, Nat.zero_le _⟩ (pc := 4) dX10_kindHere_4 (fun H locs hP hS => ?_)
  change W p l e _ s m _ below meth c H locs _ _ _ (F0 m (4 + 3) ls (.int r3 :: []))
  refine lv_if_eq (pc := 7) (tgt := 14) hx hb dX10_kindHere_7 (by decide) (fun c4 => ?_) (fun c4 => ?_)
  · have h := ipos c4 h
    refine lv_aload_n (pc := 14) hx hb dX10_kindHere_14 rfl (lv_at hl 0 rfl) ?_
    refine lv_ldc2 (pc := 15) (v := (237470)) hx hb X.hown (X.tb tw_1242 rfl) dX10_kindHere_15 ?_
    obtain ⟨r7, σ5, e6, h⟩ := bnd2 h
    refine cl_X10_173 X hP hS hk0 (As := [.long (237470 : Int64)]) (rest := []) (c_X10_isWord l G hk0 e6) ⟨rfl, rfl, Nat.le_of_ble_eq_true rfl, Nat.le_of_ble_eq_true rfl⟩ rfl hl.1 rfl (Nat.le_of_ble_eq_true rfl) ⟨Nat.zero_le _, Nat.zero_le _⟩ (pc := 18) dX10_kindHere_18 (fun H locs hP hS => ?_)
    change W p l e _ s m _ below meth c H locs _ _ _ (F0 m (18 + 3) ls (.int r7 :: []))
    refine lv_if_eq (pc := 21) (tgt := 28) hx hb dX10_kindHere_21 (by decide) (fun c8 => ?_) (fun c8 => ?_)
    · have h := ipos c8 h
      refine lv_aload_n (pc := 28) hx hb dX10_kindHere_28 rfl (lv_at hl 0 rfl) ?_
      refine lv_ldc2 (pc := 29) (v := (174875589)) hx hb X.hown (X.tb tw_1243 rfl) dX10_kindHere_29 ?_
      obtain ⟨r11, σ9, e10, h⟩ := bnd2 h
      refine cl_X10_173 X hP hS hk0 (As := [.long (174875589 : Int64)]) (rest := []) (c_X10_isWord l G hk0 e10) ⟨rfl, rfl, Nat.le_of_ble_eq_true rfl, Nat.le_of_ble_eq_true rfl⟩ rfl hl.1 rfl (Nat.le_of_ble_eq_true rfl) ⟨Nat.zero_le _, Nat.zero_le _⟩ (pc := 32) dX10_kindHere_32 (fun H locs hP hS => ?_)
      change W p l e _ s m _ below meth c H locs _ _ _ (F0 m (32 + 3) ls (.int r11 :: []))
      refine lv_if_eq (pc := 35) (tgt := 42) hx hb dX10_kindHere_35 (by decide) (fun c12 => ?_) (fun c12 => ?_)
      · have h := ipos c12 h
        refine lv_aload_n (pc := 42) hx hb dX10_kindHere_42 rfl (lv_at hl 0 rfl) ?_
        refine lv_ldc2 (pc := 43) (v := (280258371)) hx hb X.hown (X.tb tw_1244 rfl) dX10_kindHere_43 ?_
        obtain ⟨r15, σ13, e14, h⟩ := bnd2 h
        refine cl_X10_173 X hP hS hk0 (As := [.long (280258371 : Int64)]) (rest := []) (c_X10_isWord l G hk0 e14) ⟨rfl, rfl, Nat.le_of_ble_eq_true rfl, Nat.le_of_ble_eq_true rfl⟩ rfl hl.1 rfl (Nat.le_of_ble_eq_true rfl) ⟨Nat.zero_le _, Nat.zero_le _⟩ (pc := 46) dX10_kindHere_46 (fun H locs hP hS => ?_)
        change W p l e _ s m _ below meth c H locs _ _ _ (F0 m (46 + 3) ls (.int r15 :: []))
        refine lv_if_eq (pc := 49) (tgt := 56) hx hb dX10_kindHere_49 (by decide) (fun c16 => ?_) (fun c16 => ?_)
        · have h := ipos c16 h
          refine lv_aload_n (pc := 56) hx hb dX10_kindHere_56 rfl (lv_at hl 0 rfl) ?_
          refine lv_ldc2 (pc := 57) (v := (38567169)) hx hb X.hown (X.tb tw_1245 rfl) dX10_kindHere_57 ?_
          obtain ⟨r19, σ17, e18, h⟩ := bnd2 h
          refine cl_X10_173 X hP hS hk0 (As := [.long (38567169 : Int64)]) (rest := []) (c_X10_isWord l G hk0 e18) ⟨rfl, rfl, Nat.le_of_ble_eq_true rfl, Nat.le_of_ble_eq_true rfl⟩ rfl hl.1 rfl (Nat.le_of_ble_eq_true rfl) ⟨Nat.zero_le _, Nat.zero_le _⟩ (pc := 60) dX10_kindHere_60 (fun H locs hP hS => ?_)
          change W p l e _ s m _ below meth c H locs _ _ _ (F0 m (60 + 3) ls (.int r19 :: []))
          refine lv_if_eq (pc := 63) (tgt := 70) hx hb dX10_kindHere_63 (by decide) (fun c20 => ?_) (fun c20 => ?_)
          · have h := ipos c20 h
            refine lv_aload_n (pc := 70) hx hb dX10_kindHere_70 rfl (lv_at hl 0 rfl) ?_
            refine lv_ldc2 (pc := 71) (v := (1306021)) hx hb X.hown (X.tb tw_1246 rfl) dX10_kindHere_71 ?_
            obtain ⟨r23, σ21, e22, h⟩ := bnd2 h
            refine cl_X10_173 X hP hS hk0 (As := [.long (1306021 : Int64)]) (rest := []) (c_X10_isWord l G hk0 e22) ⟨rfl, rfl, Nat.le_of_ble_eq_true rfl, Nat.le_of_ble_eq_true rfl⟩ rfl hl.1 rfl (Nat.le_of_ble_eq_true rfl) ⟨Nat.zero_le _, Nat.zero_le _⟩ (pc := 74) dX10_kindHere_74 (fun H locs hP hS => ?_)
            change W p l e _ s m _ below meth c H locs _ _ _ (F0 m (74 + 3) ls (.int r23 :: []))
            refine lv_if_eq (pc := 77) (tgt := 84) hx hb dX10_kindHere_77 (by decide) (fun c24 => ?_) (fun c24 => ?_)
            · have h := ipos c24 h
              refine lv_iconst (pc := 84) (v := (-1)) hx hb dX10_kindHere_84 (by decide) ?_
              obtain ⟨rfl, rfl⟩ := inj2 h
              exact r_iret X hP hS dX10_kindHere_85
            · have h := ineg c24 h
              refine lv_iconst (pc := 80) (v := 5) hx hb dX10_kindHere_80 (by decide) ?_
              refine lv_goto (pc := 81) (tgt := 85) hx hb dX10_kindHere_81 (by decide) ?_
              obtain ⟨rfl, rfl⟩ := inj2 h
              exact r_iret X hP hS dX10_kindHere_85
          · have h := ineg c20 h
            refine lv_iconst (pc := 66) (v := 4) hx hb dX10_kindHere_66 (by decide) ?_
            refine lv_goto (pc := 67) (tgt := 85) hx hb dX10_kindHere_67 (by decide) ?_
            obtain ⟨rfl, rfl⟩ := inj2 h
            exact r_iret X hP hS dX10_kindHere_85
        · have h := ineg c16 h
          refine lv_iconst (pc := 52) (v := 3) hx hb dX10_kindHere_52 (by decide) ?_
          refine lv_goto (pc := 53) (tgt := 85) hx hb dX10_kindHere_53 (by decide) ?_
          obtain ⟨rfl, rfl⟩ := inj2 h
          exact r_iret X hP hS dX10_kindHere_85
      · have h := ineg c12 h
        refine lv_iconst (pc := 38) (v := 2) hx hb dX10_kindHere_38 (by decide) ?_
        refine lv_goto (pc := 39) (tgt := 85) hx hb dX10_kindHere_39 (by decide) ?_
        obtain ⟨rfl, rfl⟩ := inj2 h
        exact r_iret X hP hS dX10_kindHere_85
    · have h := ineg c8 h
      refine lv_iconst (pc := 24) (v := 1) hx hb dX10_kindHere_24 (by decide) ?_
      refine lv_goto (pc := 25) (tgt := 85) hx hb dX10_kindHere_25 (by decide) ?_
      obtain ⟨rfl, rfl⟩ := inj2 h
      exact r_iret X hP hS dX10_kindHere_85
  · have h := ineg c4 h
    refine lv_iconst (pc := 10) (v := 0) hx hb dX10_kindHere_10 (by decide) ?_
    refine lv_goto (pc := 11) (tgt := 85) hx hb dX10_kindHere_11 (by decide) ?_
    obtain ⟨rfl, rfl⟩ := inj2 h
    exact r_iret X hP hS dX10_kindHere_85
def f_X10_wantNumber (k0 : Nat) (a1 : Int32) (a2 : Int32) (σ : Mem) : Option (Int32 × Mem) :=
  if (gI σ k0 22) = (0 : Int32) then
    bd1 (some (pI σ k0 22 (0 : Int32))) fun σ2 =>
    if (gI σ2 k0 22) = (0 : Int32) then
      some ((gI σ k0 21), σ2)
    else
      bd1 (f_X10_advance k0 σ2) fun σ5 =>
      some ((gI σ k0 21), σ5)
  else
    if (gI σ k0 17) = (2 : Int32) then
      bd2 (f_X10_in (gI σ k0 21) a1 a2 σ) fun r15 σ13 =>
      if r15 = (0 : Int32) then
        bd1 (some (pI σ13 k0 22 (0 : Int32))) fun σ17 =>
        if (gI σ17 k0 22) = (0 : Int32) then
          some ((gI σ k0 21), σ17)
        else
          bd1 (f_X10_advance k0 σ17) fun σ20 =>
          some ((gI σ k0 21), σ20)
      else
        bd1 (some (pI σ13 k0 22 (1 : Int32))) fun σ22 =>
        if (gI σ22 k0 22) = (0 : Int32) then
          some ((gI σ k0 21), σ22)
        else
          bd1 (f_X10_advance k0 σ22) fun σ25 =>
          some ((gI σ k0 21), σ25)
    else
      bd1 (some (pI σ k0 22 (0 : Int32))) fun σ8 =>
      if (gI σ8 k0 22) = (0 : Int32) then
        some ((gI σ k0 21), σ8)
      else
        bd1 (f_X10_advance k0 σ8) fun σ11 =>
        some ((gI σ k0 21), σ11)
abbrev RM_X10_wantNumber : Room := { frames := 3, cells := 0, slots := 0, locals := 63 }
set_option maxHeartbeats 4000000 in
set_option maxRecDepth 100000 in
theorem c_X10_wantNumber (l : Launch) (G : Gh) {k0 : Nat} {a1 : Int32} {a2 : Int32} {σ : Mem} {rr : Int32} {σr : Mem} (hk0 : kd k0 = 10) (h : f_X10_wantNumber k0 a1 a2 σ = some (rr, σr)) : Met l yX10_wantNumber [Cond.code yX10_wantNumber prog_12_method_18_code 4 (some .int)] RM_X10_wantNumber (va_Pc [.ref (ga G k0), .int a1, .int a2] (Pre G σ)) (QG G (some (.int rr)) σr) 0 0 (AA G) := by
  refine ct_of (by decide) (fun p e s m below meth c X hP => ?_)
  have hx := X.hx
  have hb := X.hb
  have hS : va_S (AA G) s.heap s.heap [] := va_S.rf
  have hl := lv_entry ([.ref (ga G k0), .int a1, .int a2]) (n := 4) (Nat.le_of_ble_eq_true rfl)
  rw [lg_entry_eq]
  generalize (lg_sl ([.ref (ga G k0), .int a1, .int a2]) ++ List.replicate (4 - (lg_sl ([.ref (ga G k0), .int a1, .int a2])).length) Slot.unset).toArray = ls at hl ⊢
  have hl : lv_has ls 4 [(0, .ref (ga G k0)), (1, .int a1), (2, .int a2)] := hl
  unfold f_X10_wantNumber at h
  refine lv_aload_n (pc := 0) hx hb dX10_wantNumber_0 rfl (lv_at hl 0 rfl) ?_
  refine gt_X10_162 X hP hk0 dX10_wantNumber_1 ?_
  refine lv_istore_n (pc := 4) (lv' := [(3, .int (gI σ k0 21)), (0, .ref (ga G k0)), (1, .int a1), (2, .int a2)]) hx hb dX10_wantNumber_4 rfl hl (by decide) rfl (fun ls hl => ?_)
  refine lv_aload_n (pc := 5) hx hb dX10_wantNumber_5 rfl (lv_at hl 1 rfl) ?_
  refine lv_aload_n (pc := 6) hx hb dX10_wantNumber_6 rfl (lv_at hl 1 rfl) ?_
  refine gt_X10_187 X hP hk0 dX10_wantNumber_7 ?_
  refine lv_if_eq (pc := 10) (tgt := 34) hx hb dX10_wantNumber_10 (by decide) (fun c1 => ?_) (fun c1 => ?_)
  · have h := ipos c1 h
    refine lv_iconst (pc := 34) (v := 0) hx hb dX10_wantNumber_34 (by decide) ?_
    obtain ⟨σ2, e3, h⟩ := bnd1 h
    refine pt_X10_187 X hP hS hk0 (by decide) dX10_wantNumber_35 (fun H locs hP hS => ?_)
    rw [Option.some.inj e3] at hP
    refine lv_aload_n (pc := 38) hx hb dX10_wantNumber_38 rfl (lv_at hl 1 rfl) ?_
    refine gt_X10_187 X hP hk0 dX10_wantNumber_39 ?_
    refine lv_if_eq (pc := 42) (tgt := 49) hx hb dX10_wantNumber_42 (by decide) (fun c4 => ?_) (fun c4 => ?_)
    · have h := ipos c4 h
      refine lv_iload_n (pc := 49) hx hb dX10_wantNumber_49 rfl (lv_at hl 0 rfl) ?_
      obtain ⟨rfl, rfl⟩ := inj2 h
      exact r_iret X hP hS dX10_wantNumber_50
    · have h := ineg c4 h
      refine lv_aload_n (pc := 45) hx hb dX10_wantNumber_45 rfl (lv_at hl 1 rfl) ?_
      obtain ⟨σ5, e6, h⟩ := bnd1 h
      refine cl_X10_191 X hP hS hk0 (As := []) (rest := []) (c_X10_advance l G hk0 e6) ⟨rfl, rfl, Nat.le_of_ble_eq_true rfl, Nat.le_of_ble_eq_true rfl⟩ rfl hl.1 rfl (Nat.le_of_ble_eq_true rfl) ⟨Nat.zero_le _, Nat.zero_le _⟩ (pc := 46) dX10_wantNumber_46 (fun H locs hP hS => ?_)
      change W p l e _ s m _ below meth c H locs _ _ _ (F0 m (46 + 3) ls [])
      refine lv_iload_n (pc := 49) hx hb dX10_wantNumber_49 rfl (lv_at hl 0 rfl) ?_
      obtain ⟨rfl, rfl⟩ := inj2 h
      exact r_iret X hP hS dX10_wantNumber_50
  · have h := ineg c1 h
    refine lv_aload_n (pc := 13) hx hb dX10_wantNumber_13 rfl (lv_at hl 1 rfl) ?_
    refine gt_X10_155 X hP hk0 dX10_wantNumber_14 ?_
    refine lv_iconst (pc := 17) (v := 2) hx hb dX10_wantNumber_17 (by decide) ?_
    refine lv_icmp_ne (pc := 18) (tgt := 34) hx hb dX10_wantNumber_18 (by decide) (fun c7 => ?_) (fun c7 => ?_)
    · have h := ineg c7 h
      refine lv_iconst (pc := 34) (v := 0) hx hb dX10_wantNumber_34 (by decide) ?_
      obtain ⟨σ8, e9, h⟩ := bnd1 h
      refine pt_X10_187 X hP hS hk0 (by decide) dX10_wantNumber_35 (fun H locs hP hS => ?_)
      rw [Option.some.inj e9] at hP
      refine lv_aload_n (pc := 38) hx hb dX10_wantNumber_38 rfl (lv_at hl 1 rfl) ?_
      refine gt_X10_187 X hP hk0 dX10_wantNumber_39 ?_
      refine lv_if_eq (pc := 42) (tgt := 49) hx hb dX10_wantNumber_42 (by decide) (fun c10 => ?_) (fun c10 => ?_)
      · have h := ipos c10 h
        refine lv_iload_n (pc := 49) hx hb dX10_wantNumber_49 rfl (lv_at hl 0 rfl) ?_
        obtain ⟨rfl, rfl⟩ := inj2 h
        exact r_iret X hP hS dX10_wantNumber_50
      · have h := ineg c10 h
        refine lv_aload_n (pc := 45) hx hb dX10_wantNumber_45 rfl (lv_at hl 1 rfl) ?_
        obtain ⟨σ11, e12, h⟩ := bnd1 h
        refine cl_X10_191 X hP hS hk0 (As := []) (rest := []) (c_X10_advance l G hk0 e12) ⟨rfl, rfl, Nat.le_of_ble_eq_true rfl, Nat.le_of_ble_eq_true rfl⟩ rfl hl.1 rfl (Nat.le_of_ble_eq_true rfl) ⟨Nat.zero_le _, Nat.zero_le _⟩ (pc := 46) dX10_wantNumber_46 (fun H locs hP hS => ?_)
        change W p l e _ s m _ below meth c H locs _ _ _ (F0 m (46 + 3) ls [])
        refine lv_iload_n (pc := 49) hx hb dX10_wantNumber_49 rfl (lv_at hl 0 rfl) ?_
        obtain ⟨rfl, rfl⟩ := inj2 h
        exact r_iret X hP hS dX10_wantNumber_50
    · have h := ipos c7 h
      refine lv_iload_n (pc := 21) hx hb dX10_wantNumber_21 rfl (lv_at hl 0 rfl) ?_
      refine lv_iload_n (pc := 22) hx hb dX10_wantNumber_22 rfl (lv_at hl 2 rfl) ?_
      refine lv_iload_n (pc := 23) hx hb dX10_wantNumber_23 rfl (lv_at hl 3 rfl) ?_
      obtain ⟨r15, σ13, e14, h⟩ := bnd2 h
      refine cl_X10_120 X hP hS (As := [.int (gI σ k0 21), .int a1, .int a2]) (rest := [.ref (ga G k0)]) (c_X10_in l G  e14) ⟨rfl, rfl, Nat.le_of_ble_eq_true rfl, Nat.le_of_ble_eq_true rfl⟩ rfl hl.1 rfl (Nat.le_of_ble_eq_true rfl) ⟨Nat.zero_le _, Nat.zero_le _⟩ (pc := 24) dX10_wantNumber_24 (fun H locs hP hS => ?_)
      change W p l e _ s m _ below meth c H locs _ _ _ (F0 m (24 + 3) ls (.int r15 :: [.ref (ga G k0)]))
      refine lv_if_eq (pc := 27) (tgt := 34) hx hb dX10_wantNumber_27 (by decide) (fun c16 => ?_) (fun c16 => ?_)
      · have h := ipos c16 h
        refine lv_iconst (pc := 34) (v := 0) hx hb dX10_wantNumber_34 (by decide) ?_
        obtain ⟨σ17, e18, h⟩ := bnd1 h
        refine pt_X10_187 X hP hS hk0 (by decide) dX10_wantNumber_35 (fun H locs hP hS => ?_)
        rw [Option.some.inj e18] at hP
        refine lv_aload_n (pc := 38) hx hb dX10_wantNumber_38 rfl (lv_at hl 1 rfl) ?_
        refine gt_X10_187 X hP hk0 dX10_wantNumber_39 ?_
        refine lv_if_eq (pc := 42) (tgt := 49) hx hb dX10_wantNumber_42 (by decide) (fun c19 => ?_) (fun c19 => ?_)
        · have h := ipos c19 h
          refine lv_iload_n (pc := 49) hx hb dX10_wantNumber_49 rfl (lv_at hl 0 rfl) ?_
          obtain ⟨rfl, rfl⟩ := inj2 h
          exact r_iret X hP hS dX10_wantNumber_50
        · have h := ineg c19 h
          refine lv_aload_n (pc := 45) hx hb dX10_wantNumber_45 rfl (lv_at hl 1 rfl) ?_
          obtain ⟨σ20, e21, h⟩ := bnd1 h
          refine cl_X10_191 X hP hS hk0 (As := []) (rest := []) (c_X10_advance l G hk0 e21) ⟨rfl, rfl, Nat.le_of_ble_eq_true rfl, Nat.le_of_ble_eq_true rfl⟩ rfl hl.1 rfl (Nat.le_of_ble_eq_true rfl) ⟨Nat.zero_le _, Nat.zero_le _⟩ (pc := 46) dX10_wantNumber_46 (fun H locs hP hS => ?_)
          change W p l e _ s m _ below meth c H locs _ _ _ (F0 m (46 + 3) ls [])
          refine lv_iload_n (pc := 49) hx hb dX10_wantNumber_49 rfl (lv_at hl 0 rfl) ?_
          obtain ⟨rfl, rfl⟩ := inj2 h
          exact r_iret X hP hS dX10_wantNumber_50
      · have h := ineg c16 h
        refine lv_iconst (pc := 30) (v := 1) hx hb dX10_wantNumber_30 (by decide) ?_
        refine lv_goto (pc := 31) (tgt := 35) hx hb dX10_wantNumber_31 (by decide) ?_
        obtain ⟨σ22, e23, h⟩ := bnd1 h
        refine pt_X10_187 X hP hS hk0 (by decide) dX10_wantNumber_35 (fun H locs hP hS => ?_)
        rw [Option.some.inj e23] at hP
        refine lv_aload_n (pc := 38) hx hb dX10_wantNumber_38 rfl (lv_at hl 1 rfl) ?_
        refine gt_X10_187 X hP hk0 dX10_wantNumber_39 ?_
        refine lv_if_eq (pc := 42) (tgt := 49) hx hb dX10_wantNumber_42 (by decide) (fun c24 => ?_) (fun c24 => ?_)
        · have h := ipos c24 h
          refine lv_iload_n (pc := 49) hx hb dX10_wantNumber_49 rfl (lv_at hl 0 rfl) ?_
          obtain ⟨rfl, rfl⟩ := inj2 h
          exact r_iret X hP hS dX10_wantNumber_50
        · have h := ineg c24 h
          refine lv_aload_n (pc := 45) hx hb dX10_wantNumber_45 rfl (lv_at hl 1 rfl) ?_
          obtain ⟨σ25, e26, h⟩ := bnd1 h
          refine cl_X10_191 X hP hS hk0 (As := []) (rest := []) (c_X10_advance l G hk0 e26) ⟨rfl, rfl, Nat.le_of_ble_eq_true rfl, Nat.le_of_ble_eq_true rfl⟩ rfl hl.1 rfl (Nat.le_of_ble_eq_true rfl) ⟨Nat.zero_le _, Nat.zero_le _⟩ (pc := 46) dX10_wantNumber_46 (fun H locs hP hS => ?_)
          change W p l e _ s m _ below meth c H locs _ _ _ (F0 m (46 + 3) ls [])
          refine lv_iload_n (pc := 49) hx hb dX10_wantNumber_49 rfl (lv_at hl 0 rfl) ?_
          obtain ⟨rfl, rfl⟩ := inj2 h
          exact r_iret X hP hS dX10_wantNumber_50
def f_X10_wantWord (k0 : Nat) (a1 : Int64) (σ : Mem) : Option Mem :=
  if (gI σ k0 22) = (0 : Int32) then
    bd1 (some (pI σ k0 22 (0 : Int32))) fun σ2 =>
    if (gI σ2 k0 22) = (0 : Int32) then
      some σ2
    else
      bd1 (f_X10_advance k0 σ2) fun σ5 =>
      some σ5
  else
    bd2 (f_X10_isWord k0 a1 σ) fun r9 σ7 =>
    if r9 = (0 : Int32) then
      bd1 (some (pI σ7 k0 22 (0 : Int32))) fun σ11 =>
      if (gI σ11 k0 22) = (0 : Int32) then
        some σ11
      else
        bd1 (f_X10_advance k0 σ11) fun σ14 =>
        some σ14
    else
      bd1 (some (pI σ7 k0 22 (1 : Int32))) fun σ16 =>
      if (gI σ16 k0 22) = (0 : Int32) then
        some σ16
      else
        bd1 (f_X10_advance k0 σ16) fun σ19 =>
        some σ19
abbrev RM_X10_wantWord : Room := { frames := 3, cells := 0, slots := 0, locals := 63 }
set_option maxHeartbeats 4000000 in
set_option maxRecDepth 100000 in
theorem c_X10_wantWord (l : Launch) (G : Gh) {k0 : Nat} {a1 : Int64} {σ : Mem} {σr : Mem} (hk0 : kd k0 = 10) (h : f_X10_wantWord k0 a1 σ = some σr) : Met l yX10_wantWord [Cond.code yX10_wantWord prog_12_method_19_code 3 none] RM_X10_wantWord (va_Pc [.ref (ga G k0), .long a1] (Pre G σ)) (QG G none σr) 0 0 (AA G) := by
  refine ct_of (by decide) (fun p e s m below meth c X hP => ?_)
  have hx := X.hx
  have hb := X.hb
  have hS : va_S (AA G) s.heap s.heap [] := va_S.rf
  have hl := lv_entry ([.ref (ga G k0), .long a1]) (n := 3) (Nat.le_of_ble_eq_true rfl)
  rw [lg_entry_eq]
  generalize (lg_sl ([.ref (ga G k0), .long a1]) ++ List.replicate (3 - (lg_sl ([.ref (ga G k0), .long a1])).length) Slot.unset).toArray = ls at hl ⊢
  have hl : lv_has ls 3 [(0, .ref (ga G k0)), (1, .long a1)] := hl
  unfold f_X10_wantWord at h
  refine lv_aload_n (pc := 0) hx hb dX10_wantWord_0 rfl (lv_at hl 0 rfl) ?_
  refine lv_aload_n (pc := 1) hx hb dX10_wantWord_1 rfl (lv_at hl 0 rfl) ?_
  refine gt_X10_187 X hP hk0 dX10_wantWord_2 ?_
  refine lv_if_eq (pc := 5) (tgt := 20) hx hb dX10_wantWord_5 (by decide) (fun c1 => ?_) (fun c1 => ?_)
  · have h := ipos c1 h
    refine lv_iconst (pc := 20) (v := 0) hx hb dX10_wantWord_20 (by decide) ?_
    obtain ⟨σ2, e3, h⟩ := bnd1 h
    refine pt_X10_187 X hP hS hk0 (by decide) dX10_wantWord_21 (fun H locs hP hS => ?_)
    rw [Option.some.inj e3] at hP
    refine lv_aload_n (pc := 24) hx hb dX10_wantWord_24 rfl (lv_at hl 0 rfl) ?_
    refine gt_X10_187 X hP hk0 dX10_wantWord_25 ?_
    refine lv_if_eq (pc := 28) (tgt := 35) hx hb dX10_wantWord_28 (by decide) (fun c4 => ?_) (fun c4 => ?_)
    · have h := ipos c4 h
      obtain rfl := Option.some.inj h
      exact r_vret X hP hS dX10_wantWord_35
    · have h := ineg c4 h
      refine lv_aload_n (pc := 31) hx hb dX10_wantWord_31 rfl (lv_at hl 0 rfl) ?_
      obtain ⟨σ5, e6, h⟩ := bnd1 h
      refine cl_X10_191 X hP hS hk0 (As := []) (rest := []) (c_X10_advance l G hk0 e6) ⟨rfl, rfl, Nat.le_of_ble_eq_true rfl, Nat.le_of_ble_eq_true rfl⟩ rfl hl.1 rfl (Nat.le_of_ble_eq_true rfl) ⟨Nat.zero_le _, Nat.zero_le _⟩ (pc := 32) dX10_wantWord_32 (fun H locs hP hS => ?_)
      change W p l e _ s m _ below meth c H locs _ _ _ (F0 m (32 + 3) ls [])
      obtain rfl := Option.some.inj h
      exact r_vret X hP hS dX10_wantWord_35
  · have h := ineg c1 h
    refine lv_aload_n (pc := 8) hx hb dX10_wantWord_8 rfl (lv_at hl 0 rfl) ?_
    refine lv_lload_n (pc := 9) hx hb dX10_wantWord_9 rfl (lv_at hl 1 rfl) ?_
    obtain ⟨r9, σ7, e8, h⟩ := bnd2 h
    refine cl_X10_173 X hP hS hk0 (As := [.long a1]) (rest := [.ref (ga G k0)]) (c_X10_isWord l G hk0 e8) ⟨rfl, rfl, Nat.le_of_ble_eq_true rfl, Nat.le_of_ble_eq_true rfl⟩ rfl hl.1 rfl (Nat.le_of_ble_eq_true rfl) ⟨Nat.zero_le _, Nat.zero_le _⟩ (pc := 10) dX10_wantWord_10 (fun H locs hP hS => ?_)
    change W p l e _ s m _ below meth c H locs _ _ _ (F0 m (10 + 3) ls (.int r9 :: [.ref (ga G k0)]))
    refine lv_if_eq (pc := 13) (tgt := 20) hx hb dX10_wantWord_13 (by decide) (fun c10 => ?_) (fun c10 => ?_)
    · have h := ipos c10 h
      refine lv_iconst (pc := 20) (v := 0) hx hb dX10_wantWord_20 (by decide) ?_
      obtain ⟨σ11, e12, h⟩ := bnd1 h
      refine pt_X10_187 X hP hS hk0 (by decide) dX10_wantWord_21 (fun H locs hP hS => ?_)
      rw [Option.some.inj e12] at hP
      refine lv_aload_n (pc := 24) hx hb dX10_wantWord_24 rfl (lv_at hl 0 rfl) ?_
      refine gt_X10_187 X hP hk0 dX10_wantWord_25 ?_
      refine lv_if_eq (pc := 28) (tgt := 35) hx hb dX10_wantWord_28 (by decide) (fun c13 => ?_) (fun c13 => ?_)
      · have h := ipos c13 h
        obtain rfl := Option.some.inj h
        exact r_vret X hP hS dX10_wantWord_35
      · have h := ineg c13 h
        refine lv_aload_n (pc := 31) hx hb dX10_wantWord_31 rfl (lv_at hl 0 rfl) ?_
        obtain ⟨σ14, e15, h⟩ := bnd1 h
        refine cl_X10_191 X hP hS hk0 (As := []) (rest := []) (c_X10_advance l G hk0 e15) ⟨rfl, rfl, Nat.le_of_ble_eq_true rfl, Nat.le_of_ble_eq_true rfl⟩ rfl hl.1 rfl (Nat.le_of_ble_eq_true rfl) ⟨Nat.zero_le _, Nat.zero_le _⟩ (pc := 32) dX10_wantWord_32 (fun H locs hP hS => ?_)
        change W p l e _ s m _ below meth c H locs _ _ _ (F0 m (32 + 3) ls [])
        obtain rfl := Option.some.inj h
        exact r_vret X hP hS dX10_wantWord_35
    · have h := ineg c10 h
      refine lv_iconst (pc := 16) (v := 1) hx hb dX10_wantWord_16 (by decide) ?_
      refine lv_goto (pc := 17) (tgt := 21) hx hb dX10_wantWord_17 (by decide) ?_
      obtain ⟨σ16, e17, h⟩ := bnd1 h
      refine pt_X10_187 X hP hS hk0 (by decide) dX10_wantWord_21 (fun H locs hP hS => ?_)
      rw [Option.some.inj e17] at hP
      refine lv_aload_n (pc := 24) hx hb dX10_wantWord_24 rfl (lv_at hl 0 rfl) ?_
      refine gt_X10_187 X hP hk0 dX10_wantWord_25 ?_
      refine lv_if_eq (pc := 28) (tgt := 35) hx hb dX10_wantWord_28 (by decide) (fun c18 => ?_) (fun c18 => ?_)
      · have h := ipos c18 h
        obtain rfl := Option.some.inj h
        exact r_vret X hP hS dX10_wantWord_35
      · have h := ineg c18 h
        refine lv_aload_n (pc := 31) hx hb dX10_wantWord_31 rfl (lv_at hl 0 rfl) ?_
        obtain ⟨σ19, e20, h⟩ := bnd1 h
        refine cl_X10_191 X hP hS hk0 (As := []) (rest := []) (c_X10_advance l G hk0 e20) ⟨rfl, rfl, Nat.le_of_ble_eq_true rfl, Nat.le_of_ble_eq_true rfl⟩ rfl hl.1 rfl (Nat.le_of_ble_eq_true rfl) ⟨Nat.zero_le _, Nat.zero_le _⟩ (pc := 32) dX10_wantWord_32 (fun H locs hP hS => ?_)
        change W p l e _ s m _ below meth c H locs _ _ _ (F0 m (32 + 3) ls [])
        obtain rfl := Option.some.inj h
        exact r_vret X hP hS dX10_wantWord_35
def f_X10_wantEnd (k0 : Nat) (σ : Mem) : Option Mem :=
  if (gI σ k0 22) = (0 : Int32) then
    bd1 (some (pI σ k0 22 (0 : Int32))) fun σ2 =>
    if (gI σ2 k0 22) = (0 : Int32) then
      some σ2
    else
      bd1 (f_X10_advance k0 σ2) fun σ5 =>
      some σ5
  else
    bd2 (f_X10_isMark k0 (59 : Int32) σ) fun r9 σ7 =>
    if r9 = (0 : Int32) then
      bd1 (some (pI σ7 k0 22 (0 : Int32))) fun σ11 =>
      if (gI σ11 k0 22) = (0 : Int32) then
        some σ11
      else
        bd1 (f_X10_advance k0 σ11) fun σ14 =>
        some σ14
    else
      bd1 (some (pI σ7 k0 22 (1 : Int32))) fun σ16 =>
      if (gI σ16 k0 22) = (0 : Int32) then
        some σ16
      else
        bd1 (f_X10_advance k0 σ16) fun σ19 =>
        some σ19
abbrev RM_X10_wantEnd : Room := { frames := 3, cells := 0, slots := 0, locals := 63 }
set_option maxHeartbeats 4000000 in
set_option maxRecDepth 100000 in
theorem c_X10_wantEnd (l : Launch) (G : Gh) {k0 : Nat} {σ : Mem} {σr : Mem} (hk0 : kd k0 = 10) (h : f_X10_wantEnd k0 σ = some σr) : Met l yX10_wantEnd [Cond.code yX10_wantEnd prog_12_method_20_code 1 none] RM_X10_wantEnd (va_Pc [.ref (ga G k0)] (Pre G σ)) (QG G none σr) 0 0 (AA G) := by
  refine ct_of (by decide) (fun p e s m below meth c X hP => ?_)
  have hx := X.hx
  have hb := X.hb
  have hS : va_S (AA G) s.heap s.heap [] := va_S.rf
  have hl := lv_entry ([.ref (ga G k0)]) (n := 1) (Nat.le_of_ble_eq_true rfl)
  rw [lg_entry_eq]
  generalize (lg_sl ([.ref (ga G k0)]) ++ List.replicate (1 - (lg_sl ([.ref (ga G k0)])).length) Slot.unset).toArray = ls at hl ⊢
  have hl : lv_has ls 1 [(0, .ref (ga G k0))] := hl
  unfold f_X10_wantEnd at h
  refine lv_aload_n (pc := 0) hx hb dX10_wantEnd_0 rfl (lv_at hl 0 rfl) ?_
  refine lv_aload_n (pc := 1) hx hb dX10_wantEnd_1 rfl (lv_at hl 0 rfl) ?_
  refine gt_X10_187 X hP hk0 dX10_wantEnd_2 ?_
  refine lv_if_eq (pc := 5) (tgt := 21) hx hb dX10_wantEnd_5 (by decide) (fun c1 => ?_) (fun c1 => ?_)
  · have h := ipos c1 h
    refine lv_iconst (pc := 21) (v := 0) hx hb dX10_wantEnd_21 (by decide) ?_
    obtain ⟨σ2, e3, h⟩ := bnd1 h
    refine pt_X10_187 X hP hS hk0 (by decide) dX10_wantEnd_22 (fun H locs hP hS => ?_)
    rw [Option.some.inj e3] at hP
    refine lv_aload_n (pc := 25) hx hb dX10_wantEnd_25 rfl (lv_at hl 0 rfl) ?_
    refine gt_X10_187 X hP hk0 dX10_wantEnd_26 ?_
    refine lv_if_eq (pc := 29) (tgt := 36) hx hb dX10_wantEnd_29 (by decide) (fun c4 => ?_) (fun c4 => ?_)
    · have h := ipos c4 h
      obtain rfl := Option.some.inj h
      exact r_vret X hP hS dX10_wantEnd_36
    · have h := ineg c4 h
      refine lv_aload_n (pc := 32) hx hb dX10_wantEnd_32 rfl (lv_at hl 0 rfl) ?_
      obtain ⟨σ5, e6, h⟩ := bnd1 h
      refine cl_X10_191 X hP hS hk0 (As := []) (rest := []) (c_X10_advance l G hk0 e6) ⟨rfl, rfl, Nat.le_of_ble_eq_true rfl, Nat.le_of_ble_eq_true rfl⟩ rfl hl.1 rfl (Nat.le_of_ble_eq_true rfl) ⟨Nat.zero_le _, Nat.zero_le _⟩ (pc := 33) dX10_wantEnd_33 (fun H locs hP hS => ?_)
      change W p l e _ s m _ below meth c H locs _ _ _ (F0 m (33 + 3) ls [])
      obtain rfl := Option.some.inj h
      exact r_vret X hP hS dX10_wantEnd_36
  · have h := ineg c1 h
    refine lv_aload_n (pc := 8) hx hb dX10_wantEnd_8 rfl (lv_at hl 0 rfl) ?_
    refine lv_bipush (pc := 9) (v := (59)) hx hb dX10_wantEnd_9 (by decide) ?_
    obtain ⟨r9, σ7, e8, h⟩ := bnd2 h
    refine cl_X10_194 X hP hS hk0 (As := [.int (59 : Int32)]) (rest := [.ref (ga G k0)]) (c_X10_isMark l G hk0 e8) ⟨rfl, rfl, Nat.le_of_ble_eq_true rfl, Nat.le_of_ble_eq_true rfl⟩ rfl hl.1 rfl (Nat.le_of_ble_eq_true rfl) ⟨Nat.zero_le _, Nat.zero_le _⟩ (pc := 11) dX10_wantEnd_11 (fun H locs hP hS => ?_)
    change W p l e _ s m _ below meth c H locs _ _ _ (F0 m (11 + 3) ls (.int r9 :: [.ref (ga G k0)]))
    refine lv_if_eq (pc := 14) (tgt := 21) hx hb dX10_wantEnd_14 (by decide) (fun c10 => ?_) (fun c10 => ?_)
    · have h := ipos c10 h
      refine lv_iconst (pc := 21) (v := 0) hx hb dX10_wantEnd_21 (by decide) ?_
      obtain ⟨σ11, e12, h⟩ := bnd1 h
      refine pt_X10_187 X hP hS hk0 (by decide) dX10_wantEnd_22 (fun H locs hP hS => ?_)
      rw [Option.some.inj e12] at hP
      refine lv_aload_n (pc := 25) hx hb dX10_wantEnd_25 rfl (lv_at hl 0 rfl) ?_
      refine gt_X10_187 X hP hk0 dX10_wantEnd_26 ?_
      refine lv_if_eq (pc := 29) (tgt := 36) hx hb dX10_wantEnd_29 (by decide) (fun c13 => ?_) (fun c13 => ?_)
      · have h := ipos c13 h
        obtain rfl := Option.some.inj h
        exact r_vret X hP hS dX10_wantEnd_36
      · have h := ineg c13 h
        refine lv_aload_n (pc := 32) hx hb dX10_wantEnd_32 rfl (lv_at hl 0 rfl) ?_
        obtain ⟨σ14, e15, h⟩ := bnd1 h
        refine cl_X10_191 X hP hS hk0 (As := []) (rest := []) (c_X10_advance l G hk0 e15) ⟨rfl, rfl, Nat.le_of_ble_eq_true rfl, Nat.le_of_ble_eq_true rfl⟩ rfl hl.1 rfl (Nat.le_of_ble_eq_true rfl) ⟨Nat.zero_le _, Nat.zero_le _⟩ (pc := 33) dX10_wantEnd_33 (fun H locs hP hS => ?_)
        change W p l e _ s m _ below meth c H locs _ _ _ (F0 m (33 + 3) ls [])
        obtain rfl := Option.some.inj h
        exact r_vret X hP hS dX10_wantEnd_36
    · have h := ineg c10 h
      refine lv_iconst (pc := 17) (v := 1) hx hb dX10_wantEnd_17 (by decide) ?_
      refine lv_goto (pc := 18) (tgt := 22) hx hb dX10_wantEnd_18 (by decide) ?_
      obtain ⟨σ16, e17, h⟩ := bnd1 h
      refine pt_X10_187 X hP hS hk0 (by decide) dX10_wantEnd_22 (fun H locs hP hS => ?_)
      rw [Option.some.inj e17] at hP
      refine lv_aload_n (pc := 25) hx hb dX10_wantEnd_25 rfl (lv_at hl 0 rfl) ?_
      refine gt_X10_187 X hP hk0 dX10_wantEnd_26 ?_
      refine lv_if_eq (pc := 29) (tgt := 36) hx hb dX10_wantEnd_29 (by decide) (fun c18 => ?_) (fun c18 => ?_)
      · have h := ipos c18 h
        obtain rfl := Option.some.inj h
        exact r_vret X hP hS dX10_wantEnd_36
      · have h := ineg c18 h
        refine lv_aload_n (pc := 32) hx hb dX10_wantEnd_32 rfl (lv_at hl 0 rfl) ?_
        obtain ⟨σ19, e20, h⟩ := bnd1 h
        refine cl_X10_191 X hP hS hk0 (As := []) (rest := []) (c_X10_advance l G hk0 e20) ⟨rfl, rfl, Nat.le_of_ble_eq_true rfl, Nat.le_of_ble_eq_true rfl⟩ rfl hl.1 rfl (Nat.le_of_ble_eq_true rfl) ⟨Nat.zero_le _, Nat.zero_le _⟩ (pc := 33) dX10_wantEnd_33 (fun H locs hP hS => ?_)
        change W p l e _ s m _ below meth c H locs _ _ _ (F0 m (33 + 3) ls [])
        obtain rfl := Option.some.inj h
        exact r_vret X hP hS dX10_wantEnd_36
def F_X10_wantLot_28 (k0z : Nat) (σ : Mem) : Option Mem :=
  bd2 (f_X10_wantNumber k0z (1 : Int32) (60 : Int32) σ) fun r7 σ5 =>
  bd1 (f_X10_wantWord k0z (12532058 : Int64) σ5) fun σ8 =>
  bd2 (f_X10_wantNumber k0z (1 : Int32) (99 : Int32) σ8) fun r12 σ10 =>
  bd1 (f_X10_wantEnd k0z σ10) fun σ13 =>
  if (gI σ13 k0z 22) = (0 : Int32) then
    some σ13
  else
    bd1 (ixo (k0z + 12) (gI σ13 k0z 23)) fun j16 =>
    bd1 (some (pI σ13 (k0z + 12) j16 r7)) fun σ18 =>
    bd1 (ixo (k0z + 13) (gI σ18 k0z 23)) fun j20 =>
    bd1 (some (pI σ18 (k0z + 13) j20 r12)) fun σ22 =>
    bd1 (some (pI σ22 k0z 23 ((gI σ22 k0z 23) + (1 : Int32)))) fun σ24 =>
    some σ24
def f_X10_wantLot (k0 : Nat) (σ : Mem) : Option Mem :=
  if (5 : Int32) ≤ (gI σ k0 23) then
    bd1 (some (pI σ k0 22 (0 : Int32))) fun σ2 =>
    if (gI σ2 k0 22) = (0 : Int32) then
      F_X10_wantLot_28 k0  σ2
    else
      bd1 (f_X10_advance k0 σ2) fun σ26 =>
      F_X10_wantLot_28 k0  σ26
  else
    bd1 (some (pI σ k0 22 (1 : Int32))) fun σ28 =>
    if (gI σ28 k0 22) = (0 : Int32) then
      F_X10_wantLot_28 k0  σ28
    else
      bd1 (f_X10_advance k0 σ28) fun σ31 =>
      F_X10_wantLot_28 k0  σ31
abbrev RM_X10_wantLot : Room := { frames := 4, cells := 0, slots := 0, locals := 86 }
set_option maxHeartbeats 4000000 in
set_option maxRecDepth 100000 in
theorem w_X10_wantLot_28 {l : Launch} {G : Gh} {p : Program} {e : Env} {s : State} {m : MethodId} {args : Array Value} {below : List Frame} {meth : Method} {c : Code} (X : Cx G p s m args meth c prog_12_method_21_code RX10 3 none) {k0z : Nat} (hz0 : kd k0z = 10) {σr : Mem} : ∀ (σ : Mem) (H : Heap) (locs : List Loc) (ls : Array Slot), PW G σ H → va_S (AA G) s.heap H locs → lv_has ls 3 [(0, .ref (ga G k0z))] → F_X10_wantLot_28 k0z  σ = some σr → W p l e RM_X10_wantLot s m args below meth c H locs 0 0 (MQ below (QG G none σr) args s 0 0 (AA G)) (F0 m 28 ls []) := by
  have hx := X.hx
  have hb := X.hb
  intro  σ H locs ls hP hS hl h
  unfold F_X10_wantLot_28 at h
  refine lv_aload_n (pc := 28) hx hb dX10_wantLot_28 rfl (lv_at hl 0 rfl) ?_
  refine lv_iconst (pc := 29) (v := 1) hx hb dX10_wantLot_29 (by decide) ?_
  refine lv_bipush (pc := 30) (v := (60)) hx hb dX10_wantLot_30 (by decide) ?_
  obtain ⟨r7, σ5, e6, h⟩ := bnd2 h
  refine cl_X10_200 X hP hS hz0 (As := [.int (1 : Int32), .int (60 : Int32)]) (rest := []) (c_X10_wantNumber l G hz0 e6) ⟨rfl, rfl, Nat.le_of_ble_eq_true rfl, Nat.le_of_ble_eq_true rfl⟩ rfl hl.1 rfl (Nat.le_of_ble_eq_true rfl) ⟨Nat.zero_le _, Nat.zero_le _⟩ (pc := 32) dX10_wantLot_32 (fun H locs hP hS => ?_)
  change W p l e _ s m _ below meth c H locs _ _ _ (F0 m (32 + 3) ls (.int r7 :: []))
  refine lv_istore_n (pc := 35) (lv' := [(1, .int r7), (0, .ref (ga G k0z))]) hx hb dX10_wantLot_35 rfl hl (by decide) rfl (fun ls hl => ?_)
  refine lv_aload_n (pc := 36) hx hb dX10_wantLot_36 rfl (lv_at hl 1 rfl) ?_
  refine lv_ldc2 (pc := 37) (v := (12532058)) hx hb X.hown (X.tb tw_1218 rfl) dX10_wantLot_37 ?_
  obtain ⟨σ8, e9, h⟩ := bnd1 h
  refine cl_X10_206 X hP hS hz0 (As := [.long (12532058 : Int64)]) (rest := []) (c_X10_wantWord l G hz0 e9) ⟨rfl, rfl, Nat.le_of_ble_eq_true rfl, Nat.le_of_ble_eq_true rfl⟩ rfl hl.1 rfl (Nat.le_of_ble_eq_true rfl) ⟨Nat.zero_le _, Nat.zero_le _⟩ (pc := 40) dX10_wantLot_40 (fun H locs hP hS => ?_)
  change W p l e _ s m _ below meth c H locs _ _ _ (F0 m (40 + 3) ls [])
  refine lv_aload_n (pc := 43) hx hb dX10_wantLot_43 rfl (lv_at hl 1 rfl) ?_
  refine lv_iconst (pc := 44) (v := 1) hx hb dX10_wantLot_44 (by decide) ?_
  refine lv_bipush (pc := 45) (v := (99)) hx hb dX10_wantLot_45 (by decide) ?_
  obtain ⟨r12, σ10, e11, h⟩ := bnd2 h
  refine cl_X10_200 X hP hS hz0 (As := [.int (1 : Int32), .int (99 : Int32)]) (rest := []) (c_X10_wantNumber l G hz0 e11) ⟨rfl, rfl, Nat.le_of_ble_eq_true rfl, Nat.le_of_ble_eq_true rfl⟩ rfl hl.1 rfl (Nat.le_of_ble_eq_true rfl) ⟨Nat.zero_le _, Nat.zero_le _⟩ (pc := 47) dX10_wantLot_47 (fun H locs hP hS => ?_)
  change W p l e _ s m _ below meth c H locs _ _ _ (F0 m (47 + 3) ls (.int r12 :: []))
  refine lv_istore_n (pc := 50) (lv' := [(2, .int r12), (1, .int r7), (0, .ref (ga G k0z))]) hx hb dX10_wantLot_50 rfl hl (by decide) rfl (fun ls hl => ?_)
  refine lv_aload_n (pc := 51) hx hb dX10_wantLot_51 rfl (lv_at hl 2 rfl) ?_
  obtain ⟨σ13, e14, h⟩ := bnd1 h
  refine cl_X10_210 X hP hS hz0 (As := []) (rest := []) (c_X10_wantEnd l G hz0 e14) ⟨rfl, rfl, Nat.le_of_ble_eq_true rfl, Nat.le_of_ble_eq_true rfl⟩ rfl hl.1 rfl (Nat.le_of_ble_eq_true rfl) ⟨Nat.zero_le _, Nat.zero_le _⟩ (pc := 52) dX10_wantLot_52 (fun H locs hP hS => ?_)
  change W p l e _ s m _ below meth c H locs _ _ _ (F0 m (52 + 3) ls [])
  refine lv_aload_n (pc := 55) hx hb dX10_wantLot_55 rfl (lv_at hl 2 rfl) ?_
  refine gt_X10_187 X hP hz0 dX10_wantLot_56 ?_
  refine lv_if_eq (pc := 59) (tgt := 92) hx hb dX10_wantLot_59 (by decide) (fun c15 => ?_) (fun c15 => ?_)
  · have h := ipos c15 h
    obtain rfl := Option.some.inj h
    exact r_vret X hP hS dX10_wantLot_92
  · have h := ineg c15 h
    refine lv_aload_n (pc := 62) hx hb dX10_wantLot_62 rfl (lv_at hl 2 rfl) ?_
    refine gt_X10_50 X hP hz0 dX10_wantLot_63 ?_
    refine lv_aload_n (pc := 66) hx hb dX10_wantLot_66 rfl (lv_at hl 2 rfl) ?_
    refine gt_X10_197 X hP hz0 dX10_wantLot_67 ?_
    refine lv_iload_n (pc := 70) hx hb dX10_wantLot_70 rfl (lv_at hl 1 rfl) ?_
    obtain ⟨j16, hj17, h⟩ := bnd1 h
    obtain ⟨σ18, e19, h⟩ := bnd1 h
    refine r_iast (pc := 71) X hP hS (kf_10_freshWaxes hz0).1 hj17 dX10_wantLot_71 (fun H locs hP hS => ?_)
    rw [Option.some.inj e19] at hP
    refine lv_aload_n (pc := 72) hx hb dX10_wantLot_72 rfl (lv_at hl 2 rfl) ?_
    refine gt_X10_53 X hP hz0 dX10_wantLot_73 ?_
    refine lv_aload_n (pc := 76) hx hb dX10_wantLot_76 rfl (lv_at hl 2 rfl) ?_
    refine gt_X10_197 X hP hz0 dX10_wantLot_77 ?_
    refine lv_iload_n (pc := 80) hx hb dX10_wantLot_80 rfl (lv_at hl 0 rfl) ?_
    obtain ⟨j20, hj21, h⟩ := bnd1 h
    obtain ⟨σ22, e23, h⟩ := bnd1 h
    refine r_iast (pc := 81) X hP hS (kf_10_freshWorths hz0).1 hj21 dX10_wantLot_81 (fun H locs hP hS => ?_)
    rw [Option.some.inj e23] at hP
    refine lv_aload_n (pc := 82) hx hb dX10_wantLot_82 rfl (lv_at hl 2 rfl) ?_
    refine lv_dup (pc := 83) hx hb dX10_wantLot_83 rfl ?_
    refine gt_X10_197 X hP hz0 dX10_wantLot_84 ?_
    refine lv_iconst (pc := 87) (v := 1) hx hb dX10_wantLot_87 (by decide) ?_
    refine lv_iadd (pc := 88) hx hb dX10_wantLot_88 ?_
    obtain ⟨σ24, e25, h⟩ := bnd1 h
    refine pt_X10_197 X hP hS hz0 dX10_wantLot_89 (fun H locs hP hS => ?_)
    rw [Option.some.inj e25] at hP
    obtain rfl := Option.some.inj h
    exact r_vret X hP hS dX10_wantLot_92
set_option maxHeartbeats 4000000 in
set_option maxRecDepth 100000 in
theorem c_X10_wantLot (l : Launch) (G : Gh) {k0 : Nat} {σ : Mem} {σr : Mem} (hk0 : kd k0 = 10) (h : f_X10_wantLot k0 σ = some σr) : Met l yX10_wantLot [Cond.code yX10_wantLot prog_12_method_21_code 3 none] RM_X10_wantLot (va_Pc [.ref (ga G k0)] (Pre G σ)) (QG G none σr) 0 0 (AA G) := by
  refine ct_of (by decide) (fun p e s m below meth c X hP => ?_)
  have hx := X.hx
  have hb := X.hb
  have hS : va_S (AA G) s.heap s.heap [] := va_S.rf
  have hl := lv_entry ([.ref (ga G k0)]) (n := 3) (Nat.le_of_ble_eq_true rfl)
  rw [lg_entry_eq]
  generalize (lg_sl ([.ref (ga G k0)]) ++ List.replicate (3 - (lg_sl ([.ref (ga G k0)])).length) Slot.unset).toArray = ls at hl ⊢
  have hl : lv_has ls 3 [(0, .ref (ga G k0))] := hl
  unfold f_X10_wantLot at h
  refine lv_aload_n (pc := 0) hx hb dX10_wantLot_0 rfl (lv_at hl 0 rfl) ?_
  refine lv_aload_n (pc := 1) hx hb dX10_wantLot_1 rfl (lv_at hl 0 rfl) ?_
  refine gt_X10_197 X hP hk0 dX10_wantLot_2 ?_
  refine lv_iconst (pc := 5) (v := 5) hx hb dX10_wantLot_5 (by decide) ?_
  refine lv_icmp_ge (pc := 6) (tgt := 13) hx hb dX10_wantLot_6 (by decide) (fun c1 => ?_) (fun c1 => ?_)
  · have h := ipos c1 h
    refine lv_iconst (pc := 13) (v := 0) hx hb dX10_wantLot_13 (by decide) ?_
    obtain ⟨σ2, e3, h⟩ := bnd1 h
    refine pt_X10_187 X hP hS hk0 (by decide) dX10_wantLot_14 (fun H locs hP hS => ?_)
    rw [Option.some.inj e3] at hP
    refine lv_aload_n (pc := 17) hx hb dX10_wantLot_17 rfl (lv_at hl 0 rfl) ?_
    refine gt_X10_187 X hP hk0 dX10_wantLot_18 ?_
    refine lv_if_eq (pc := 21) (tgt := 28) hx hb dX10_wantLot_21 (by decide) (fun c4 => ?_) (fun c4 => ?_)
    · have h := ipos c4 h
      exact w_X10_wantLot_28 X  hk0   _ _ _ _ hP hS (lv_sub hl [0] rfl) h
    · have h := ineg c4 h
      refine lv_aload_n (pc := 24) hx hb dX10_wantLot_24 rfl (lv_at hl 0 rfl) ?_
      obtain ⟨σ26, e27, h⟩ := bnd1 h
      refine cl_X10_191 X hP hS hk0 (As := []) (rest := []) (c_X10_advance l G hk0 e27) ⟨rfl, rfl, Nat.le_of_ble_eq_true rfl, Nat.le_of_ble_eq_true rfl⟩ rfl hl.1 rfl (Nat.le_of_ble_eq_true rfl) ⟨Nat.zero_le _, Nat.zero_le _⟩ (pc := 25) dX10_wantLot_25 (fun H locs hP hS => ?_)
      change W p l e _ s m _ below meth c H locs _ _ _ (F0 m (25 + 3) ls [])
      exact w_X10_wantLot_28 X  hk0   _ _ _ _ hP hS (lv_sub hl [0] rfl) h
  · have h := ineg c1 h
    refine lv_iconst (pc := 9) (v := 1) hx hb dX10_wantLot_9 (by decide) ?_
    refine lv_goto (pc := 10) (tgt := 14) hx hb dX10_wantLot_10 (by decide) ?_
    obtain ⟨σ28, e29, h⟩ := bnd1 h
    refine pt_X10_187 X hP hS hk0 (by decide) dX10_wantLot_14 (fun H locs hP hS => ?_)
    rw [Option.some.inj e29] at hP
    refine lv_aload_n (pc := 17) hx hb dX10_wantLot_17 rfl (lv_at hl 0 rfl) ?_
    refine gt_X10_187 X hP hk0 dX10_wantLot_18 ?_
    refine lv_if_eq (pc := 21) (tgt := 28) hx hb dX10_wantLot_21 (by decide) (fun c30 => ?_) (fun c30 => ?_)
    · have h := ipos c30 h
      exact w_X10_wantLot_28 X  hk0   _ _ _ _ hP hS (lv_sub hl [0] rfl) h
    · have h := ineg c30 h
      refine lv_aload_n (pc := 24) hx hb dX10_wantLot_24 rfl (lv_at hl 0 rfl) ?_
      obtain ⟨σ31, e32, h⟩ := bnd1 h
      refine cl_X10_191 X hP hS hk0 (As := []) (rest := []) (c_X10_advance l G hk0 e32) ⟨rfl, rfl, Nat.le_of_ble_eq_true rfl, Nat.le_of_ble_eq_true rfl⟩ rfl hl.1 rfl (Nat.le_of_ble_eq_true rfl) ⟨Nat.zero_le _, Nat.zero_le _⟩ (pc := 25) dX10_wantLot_25 (fun H locs hP hS => ?_)
      change W p l e _ s m _ below meth c H locs _ _ _ (F0 m (25 + 3) ls [])
      exact w_X10_wantLot_28 X  hk0   _ _ _ _ hP hS (lv_sub hl [0] rfl) h
def F_X10_wantBidder_29 (k0z : Nat) (v1 : Int32) (σ : Mem) : Option Mem :=
  bd2 (f_X10_wantNumber k0z (0 : Int32) (9 : Int32) σ) fun r7 σ5 =>
  bd1 (f_X10_wantWord k0z (11720705 : Int64) σ5) fun σ8 =>
  bd2 (f_X10_wantNumber k0z (0 : Int32) (999 : Int32) σ8) fun r12 σ10 =>
  bd1 (f_X10_wantWord k0z (8930039 : Int64) σ10) fun σ13 =>
  bd2 (f_X10_wantNumber k0z (0 : Int32) (9999 : Int32) σ13) fun r17 σ15 =>
  bd1 (f_X10_wantEnd k0z σ15) fun σ18 =>
  if (gI σ18 k0z 22) = (0 : Int32) then
    some σ18
  else
    bd1 (ixo (k0z + 14) (gI σ18 k0z 24)) fun j21 =>
    bd1 (some (pI σ18 (k0z + 14) j21 v1)) fun σ23 =>
    bd1 (ixo (k0z + 15) (gI σ23 k0z 24)) fun j25 =>
    bd1 (some (pI σ23 (k0z + 15) j25 r7)) fun σ27 =>
    bd1 (ixo (k0z + 16) (gI σ27 k0z 24)) fun j29 =>
    bd1 (some (pI σ27 (k0z + 16) j29 r12)) fun σ31 =>
    bd1 (ixo (k0z + 17) (gI σ31 k0z 24)) fun j33 =>
    bd1 (some (pI σ31 (k0z + 17) j33 r17)) fun σ35 =>
    bd1 (some (pI σ35 k0z 24 ((gI σ35 k0z 24) + (1 : Int32)))) fun σ37 =>
    some σ37
def f_X10_wantBidder (k0 : Nat) (a1 : Int32) (σ : Mem) : Option Mem :=
  if (6 : Int32) ≤ (gI σ k0 24) then
    bd1 (some (pI σ k0 22 (0 : Int32))) fun σ2 =>
    if (gI σ2 k0 22) = (0 : Int32) then
      F_X10_wantBidder_29 k0 a1 σ2
    else
      bd1 (f_X10_advance k0 σ2) fun σ39 =>
      F_X10_wantBidder_29 k0 a1 σ39
  else
    bd1 (some (pI σ k0 22 (1 : Int32))) fun σ41 =>
    if (gI σ41 k0 22) = (0 : Int32) then
      F_X10_wantBidder_29 k0 a1 σ41
    else
      bd1 (f_X10_advance k0 σ41) fun σ44 =>
      F_X10_wantBidder_29 k0 a1 σ44
abbrev RM_X10_wantBidder : Room := { frames := 4, cells := 0, slots := 0, locals := 86 }
set_option maxHeartbeats 4000000 in
set_option maxRecDepth 100000 in
theorem w_X10_wantBidder_29 {l : Launch} {G : Gh} {p : Program} {e : Env} {s : State} {m : MethodId} {args : Array Value} {below : List Frame} {meth : Method} {c : Code} (X : Cx G p s m args meth c prog_12_method_22_code RX10 5 none) {k0z : Nat} (hz0 : kd k0z = 10) {σr : Mem} : ∀ (v1 : Int32) (σ : Mem) (H : Heap) (locs : List Loc) (ls : Array Slot), PW G σ H → va_S (AA G) s.heap H locs → lv_has ls 5 [(0, .ref (ga G k0z)), (1, .int v1)] → F_X10_wantBidder_29 k0z v1 σ = some σr → W p l e RM_X10_wantBidder s m args below meth c H locs 0 0 (MQ below (QG G none σr) args s 0 0 (AA G)) (F0 m 29 ls []) := by
  have hx := X.hx
  have hb := X.hb
  intro v1 σ H locs ls hP hS hl h
  unfold F_X10_wantBidder_29 at h
  refine lv_aload_n (pc := 29) hx hb dX10_wantBidder_29 rfl (lv_at hl 0 rfl) ?_
  refine lv_iconst (pc := 30) (v := 0) hx hb dX10_wantBidder_30 (by decide) ?_
  refine lv_bipush (pc := 31) (v := (9)) hx hb dX10_wantBidder_31 (by decide) ?_
  obtain ⟨r7, σ5, e6, h⟩ := bnd2 h
  refine cl_X10_200 X hP hS hz0 (As := [.int (0 : Int32), .int (9 : Int32)]) (rest := []) (c_X10_wantNumber l G hz0 e6) ⟨rfl, rfl, Nat.le_of_ble_eq_true rfl, Nat.le_of_ble_eq_true rfl⟩ rfl hl.1 rfl (Nat.le_of_ble_eq_true rfl) ⟨Nat.zero_le _, Nat.zero_le _⟩ (pc := 33) dX10_wantBidder_33 (fun H locs hP hS => ?_)
  change W p l e _ s m _ below meth c H locs _ _ _ (F0 m (33 + 3) ls (.int r7 :: []))
  refine lv_istore_n (pc := 36) (lv' := [(2, .int r7), (0, .ref (ga G k0z)), (1, .int v1)]) hx hb dX10_wantBidder_36 rfl hl (by decide) rfl (fun ls hl => ?_)
  refine lv_aload_n (pc := 37) hx hb dX10_wantBidder_37 rfl (lv_at hl 1 rfl) ?_
  refine lv_ldc2 (pc := 38) (v := (11720705)) hx hb X.hown (X.tb tw_1251 rfl) dX10_wantBidder_38 ?_
  obtain ⟨σ8, e9, h⟩ := bnd1 h
  refine cl_X10_206 X hP hS hz0 (As := [.long (11720705 : Int64)]) (rest := []) (c_X10_wantWord l G hz0 e9) ⟨rfl, rfl, Nat.le_of_ble_eq_true rfl, Nat.le_of_ble_eq_true rfl⟩ rfl hl.1 rfl (Nat.le_of_ble_eq_true rfl) ⟨Nat.zero_le _, Nat.zero_le _⟩ (pc := 41) dX10_wantBidder_41 (fun H locs hP hS => ?_)
  change W p l e _ s m _ below meth c H locs _ _ _ (F0 m (41 + 3) ls [])
  refine lv_aload_n (pc := 44) hx hb dX10_wantBidder_44 rfl (lv_at hl 1 rfl) ?_
  refine lv_iconst (pc := 45) (v := 0) hx hb dX10_wantBidder_45 (by decide) ?_
  refine lv_sipush (pc := 46) (v := (999)) hx hb dX10_wantBidder_46 (by decide) ?_
  obtain ⟨r12, σ10, e11, h⟩ := bnd2 h
  refine cl_X10_200 X hP hS hz0 (As := [.int (0 : Int32), .int (999 : Int32)]) (rest := []) (c_X10_wantNumber l G hz0 e11) ⟨rfl, rfl, Nat.le_of_ble_eq_true rfl, Nat.le_of_ble_eq_true rfl⟩ rfl hl.1 rfl (Nat.le_of_ble_eq_true rfl) ⟨Nat.zero_le _, Nat.zero_le _⟩ (pc := 49) dX10_wantBidder_49 (fun H locs hP hS => ?_)
  change W p l e _ s m _ below meth c H locs _ _ _ (F0 m (49 + 3) ls (.int r12 :: []))
  refine lv_istore_n (pc := 52) (lv' := [(3, .int r12), (2, .int r7), (0, .ref (ga G k0z)), (1, .int v1)]) hx hb dX10_wantBidder_52 rfl hl (by decide) rfl (fun ls hl => ?_)
  refine lv_aload_n (pc := 53) hx hb dX10_wantBidder_53 rfl (lv_at hl 2 rfl) ?_
  refine lv_ldc2 (pc := 54) (v := (8930039)) hx hb X.hown (X.tb tw_1252 rfl) dX10_wantBidder_54 ?_
  obtain ⟨σ13, e14, h⟩ := bnd1 h
  refine cl_X10_206 X hP hS hz0 (As := [.long (8930039 : Int64)]) (rest := []) (c_X10_wantWord l G hz0 e14) ⟨rfl, rfl, Nat.le_of_ble_eq_true rfl, Nat.le_of_ble_eq_true rfl⟩ rfl hl.1 rfl (Nat.le_of_ble_eq_true rfl) ⟨Nat.zero_le _, Nat.zero_le _⟩ (pc := 57) dX10_wantBidder_57 (fun H locs hP hS => ?_)
  change W p l e _ s m _ below meth c H locs _ _ _ (F0 m (57 + 3) ls [])
  refine lv_aload_n (pc := 60) hx hb dX10_wantBidder_60 rfl (lv_at hl 2 rfl) ?_
  refine lv_iconst (pc := 61) (v := 0) hx hb dX10_wantBidder_61 (by decide) ?_
  refine lv_sipush (pc := 62) (v := (9999)) hx hb dX10_wantBidder_62 (by decide) ?_
  obtain ⟨r17, σ15, e16, h⟩ := bnd2 h
  refine cl_X10_200 X hP hS hz0 (As := [.int (0 : Int32), .int (9999 : Int32)]) (rest := []) (c_X10_wantNumber l G hz0 e16) ⟨rfl, rfl, Nat.le_of_ble_eq_true rfl, Nat.le_of_ble_eq_true rfl⟩ rfl hl.1 rfl (Nat.le_of_ble_eq_true rfl) ⟨Nat.zero_le _, Nat.zero_le _⟩ (pc := 65) dX10_wantBidder_65 (fun H locs hP hS => ?_)
  change W p l e _ s m _ below meth c H locs _ _ _ (F0 m (65 + 3) ls (.int r17 :: []))
  refine lv_istore (pc := 68) (lv' := [(4, .int r17), (3, .int r12), (2, .int r7), (0, .ref (ga G k0z)), (1, .int v1)]) hx hb dX10_wantBidder_68 hl (by decide) rfl (fun ls hl => ?_)
  refine lv_aload_n (pc := 70) hx hb dX10_wantBidder_70 rfl (lv_at hl 3 rfl) ?_
  obtain ⟨σ18, e19, h⟩ := bnd1 h
  refine cl_X10_210 X hP hS hz0 (As := []) (rest := []) (c_X10_wantEnd l G hz0 e19) ⟨rfl, rfl, Nat.le_of_ble_eq_true rfl, Nat.le_of_ble_eq_true rfl⟩ rfl hl.1 rfl (Nat.le_of_ble_eq_true rfl) ⟨Nat.zero_le _, Nat.zero_le _⟩ (pc := 71) dX10_wantBidder_71 (fun H locs hP hS => ?_)
  change W p l e _ s m _ below meth c H locs _ _ _ (F0 m (71 + 3) ls [])
  refine lv_aload_n (pc := 74) hx hb dX10_wantBidder_74 rfl (lv_at hl 3 rfl) ?_
  refine gt_X10_187 X hP hz0 dX10_wantBidder_75 ?_
  refine lv_if_eq (pc := 78) (tgt := 132) hx hb dX10_wantBidder_78 (by decide) (fun c20 => ?_) (fun c20 => ?_)
  · have h := ipos c20 h
    obtain rfl := Option.some.inj h
    exact r_vret X hP hS dX10_wantBidder_132
  · have h := ineg c20 h
    refine lv_aload_n (pc := 81) hx hb dX10_wantBidder_81 rfl (lv_at hl 3 rfl) ?_
    refine gt_X10_56 X hP hz0 dX10_wantBidder_82 ?_
    refine lv_aload_n (pc := 85) hx hb dX10_wantBidder_85 rfl (lv_at hl 3 rfl) ?_
    refine gt_X10_213 X hP hz0 dX10_wantBidder_86 ?_
    refine lv_iload_n (pc := 89) hx hb dX10_wantBidder_89 rfl (lv_at hl 4 rfl) ?_
    obtain ⟨j21, hj22, h⟩ := bnd1 h
    obtain ⟨σ23, e24, h⟩ := bnd1 h
    refine r_iast (pc := 90) X hP hS (kf_10_freshKinds hz0).1 hj22 dX10_wantBidder_90 (fun H locs hP hS => ?_)
    rw [Option.some.inj e24] at hP
    refine lv_aload_n (pc := 91) hx hb dX10_wantBidder_91 rfl (lv_at hl 3 rfl) ?_
    refine gt_X10_59 X hP hz0 dX10_wantBidder_92 ?_
    refine lv_aload_n (pc := 95) hx hb dX10_wantBidder_95 rfl (lv_at hl 3 rfl) ?_
    refine gt_X10_213 X hP hz0 dX10_wantBidder_96 ?_
    refine lv_iload_n (pc := 99) hx hb dX10_wantBidder_99 rfl (lv_at hl 2 rfl) ?_
    obtain ⟨j25, hj26, h⟩ := bnd1 h
    obtain ⟨σ27, e28, h⟩ := bnd1 h
    refine r_iast (pc := 100) X hP hS (kf_10_freshOwn hz0).1 hj26 dX10_wantBidder_100 (fun H locs hP hS => ?_)
    rw [Option.some.inj e28] at hP
    refine lv_aload_n (pc := 101) hx hb dX10_wantBidder_101 rfl (lv_at hl 3 rfl) ?_
    refine gt_X10_62 X hP hz0 dX10_wantBidder_102 ?_
    refine lv_aload_n (pc := 105) hx hb dX10_wantBidder_105 rfl (lv_at hl 3 rfl) ?_
    refine gt_X10_213 X hP hz0 dX10_wantBidder_106 ?_
    refine lv_iload_n (pc := 109) hx hb dX10_wantBidder_109 rfl (lv_at hl 1 rfl) ?_
    obtain ⟨j29, hj30, h⟩ := bnd1 h
    obtain ⟨σ31, e32, h⟩ := bnd1 h
    refine r_iast (pc := 110) X hP hS (kf_10_freshValues hz0).1 hj30 dX10_wantBidder_110 (fun H locs hP hS => ?_)
    rw [Option.some.inj e32] at hP
    refine lv_aload_n (pc := 111) hx hb dX10_wantBidder_111 rfl (lv_at hl 3 rfl) ?_
    refine gt_X10_65 X hP hz0 dX10_wantBidder_112 ?_
    refine lv_aload_n (pc := 115) hx hb dX10_wantBidder_115 rfl (lv_at hl 3 rfl) ?_
    refine gt_X10_213 X hP hz0 dX10_wantBidder_116 ?_
    refine lv_iload (pc := 119) hx hb dX10_wantBidder_119 (lv_at hl 0 rfl) ?_
    obtain ⟨j33, hj34, h⟩ := bnd1 h
    obtain ⟨σ35, e36, h⟩ := bnd1 h
    refine r_iast (pc := 121) X hP hS (kf_10_freshPurses hz0).1 hj34 dX10_wantBidder_121 (fun H locs hP hS => ?_)
    rw [Option.some.inj e36] at hP
    refine lv_aload_n (pc := 122) hx hb dX10_wantBidder_122 rfl (lv_at hl 3 rfl) ?_
    refine lv_dup (pc := 123) hx hb dX10_wantBidder_123 rfl ?_
    refine gt_X10_213 X hP hz0 dX10_wantBidder_124 ?_
    refine lv_iconst (pc := 127) (v := 1) hx hb dX10_wantBidder_127 (by decide) ?_
    refine lv_iadd (pc := 128) hx hb dX10_wantBidder_128 ?_
    obtain ⟨σ37, e38, h⟩ := bnd1 h
    refine pt_X10_213 X hP hS hz0 dX10_wantBidder_129 (fun H locs hP hS => ?_)
    rw [Option.some.inj e38] at hP
    obtain rfl := Option.some.inj h
    exact r_vret X hP hS dX10_wantBidder_132
set_option maxHeartbeats 4000000 in
set_option maxRecDepth 100000 in
theorem c_X10_wantBidder (l : Launch) (G : Gh) {k0 : Nat} {a1 : Int32} {σ : Mem} {σr : Mem} (hk0 : kd k0 = 10) (h : f_X10_wantBidder k0 a1 σ = some σr) : Met l yX10_wantBidder [Cond.code yX10_wantBidder prog_12_method_22_code 5 none] RM_X10_wantBidder (va_Pc [.ref (ga G k0), .int a1] (Pre G σ)) (QG G none σr) 0 0 (AA G) := by
  refine ct_of (by decide) (fun p e s m below meth c X hP => ?_)
  have hx := X.hx
  have hb := X.hb
  have hS : va_S (AA G) s.heap s.heap [] := va_S.rf
  have hl := lv_entry ([.ref (ga G k0), .int a1]) (n := 5) (Nat.le_of_ble_eq_true rfl)
  rw [lg_entry_eq]
  generalize (lg_sl ([.ref (ga G k0), .int a1]) ++ List.replicate (5 - (lg_sl ([.ref (ga G k0), .int a1])).length) Slot.unset).toArray = ls at hl ⊢
  have hl : lv_has ls 5 [(0, .ref (ga G k0)), (1, .int a1)] := hl
  unfold f_X10_wantBidder at h
  refine lv_aload_n (pc := 0) hx hb dX10_wantBidder_0 rfl (lv_at hl 0 rfl) ?_
  refine lv_aload_n (pc := 1) hx hb dX10_wantBidder_1 rfl (lv_at hl 0 rfl) ?_
  refine gt_X10_213 X hP hk0 dX10_wantBidder_2 ?_
  refine lv_bipush (pc := 5) (v := (6)) hx hb dX10_wantBidder_5 (by decide) ?_
  refine lv_icmp_ge (pc := 7) (tgt := 14) hx hb dX10_wantBidder_7 (by decide) (fun c1 => ?_) (fun c1 => ?_)
  · have h := ipos c1 h
    refine lv_iconst (pc := 14) (v := 0) hx hb dX10_wantBidder_14 (by decide) ?_
    obtain ⟨σ2, e3, h⟩ := bnd1 h
    refine pt_X10_187 X hP hS hk0 (by decide) dX10_wantBidder_15 (fun H locs hP hS => ?_)
    rw [Option.some.inj e3] at hP
    refine lv_aload_n (pc := 18) hx hb dX10_wantBidder_18 rfl (lv_at hl 0 rfl) ?_
    refine gt_X10_187 X hP hk0 dX10_wantBidder_19 ?_
    refine lv_if_eq (pc := 22) (tgt := 29) hx hb dX10_wantBidder_22 (by decide) (fun c4 => ?_) (fun c4 => ?_)
    · have h := ipos c4 h
      exact w_X10_wantBidder_29 X  hk0  _ _ _ _ _ hP hS (lv_sub hl [0, 1] rfl) h
    · have h := ineg c4 h
      refine lv_aload_n (pc := 25) hx hb dX10_wantBidder_25 rfl (lv_at hl 0 rfl) ?_
      obtain ⟨σ39, e40, h⟩ := bnd1 h
      refine cl_X10_191 X hP hS hk0 (As := []) (rest := []) (c_X10_advance l G hk0 e40) ⟨rfl, rfl, Nat.le_of_ble_eq_true rfl, Nat.le_of_ble_eq_true rfl⟩ rfl hl.1 rfl (Nat.le_of_ble_eq_true rfl) ⟨Nat.zero_le _, Nat.zero_le _⟩ (pc := 26) dX10_wantBidder_26 (fun H locs hP hS => ?_)
      change W p l e _ s m _ below meth c H locs _ _ _ (F0 m (26 + 3) ls [])
      exact w_X10_wantBidder_29 X  hk0  _ _ _ _ _ hP hS (lv_sub hl [0, 1] rfl) h
  · have h := ineg c1 h
    refine lv_iconst (pc := 10) (v := 1) hx hb dX10_wantBidder_10 (by decide) ?_
    refine lv_goto (pc := 11) (tgt := 15) hx hb dX10_wantBidder_11 (by decide) ?_
    obtain ⟨σ41, e42, h⟩ := bnd1 h
    refine pt_X10_187 X hP hS hk0 (by decide) dX10_wantBidder_15 (fun H locs hP hS => ?_)
    rw [Option.some.inj e42] at hP
    refine lv_aload_n (pc := 18) hx hb dX10_wantBidder_18 rfl (lv_at hl 0 rfl) ?_
    refine gt_X10_187 X hP hk0 dX10_wantBidder_19 ?_
    refine lv_if_eq (pc := 22) (tgt := 29) hx hb dX10_wantBidder_22 (by decide) (fun c43 => ?_) (fun c43 => ?_)
    · have h := ipos c43 h
      exact w_X10_wantBidder_29 X  hk0  _ _ _ _ _ hP hS (lv_sub hl [0, 1] rfl) h
    · have h := ineg c43 h
      refine lv_aload_n (pc := 25) hx hb dX10_wantBidder_25 rfl (lv_at hl 0 rfl) ?_
      obtain ⟨σ44, e45, h⟩ := bnd1 h
      refine cl_X10_191 X hP hS hk0 (As := []) (rest := []) (c_X10_advance l G hk0 e45) ⟨rfl, rfl, Nat.le_of_ble_eq_true rfl, Nat.le_of_ble_eq_true rfl⟩ rfl hl.1 rfl (Nat.le_of_ble_eq_true rfl) ⟨Nat.zero_le _, Nat.zero_le _⟩ (pc := 26) dX10_wantBidder_26 (fun H locs hP hS => ?_)
      change W p l e _ s m _ below meth c H locs _ _ _ (F0 m (26 + 3) ls [])
      exact w_X10_wantBidder_29 X  hk0  _ _ _ _ _ hP hS (lv_sub hl [0, 1] rfl) h
def f_X10_wantDraught (k0 : Nat) (σ : Mem) : Option Mem :=
  bd1 (f_X10_advance k0 σ) fun σ1 =>
  bd2 (f_X10_wantNumber k0 (0 : Int32) (11 : Int32) σ1) fun r5 σ3 =>
  bd2 (f_X10_wantNumber k0 (0 : Int32) (3 : Int32) σ3) fun r8 σ6 =>
  bd1 (f_X10_wantEnd k0 σ6) fun σ9 =>
  if (gI σ9 k0 22) = (0 : Int32) then
    some σ9
  else
    bd1 (ixo (k0 + 18) r5) fun j12 =>
    bd1 (some (pI σ9 (k0 + 18) j12 r8)) fun σ14 =>
    some σ14
abbrev RM_X10_wantDraught : Room := { frames := 4, cells := 0, slots := 0, locals := 86 }
set_option maxHeartbeats 4000000 in
set_option maxRecDepth 100000 in
theorem c_X10_wantDraught (l : Launch) (G : Gh) {k0 : Nat} {σ : Mem} {σr : Mem} (hk0 : kd k0 = 10) (h : f_X10_wantDraught k0 σ = some σr) : Met l yX10_wantDraught [Cond.code yX10_wantDraught prog_12_method_23_code 3 none] RM_X10_wantDraught (va_Pc [.ref (ga G k0)] (Pre G σ)) (QG G none σr) 0 0 (AA G) := by
  refine ct_of (by decide) (fun p e s m below meth c X hP => ?_)
  have hx := X.hx
  have hb := X.hb
  have hS : va_S (AA G) s.heap s.heap [] := va_S.rf
  have hl := lv_entry ([.ref (ga G k0)]) (n := 3) (Nat.le_of_ble_eq_true rfl)
  rw [lg_entry_eq]
  generalize (lg_sl ([.ref (ga G k0)]) ++ List.replicate (3 - (lg_sl ([.ref (ga G k0)])).length) Slot.unset).toArray = ls at hl ⊢
  have hl : lv_has ls 3 [(0, .ref (ga G k0))] := hl
  unfold f_X10_wantDraught at h
  refine lv_aload_n (pc := 0) hx hb dX10_wantDraught_0 rfl (lv_at hl 0 rfl) ?_
  obtain ⟨σ1, e2, h⟩ := bnd1 h
  refine cl_X10_191 X hP hS hk0 (As := []) (rest := []) (c_X10_advance l G hk0 e2) ⟨rfl, rfl, Nat.le_of_ble_eq_true rfl, Nat.le_of_ble_eq_true rfl⟩ rfl hl.1 rfl (Nat.le_of_ble_eq_true rfl) ⟨Nat.zero_le _, Nat.zero_le _⟩ (pc := 1) dX10_wantDraught_1 (fun H locs hP hS => ?_)
  change W p l e _ s m _ below meth c H locs _ _ _ (F0 m (1 + 3) ls [])
  refine lv_aload_n (pc := 4) hx hb dX10_wantDraught_4 rfl (lv_at hl 0 rfl) ?_
  refine lv_iconst (pc := 5) (v := 0) hx hb dX10_wantDraught_5 (by decide) ?_
  refine lv_bipush (pc := 6) (v := (11)) hx hb dX10_wantDraught_6 (by decide) ?_
  obtain ⟨r5, σ3, e4, h⟩ := bnd2 h
  refine cl_X10_200 X hP hS hk0 (As := [.int (0 : Int32), .int (11 : Int32)]) (rest := []) (c_X10_wantNumber l G hk0 e4) ⟨rfl, rfl, Nat.le_of_ble_eq_true rfl, Nat.le_of_ble_eq_true rfl⟩ rfl hl.1 rfl (Nat.le_of_ble_eq_true rfl) ⟨Nat.zero_le _, Nat.zero_le _⟩ (pc := 8) dX10_wantDraught_8 (fun H locs hP hS => ?_)
  change W p l e _ s m _ below meth c H locs _ _ _ (F0 m (8 + 3) ls (.int r5 :: []))
  refine lv_istore_n (pc := 11) (lv' := [(1, .int r5), (0, .ref (ga G k0))]) hx hb dX10_wantDraught_11 rfl hl (by decide) rfl (fun ls hl => ?_)
  refine lv_aload_n (pc := 12) hx hb dX10_wantDraught_12 rfl (lv_at hl 1 rfl) ?_
  refine lv_iconst (pc := 13) (v := 0) hx hb dX10_wantDraught_13 (by decide) ?_
  refine lv_iconst (pc := 14) (v := 3) hx hb dX10_wantDraught_14 (by decide) ?_
  obtain ⟨r8, σ6, e7, h⟩ := bnd2 h
  refine cl_X10_200 X hP hS hk0 (As := [.int (0 : Int32), .int (3 : Int32)]) (rest := []) (c_X10_wantNumber l G hk0 e7) ⟨rfl, rfl, Nat.le_of_ble_eq_true rfl, Nat.le_of_ble_eq_true rfl⟩ rfl hl.1 rfl (Nat.le_of_ble_eq_true rfl) ⟨Nat.zero_le _, Nat.zero_le _⟩ (pc := 15) dX10_wantDraught_15 (fun H locs hP hS => ?_)
  change W p l e _ s m _ below meth c H locs _ _ _ (F0 m (15 + 3) ls (.int r8 :: []))
  refine lv_istore_n (pc := 18) (lv' := [(2, .int r8), (1, .int r5), (0, .ref (ga G k0))]) hx hb dX10_wantDraught_18 rfl hl (by decide) rfl (fun ls hl => ?_)
  refine lv_aload_n (pc := 19) hx hb dX10_wantDraught_19 rfl (lv_at hl 2 rfl) ?_
  obtain ⟨σ9, e10, h⟩ := bnd1 h
  refine cl_X10_210 X hP hS hk0 (As := []) (rest := []) (c_X10_wantEnd l G hk0 e10) ⟨rfl, rfl, Nat.le_of_ble_eq_true rfl, Nat.le_of_ble_eq_true rfl⟩ rfl hl.1 rfl (Nat.le_of_ble_eq_true rfl) ⟨Nat.zero_le _, Nat.zero_le _⟩ (pc := 20) dX10_wantDraught_20 (fun H locs hP hS => ?_)
  change W p l e _ s m _ below meth c H locs _ _ _ (F0 m (20 + 3) ls [])
  refine lv_aload_n (pc := 23) hx hb dX10_wantDraught_23 rfl (lv_at hl 2 rfl) ?_
  refine gt_X10_187 X hP hk0 dX10_wantDraught_24 ?_
  refine lv_if_eq (pc := 27) (tgt := 37) hx hb dX10_wantDraught_27 (by decide) (fun c11 => ?_) (fun c11 => ?_)
  · have h := ipos c11 h
    obtain rfl := Option.some.inj h
    exact r_vret X hP hS dX10_wantDraught_37
  · have h := ineg c11 h
    refine lv_aload_n (pc := 30) hx hb dX10_wantDraught_30 rfl (lv_at hl 2 rfl) ?_
    refine gt_X10_68 X hP hk0 dX10_wantDraught_31 ?_
    refine lv_iload_n (pc := 34) hx hb dX10_wantDraught_34 rfl (lv_at hl 1 rfl) ?_
    refine lv_iload_n (pc := 35) hx hb dX10_wantDraught_35 rfl (lv_at hl 0 rfl) ?_
    obtain ⟨j12, hj13, h⟩ := bnd1 h
    obtain ⟨σ14, e15, h⟩ := bnd1 h
    refine r_iast (pc := 36) X hP hS (kf_10_freshDraughts hk0).1 hj13 dX10_wantDraught_36 (fun H locs hP hS => ?_)
    rw [Option.some.inj e15] at hP
    obtain rfl := Option.some.inj h
    exact r_vret X hP hS dX10_wantDraught_37
def f_X10_wantClause (k0 : Nat) (σ : Mem) : Option Mem :=
  bd2 (f_X10_isWord k0 (9173 : Int64) σ) fun r3 σ1 =>
  if r3 = (0 : Int32) then
    bd2 (f_X10_isWord k0 (1808912405 : Int64) σ1) fun r7 σ5 =>
    if r7 = (0 : Int32) then
      bd2 (f_X10_isWord k0 (388708 : Int64) σ5) fun r11 σ9 =>
      if r11 = (0 : Int32) then
        bd2 (f_X10_kindHere k0 σ9) fun r15 σ13 =>
        if r15 < (0 : Int32) then
          bd1 (some (pI σ13 k0 22 (0 : Int32))) fun σ17 =>
          some σ17
        else
          bd2 (f_X10_kindHere k0 σ13) fun r21 σ19 =>
          bd1 (f_X10_wantBidder k0 r21 σ19) fun σ22 =>
          some σ22
      else
        bd1 (f_X10_advance k0 σ9) fun σ24 =>
        bd2 (f_X10_wantNumber k0 (1 : Int32) (20 : Int32) σ24) fun r28 σ26 =>
        bd1 (some (pI σ26 k0 25 r28)) fun σ29 =>
        bd1 (f_X10_wantEnd k0 σ29) fun σ31 =>
        some σ31
    else
      bd1 (f_X10_wantDraught k0 σ5) fun σ33 =>
      some σ33
  else
    bd1 (f_X10_wantLot k0 σ1) fun σ35 =>
    some σ35
abbrev RM_X10_wantClause : Room := { frames := 5, cells := 0, slots := 0, locals := 110 }
set_option maxHeartbeats 4000000 in
set_option maxRecDepth 100000 in
theorem c_X10_wantClause (l : Launch) (G : Gh) {k0 : Nat} {σ : Mem} {σr : Mem} (hk0 : kd k0 = 10) (h : f_X10_wantClause k0 σ = some σr) : Met l yX10_wantClause [Cond.code yX10_wantClause prog_12_method_24_code 1 none] RM_X10_wantClause (va_Pc [.ref (ga G k0)] (Pre G σ)) (QG G none σr) 0 0 (AA G) := by
  refine ct_of (by decide) (fun p e s m below meth c X hP => ?_)
  have hx := X.hx
  have hb := X.hb
  have hS : va_S (AA G) s.heap s.heap [] := va_S.rf
  have hl := lv_entry ([.ref (ga G k0)]) (n := 1) (Nat.le_of_ble_eq_true rfl)
  rw [lg_entry_eq]
  generalize (lg_sl ([.ref (ga G k0)]) ++ List.replicate (1 - (lg_sl ([.ref (ga G k0)])).length) Slot.unset).toArray = ls at hl ⊢
  have hl : lv_has ls 1 [(0, .ref (ga G k0))] := hl
  unfold f_X10_wantClause at h
  refine lv_aload_n (pc := 0) hx hb dX10_wantClause_0 rfl (lv_at hl 0 rfl) ?_
  refine lv_ldc2 (pc := 1) (v := (9173)) hx hb X.hown (X.tb tw_1205 rfl) dX10_wantClause_1 ?_
  obtain ⟨r3, σ1, e2, h⟩ := bnd2 h
  refine cl_X10_173 X hP hS hk0 (As := [.long (9173 : Int64)]) (rest := []) (c_X10_isWord l G hk0 e2) ⟨rfl, rfl, Nat.le_of_ble_eq_true rfl, Nat.le_of_ble_eq_true rfl⟩ rfl hl.1 rfl (Nat.le_of_ble_eq_true rfl) ⟨Nat.zero_le _, Nat.zero_le _⟩ (pc := 4) dX10_wantClause_4 (fun H locs hP hS => ?_)
  change W p l e _ s m _ below meth c H locs _ _ _ (F0 m (4 + 3) ls (.int r3 :: []))
  refine lv_if_eq (pc := 7) (tgt := 17) hx hb dX10_wantClause_7 (by decide) (fun c4 => ?_) (fun c4 => ?_)
  · have h := ipos c4 h
    refine lv_aload_n (pc := 17) hx hb dX10_wantClause_17 rfl (lv_at hl 0 rfl) ?_
    refine lv_ldc2 (pc := 18) (v := (1808912405)) hx hb X.hown (X.tb tw_1231 rfl) dX10_wantClause_18 ?_
    obtain ⟨r7, σ5, e6, h⟩ := bnd2 h
    refine cl_X10_173 X hP hS hk0 (As := [.long (1808912405 : Int64)]) (rest := []) (c_X10_isWord l G hk0 e6) ⟨rfl, rfl, Nat.le_of_ble_eq_true rfl, Nat.le_of_ble_eq_true rfl⟩ rfl hl.1 rfl (Nat.le_of_ble_eq_true rfl) ⟨Nat.zero_le _, Nat.zero_le _⟩ (pc := 21) dX10_wantClause_21 (fun H locs hP hS => ?_)
    change W p l e _ s m _ below meth c H locs _ _ _ (F0 m (21 + 3) ls (.int r7 :: []))
    refine lv_if_eq (pc := 24) (tgt := 34) hx hb dX10_wantClause_24 (by decide) (fun c8 => ?_) (fun c8 => ?_)
    · have h := ipos c8 h
      refine lv_aload_n (pc := 34) hx hb dX10_wantClause_34 rfl (lv_at hl 0 rfl) ?_
      refine lv_ldc2 (pc := 35) (v := (388708)) hx hb X.hown (X.tb tw_1236 rfl) dX10_wantClause_35 ?_
      obtain ⟨r11, σ9, e10, h⟩ := bnd2 h
      refine cl_X10_173 X hP hS hk0 (As := [.long (388708 : Int64)]) (rest := []) (c_X10_isWord l G hk0 e10) ⟨rfl, rfl, Nat.le_of_ble_eq_true rfl, Nat.le_of_ble_eq_true rfl⟩ rfl hl.1 rfl (Nat.le_of_ble_eq_true rfl) ⟨Nat.zero_le _, Nat.zero_le _⟩ (pc := 38) dX10_wantClause_38 (fun H locs hP hS => ?_)
      change W p l e _ s m _ below meth c H locs _ _ _ (F0 m (38 + 3) ls (.int r11 :: []))
      refine lv_if_eq (pc := 41) (tgt := 66) hx hb dX10_wantClause_41 (by decide) (fun c12 => ?_) (fun c12 => ?_)
      · have h := ipos c12 h
        refine lv_aload_n (pc := 66) hx hb dX10_wantClause_66 rfl (lv_at hl 0 rfl) ?_
        obtain ⟨r15, σ13, e14, h⟩ := bnd2 h
        refine cl_X10_235 X hP hS hk0 (As := []) (rest := []) (c_X10_kindHere l G hk0 e14) ⟨rfl, rfl, Nat.le_of_ble_eq_true rfl, Nat.le_of_ble_eq_true rfl⟩ rfl hl.1 rfl (Nat.le_of_ble_eq_true rfl) ⟨Nat.zero_le _, Nat.zero_le _⟩ (pc := 67) dX10_wantClause_67 (fun H locs hP hS => ?_)
        change W p l e _ s m _ below meth c H locs _ _ _ (F0 m (67 + 3) ls (.int r15 :: []))
        refine lv_if_lt (pc := 70) (tgt := 84) hx hb dX10_wantClause_70 (by decide) (fun c16 => ?_) (fun c16 => ?_)
        · have h := ipos c16 h
          refine lv_aload_n (pc := 84) hx hb dX10_wantClause_84 rfl (lv_at hl 0 rfl) ?_
          refine lv_iconst (pc := 85) (v := 0) hx hb dX10_wantClause_85 (by decide) ?_
          obtain ⟨σ17, e18, h⟩ := bnd1 h
          refine pt_X10_187 X hP hS hk0 (by decide) dX10_wantClause_86 (fun H locs hP hS => ?_)
          rw [Option.some.inj e18] at hP
          obtain rfl := Option.some.inj h
          exact r_vret X hP hS dX10_wantClause_89
        · have h := ineg c16 h
          refine lv_aload_n (pc := 73) hx hb dX10_wantClause_73 rfl (lv_at hl 0 rfl) ?_
          refine lv_aload_n (pc := 74) hx hb dX10_wantClause_74 rfl (lv_at hl 0 rfl) ?_
          obtain ⟨r21, σ19, e20, h⟩ := bnd2 h
          refine cl_X10_235 X hP hS hk0 (As := []) (rest := [.ref (ga G k0)]) (c_X10_kindHere l G hk0 e20) ⟨rfl, rfl, Nat.le_of_ble_eq_true rfl, Nat.le_of_ble_eq_true rfl⟩ rfl hl.1 rfl (Nat.le_of_ble_eq_true rfl) ⟨Nat.zero_le _, Nat.zero_le _⟩ (pc := 75) dX10_wantClause_75 (fun H locs hP hS => ?_)
          change W p l e _ s m _ below meth c H locs _ _ _ (F0 m (75 + 3) ls (.int r21 :: [.ref (ga G k0)]))
          obtain ⟨σ22, e23, h⟩ := bnd1 h
          refine cl_X10_239 X hP hS hk0 (As := [.int r21]) (rest := []) (c_X10_wantBidder l G hk0 e23) ⟨rfl, rfl, Nat.le_of_ble_eq_true rfl, Nat.le_of_ble_eq_true rfl⟩ rfl hl.1 rfl (Nat.le_of_ble_eq_true rfl) ⟨Nat.zero_le _, Nat.zero_le _⟩ (pc := 78) dX10_wantClause_78 (fun H locs hP hS => ?_)
          change W p l e _ s m _ below meth c H locs _ _ _ (F0 m (78 + 3) ls [])
          refine lv_goto (pc := 81) (tgt := 89) hx hb dX10_wantClause_81 (by decide) ?_
          obtain rfl := Option.some.inj h
          exact r_vret X hP hS dX10_wantClause_89
      · have h := ineg c12 h
        refine lv_aload_n (pc := 44) hx hb dX10_wantClause_44 rfl (lv_at hl 0 rfl) ?_
        obtain ⟨σ24, e25, h⟩ := bnd1 h
        refine cl_X10_191 X hP hS hk0 (As := []) (rest := []) (c_X10_advance l G hk0 e25) ⟨rfl, rfl, Nat.le_of_ble_eq_true rfl, Nat.le_of_ble_eq_true rfl⟩ rfl hl.1 rfl (Nat.le_of_ble_eq_true rfl) ⟨Nat.zero_le _, Nat.zero_le _⟩ (pc := 45) dX10_wantClause_45 (fun H locs hP hS => ?_)
        change W p l e _ s m _ below meth c H locs _ _ _ (F0 m (45 + 3) ls [])
        refine lv_aload_n (pc := 48) hx hb dX10_wantClause_48 rfl (lv_at hl 0 rfl) ?_
        refine lv_aload_n (pc := 49) hx hb dX10_wantClause_49 rfl (lv_at hl 0 rfl) ?_
        refine lv_iconst (pc := 50) (v := 1) hx hb dX10_wantClause_50 (by decide) ?_
        refine lv_bipush (pc := 51) (v := (20)) hx hb dX10_wantClause_51 (by decide) ?_
        obtain ⟨r28, σ26, e27, h⟩ := bnd2 h
        refine cl_X10_200 X hP hS hk0 (As := [.int (1 : Int32), .int (20 : Int32)]) (rest := [.ref (ga G k0)]) (c_X10_wantNumber l G hk0 e27) ⟨rfl, rfl, Nat.le_of_ble_eq_true rfl, Nat.le_of_ble_eq_true rfl⟩ rfl hl.1 rfl (Nat.le_of_ble_eq_true rfl) ⟨Nat.zero_le _, Nat.zero_le _⟩ (pc := 53) dX10_wantClause_53 (fun H locs hP hS => ?_)
        change W p l e _ s m _ below meth c H locs _ _ _ (F0 m (53 + 3) ls (.int r28 :: [.ref (ga G k0)]))
        obtain ⟨σ29, e30, h⟩ := bnd1 h
        refine pt_X10_232 X hP hS hk0 dX10_wantClause_56 (fun H locs hP hS => ?_)
        rw [Option.some.inj e30] at hP
        refine lv_aload_n (pc := 59) hx hb dX10_wantClause_59 rfl (lv_at hl 0 rfl) ?_
        obtain ⟨σ31, e32, h⟩ := bnd1 h
        refine cl_X10_210 X hP hS hk0 (As := []) (rest := []) (c_X10_wantEnd l G hk0 e32) ⟨rfl, rfl, Nat.le_of_ble_eq_true rfl, Nat.le_of_ble_eq_true rfl⟩ rfl hl.1 rfl (Nat.le_of_ble_eq_true rfl) ⟨Nat.zero_le _, Nat.zero_le _⟩ (pc := 60) dX10_wantClause_60 (fun H locs hP hS => ?_)
        change W p l e _ s m _ below meth c H locs _ _ _ (F0 m (60 + 3) ls [])
        refine lv_goto (pc := 63) (tgt := 89) hx hb dX10_wantClause_63 (by decide) ?_
        obtain rfl := Option.some.inj h
        exact r_vret X hP hS dX10_wantClause_89
    · have h := ineg c8 h
      refine lv_aload_n (pc := 27) hx hb dX10_wantClause_27 rfl (lv_at hl 0 rfl) ?_
      obtain ⟨σ33, e34, h⟩ := bnd1 h
      refine cl_X10_227 X hP hS hk0 (As := []) (rest := []) (c_X10_wantDraught l G hk0 e34) ⟨rfl, rfl, Nat.le_of_ble_eq_true rfl, Nat.le_of_ble_eq_true rfl⟩ rfl hl.1 rfl (Nat.le_of_ble_eq_true rfl) ⟨Nat.zero_le _, Nat.zero_le _⟩ (pc := 28) dX10_wantClause_28 (fun H locs hP hS => ?_)
      change W p l e _ s m _ below meth c H locs _ _ _ (F0 m (28 + 3) ls [])
      refine lv_goto (pc := 31) (tgt := 89) hx hb dX10_wantClause_31 (by decide) ?_
      obtain rfl := Option.some.inj h
      exact r_vret X hP hS dX10_wantClause_89
  · have h := ineg c4 h
    refine lv_aload_n (pc := 10) hx hb dX10_wantClause_10 rfl (lv_at hl 0 rfl) ?_
    obtain ⟨σ35, e36, h⟩ := bnd1 h
    refine cl_X10_222 X hP hS hk0 (As := []) (rest := []) (c_X10_wantLot l G hk0 e36) ⟨rfl, rfl, Nat.le_of_ble_eq_true rfl, Nat.le_of_ble_eq_true rfl⟩ rfl hl.1 rfl (Nat.le_of_ble_eq_true rfl) ⟨Nat.zero_le _, Nat.zero_le _⟩ (pc := 11) dX10_wantClause_11 (fun H locs hP hS => ?_)
    change W p l e _ s m _ below meth c H locs _ _ _ (F0 m (11 + 3) ls [])
    refine lv_goto (pc := 14) (tgt := 89) hx hb dX10_wantClause_14 (by decide) ?_
    obtain rfl := Option.some.inj h
    exact r_vret X hP hS dX10_wantClause_89
def f_X10_none (k0 : Nat) (σ : Mem) : Option Mem :=
  bd1 (f_X10_becomes k0 (0 : Int32) (-1 : Int32) σ) fun σ1 =>
  bd1 (f_X10_becomes k0 (1 : Int32) (0 : Int32) σ1) fun σ3 =>
  bd1 (f_X10_becomes k0 (2 : Int32) (0 : Int32) σ3) fun σ5 =>
  bd1 (f_X10_becomes k0 (3 : Int32) (0 : Int32) σ5) fun σ7 =>
  bd1 (f_X10_becomes k0 (4 : Int32) (-1 : Int32) σ7) fun σ9 =>
  some σ9
abbrev RM_X10_none : Room := { frames := 1, cells := 0, slots := 0, locals := 22 }
set_option maxHeartbeats 4000000 in
set_option maxRecDepth 100000 in
theorem c_X10_none (l : Launch) (G : Gh) {k0 : Nat} {σ : Mem} {σr : Mem} (hk0 : kd k0 = 10) (h : f_X10_none k0 σ = some σr) : Met l yX10_none [Cond.code yX10_none prog_12_method_27_code 1 none] RM_X10_none (va_Pc [.ref (ga G k0)] (Pre G σ)) (QG G none σr) 0 0 (AA G) := by
  refine ct_of (by decide) (fun p e s m below meth c X hP => ?_)
  have hx := X.hx
  have hb := X.hb
  have hS : va_S (AA G) s.heap s.heap [] := va_S.rf
  have hl := lv_entry ([.ref (ga G k0)]) (n := 1) (Nat.le_of_ble_eq_true rfl)
  rw [lg_entry_eq]
  generalize (lg_sl ([.ref (ga G k0)]) ++ List.replicate (1 - (lg_sl ([.ref (ga G k0)])).length) Slot.unset).toArray = ls at hl ⊢
  have hl : lv_has ls 1 [(0, .ref (ga G k0))] := hl
  unfold f_X10_none at h
  refine lv_aload_n (pc := 0) hx hb dX10_none_0 rfl (lv_at hl 0 rfl) ?_
  refine lv_iconst (pc := 1) (v := 0) hx hb dX10_none_1 (by decide) ?_
  refine lv_iconst (pc := 2) (v := (-1)) hx hb dX10_none_2 (by decide) ?_
  obtain ⟨σ1, e2, h⟩ := bnd1 h
  refine cl_X10_255 X hP hS hk0 (As := [.int (0 : Int32), .int (-1 : Int32)]) (rest := []) (c_X10_becomes l G hk0 e2) ⟨rfl, rfl, Nat.le_of_ble_eq_true rfl, Nat.le_of_ble_eq_true rfl⟩ rfl hl.1 rfl (Nat.le_of_ble_eq_true rfl) ⟨Nat.zero_le _, Nat.zero_le _⟩ (pc := 3) dX10_none_3 (fun H locs hP hS => ?_)
  change W p l e _ s m _ below meth c H locs _ _ _ (F0 m (3 + 3) ls [])
  refine lv_aload_n (pc := 6) hx hb dX10_none_6 rfl (lv_at hl 0 rfl) ?_
  refine lv_iconst (pc := 7) (v := 1) hx hb dX10_none_7 (by decide) ?_
  refine lv_iconst (pc := 8) (v := 0) hx hb dX10_none_8 (by decide) ?_
  obtain ⟨σ3, e4, h⟩ := bnd1 h
  refine cl_X10_255 X hP hS hk0 (As := [.int (1 : Int32), .int (0 : Int32)]) (rest := []) (c_X10_becomes l G hk0 e4) ⟨rfl, rfl, Nat.le_of_ble_eq_true rfl, Nat.le_of_ble_eq_true rfl⟩ rfl hl.1 rfl (Nat.le_of_ble_eq_true rfl) ⟨Nat.zero_le _, Nat.zero_le _⟩ (pc := 9) dX10_none_9 (fun H locs hP hS => ?_)
  change W p l e _ s m _ below meth c H locs _ _ _ (F0 m (9 + 3) ls [])
  refine lv_aload_n (pc := 12) hx hb dX10_none_12 rfl (lv_at hl 0 rfl) ?_
  refine lv_iconst (pc := 13) (v := 2) hx hb dX10_none_13 (by decide) ?_
  refine lv_iconst (pc := 14) (v := 0) hx hb dX10_none_14 (by decide) ?_
  obtain ⟨σ5, e6, h⟩ := bnd1 h
  refine cl_X10_255 X hP hS hk0 (As := [.int (2 : Int32), .int (0 : Int32)]) (rest := []) (c_X10_becomes l G hk0 e6) ⟨rfl, rfl, Nat.le_of_ble_eq_true rfl, Nat.le_of_ble_eq_true rfl⟩ rfl hl.1 rfl (Nat.le_of_ble_eq_true rfl) ⟨Nat.zero_le _, Nat.zero_le _⟩ (pc := 15) dX10_none_15 (fun H locs hP hS => ?_)
  change W p l e _ s m _ below meth c H locs _ _ _ (F0 m (15 + 3) ls [])
  refine lv_aload_n (pc := 18) hx hb dX10_none_18 rfl (lv_at hl 0 rfl) ?_
  refine lv_iconst (pc := 19) (v := 3) hx hb dX10_none_19 (by decide) ?_
  refine lv_iconst (pc := 20) (v := 0) hx hb dX10_none_20 (by decide) ?_
  obtain ⟨σ7, e8, h⟩ := bnd1 h
  refine cl_X10_255 X hP hS hk0 (As := [.int (3 : Int32), .int (0 : Int32)]) (rest := []) (c_X10_becomes l G hk0 e8) ⟨rfl, rfl, Nat.le_of_ble_eq_true rfl, Nat.le_of_ble_eq_true rfl⟩ rfl hl.1 rfl (Nat.le_of_ble_eq_true rfl) ⟨Nat.zero_le _, Nat.zero_le _⟩ (pc := 21) dX10_none_21 (fun H locs hP hS => ?_)
  change W p l e _ s m _ below meth c H locs _ _ _ (F0 m (21 + 3) ls [])
  refine lv_aload_n (pc := 24) hx hb dX10_none_24 rfl (lv_at hl 0 rfl) ?_
  refine lv_iconst (pc := 25) (v := 4) hx hb dX10_none_25 (by decide) ?_
  refine lv_iconst (pc := 26) (v := (-1)) hx hb dX10_none_26 (by decide) ?_
  obtain ⟨σ9, e10, h⟩ := bnd1 h
  refine cl_X10_255 X hP hS hk0 (As := [.int (4 : Int32), .int (-1 : Int32)]) (rest := []) (c_X10_becomes l G hk0 e10) ⟨rfl, rfl, Nat.le_of_ble_eq_true rfl, Nat.le_of_ble_eq_true rfl⟩ rfl hl.1 rfl (Nat.le_of_ble_eq_true rfl) ⟨Nat.zero_le _, Nat.zero_le _⟩ (pc := 27) dX10_none_27 (fun H locs hP hS => ?_)
  change W p l e _ s m _ below meth c H locs _ _ _ (F0 m (27 + 3) ls [])
  obtain rfl := Option.some.inj h
  exact r_vret X hP hS dX10_none_30
def F_X10_turnsInto_134 (k0z : Nat) (rec1 : Int32 → Mem → Option Mem) : Int32 → Mem → Option Mem := fun v1 σ =>
  if (12 : Int32) ≤ v1 then
    bd1 (f_X10_none k0z σ) fun σ10 =>
    some σ10
  else
    bd1 (ixo (k0z + 18) v1) fun j12 =>
    bd1 (ixo (k0z + 6) v1) fun j14 =>
    bd1 (some (pI σ (k0z + 6) j14 (gI σ (k0z + 18) j12))) fun σ16 =>
    rec1 (v1 + (1 : Int32)) σ16
def F_X10_turnsInto_70 (k0z : Nat) (rec1 : Int32 → Mem → Option Mem) : Int32 → Mem → Option Mem := fun v1 σ =>
  if (6 : Int32) ≤ v1 then
    iterF (F_X10_turnsInto_134 k0z) (fun _ _ => none) FU (0 : Int32) σ
  else
    bd1 (ixo (k0z + 14) v1) fun j18 =>
    bd1 (ixo (k0z + 7) v1) fun j20 =>
    bd1 (some (pI σ (k0z + 7) j20 (gI σ (k0z + 14) j18))) fun σ22 =>
    bd1 (ixo (k0z + 15) v1) fun j24 =>
    bd1 (ixo (k0z + 8) v1) fun j26 =>
    bd1 (some (pI σ22 (k0z + 8) j26 (gI σ22 (k0z + 15) j24))) fun σ28 =>
    bd1 (ixo (k0z + 16) v1) fun j30 =>
    bd1 (ixo (k0z + 9) v1) fun j32 =>
    bd1 (some (pI σ28 (k0z + 9) j32 (gI σ28 (k0z + 16) j30))) fun σ34 =>
    bd1 (ixo (k0z + 17) v1) fun j36 =>
    bd1 (ixo (k0z + 10) ((5 : Int32) + v1)) fun j38 =>
    bd1 (some (pI σ34 (k0z + 10) j38 (gI σ34 (k0z + 17) j36))) fun σ40 =>
    rec1 (v1 + (1 : Int32)) σ40
def F_X10_turnsInto_26 (k0z : Nat) (rec1 : Int32 → Mem → Option Mem) : Int32 → Mem → Option Mem := fun v1 σ =>
  if (5 : Int32) ≤ v1 then
    iterF (F_X10_turnsInto_70 k0z) (fun _ _ => none) FU (0 : Int32) σ
  else
    bd1 (ixo (k0z + 12) v1) fun j42 =>
    bd1 (ixo (k0z + 1) v1) fun j44 =>
    bd1 (some (pI σ (k0z + 1) j44 (gI σ (k0z + 12) j42))) fun σ46 =>
    bd1 (ixo (k0z + 13) v1) fun j48 =>
    bd1 (ixo (k0z + 2) v1) fun j50 =>
    bd1 (some (pI σ46 (k0z + 2) j50 (gI σ46 (k0z + 13) j48))) fun σ52 =>
    bd1 (ixo (k0z + 3) v1) fun j54 =>
    bd1 (some (pI σ52 (k0z + 3) j54 (0 : Int32))) fun σ56 =>
    rec1 (v1 + (1 : Int32)) σ56
def f_X10_turnsInto (k0 : Nat) (σ : Mem) : Option Mem :=
  bd1 (some (pI σ k0 0 (gI σ k0 23))) fun σ1 =>
  bd1 (some (pI σ1 k0 8 (gI σ1 k0 24))) fun σ3 =>
  bd1 (some (pI σ3 k0 7 (gI σ3 k0 25))) fun σ5 =>
  iterF (F_X10_turnsInto_26 k0) (fun _ _ => none) FU (0 : Int32) σ5
abbrev RM_X10_turnsInto : Room := { frames := 2, cells := 0, slots := 0, locals := 42 }
set_option maxHeartbeats 4000000 in
set_option maxRecDepth 100000 in
theorem w_X10_turnsInto_134 {l : Launch} {G : Gh} {p : Program} {e : Env} {s : State} {m : MethodId} {args : Array Value} {below : List Frame} {meth : Method} {c : Code} (X : Cx G p s m args meth c prog_12_method_26_code RX10 2 none) {k0z : Nat} (hz0 : kd k0z = 10) {σr : Mem} : ∀ (n : Nat) (v1 : Int32) (σ : Mem) (H : Heap) (locs : List Loc) (ls : Array Slot), PW G σ H → va_S (AA G) s.heap H locs → lv_has ls 2 [(0, .ref (ga G k0z)), (1, .int v1)] → iterF (F_X10_turnsInto_134 k0z) (fun _ _ => none) n v1 σ = some σr → W p l e RM_X10_turnsInto s m args below meth c H locs 0 0 (MQ below (QG G none σr) args s 0 0 (AA G)) (F0 m 134 ls []) := by
  have hx := X.hx
  have hb := X.hb
  intro n
  induction n with
  | zero => intro v1 σ H locs ls hP hS hl h; exact nnone (α := Mem) h
  | succ n ih1 =>
    intro v1 σ H locs ls hP hS hl h
    have h : F_X10_turnsInto_134 k0z (iterF (F_X10_turnsInto_134 k0z) (fun _ _ => none) n) v1 σ = some _ := h
    unfold F_X10_turnsInto_134 at h
    refine lv_iload_n (pc := 134) hx hb dX10_turnsInto_134 rfl (lv_at hl 1 rfl) ?_
    refine lv_bipush (pc := 135) (v := (12)) hx hb dX10_turnsInto_135 (by decide) ?_
    refine lv_icmp_ge (pc := 137) (tgt := 158) hx hb dX10_turnsInto_137 (by decide) (fun c9 => ?_) (fun c9 => ?_)
    · have h := ipos c9 h
      refine lv_aload_n (pc := 158) hx hb dX10_turnsInto_158 rfl (lv_at hl 0 rfl) ?_
      obtain ⟨σ10, e11, h⟩ := bnd1 h
      refine cl_X10_252 X hP hS hz0 (As := []) (rest := []) (c_X10_none l G hz0 e11) ⟨rfl, rfl, Nat.le_of_ble_eq_true rfl, Nat.le_of_ble_eq_true rfl⟩ rfl hl.1 rfl (Nat.le_of_ble_eq_true rfl) ⟨Nat.zero_le _, Nat.zero_le _⟩ (pc := 159) dX10_turnsInto_159 (fun H locs hP hS => ?_)
      change W p l e _ s m _ below meth c H locs _ _ _ (F0 m (159 + 3) ls [])
      obtain rfl := Option.some.inj h
      exact r_vret X hP hS dX10_turnsInto_162
    · have h := ineg c9 h
      refine lv_aload_n (pc := 140) hx hb dX10_turnsInto_140 rfl (lv_at hl 0 rfl) ?_
      refine gt_X10_25 X hP hz0 dX10_turnsInto_141 ?_
      refine lv_iload_n (pc := 144) hx hb dX10_turnsInto_144 rfl (lv_at hl 1 rfl) ?_
      refine lv_aload_n (pc := 145) hx hb dX10_turnsInto_145 rfl (lv_at hl 0 rfl) ?_
      refine gt_X10_68 X hP hz0 dX10_turnsInto_146 ?_
      refine lv_iload_n (pc := 149) hx hb dX10_turnsInto_149 rfl (lv_at hl 1 rfl) ?_
      obtain ⟨j12, hj13, h⟩ := bnd1 h
      refine r_iald (pc := 150) X hP (kf_10_freshDraughts hz0).1 hj13 dX10_turnsInto_150 ?_
      obtain ⟨j14, hj15, h⟩ := bnd1 h
      obtain ⟨σ16, e17, h⟩ := bnd1 h
      refine r_iast (pc := 151) X hP hS (kf_10_draughts hz0).1 hj15 dX10_turnsInto_151 (fun H locs hP hS => ?_)
      rw [Option.some.inj e17] at hP
      refine lv_iinc (pc := 152) (v := (v1 + (1 : Int32))) (lv' := [(1, .int (v1 + (1 : Int32))), (0, .ref (ga G k0z))]) hx hb dX10_turnsInto_152 hl (k := 1) rfl (congrArg (fun z => v1 + z) (by decide)) (by decide) rfl (fun ls hl => ?_)
      refine lv_goto (pc := 155) (tgt := 134) hx hb dX10_turnsInto_155 (by decide) ?_
      exact ih1 _ _ _ _ _ hP hS (lv_sub hl [1, 0] rfl) h
set_option maxHeartbeats 4000000 in
set_option maxRecDepth 100000 in
theorem w_X10_turnsInto_70 {l : Launch} {G : Gh} {p : Program} {e : Env} {s : State} {m : MethodId} {args : Array Value} {below : List Frame} {meth : Method} {c : Code} (X : Cx G p s m args meth c prog_12_method_26_code RX10 2 none) {k0z : Nat} (hz0 : kd k0z = 10) {σr : Mem} : ∀ (n : Nat) (v1 : Int32) (σ : Mem) (H : Heap) (locs : List Loc) (ls : Array Slot), PW G σ H → va_S (AA G) s.heap H locs → lv_has ls 2 [(0, .ref (ga G k0z)), (1, .int v1)] → iterF (F_X10_turnsInto_70 k0z) (fun _ _ => none) n v1 σ = some σr → W p l e RM_X10_turnsInto s m args below meth c H locs 0 0 (MQ below (QG G none σr) args s 0 0 (AA G)) (F0 m 70 ls []) := by
  have hx := X.hx
  have hb := X.hb
  intro n
  induction n with
  | zero => intro v1 σ H locs ls hP hS hl h; exact nnone (α := Mem) h
  | succ n ih1 =>
    intro v1 σ H locs ls hP hS hl h
    have h : F_X10_turnsInto_70 k0z (iterF (F_X10_turnsInto_70 k0z) (fun _ _ => none) n) v1 σ = some _ := h
    unfold F_X10_turnsInto_70 at h
    refine lv_iload_n (pc := 70) hx hb dX10_turnsInto_70 rfl (lv_at hl 1 rfl) ?_
    refine lv_bipush (pc := 71) (v := (6)) hx hb dX10_turnsInto_71 (by decide) ?_
    refine lv_icmp_ge (pc := 73) (tgt := 132) hx hb dX10_turnsInto_73 (by decide) (fun c8 => ?_) (fun c8 => ?_)
    · have h := ipos c8 h
      refine lv_iconst (pc := 132) (v := 0) hx hb dX10_turnsInto_132 (by decide) ?_
      refine lv_istore_n (pc := 133) (lv' := [(1, .int (0 : Int32)), (0, .ref (ga G k0z))]) hx hb dX10_turnsInto_133 rfl hl (by decide) rfl (fun ls hl => ?_)
      exact w_X10_turnsInto_134 X  hz0  FU _ _ _ _ _ hP hS (lv_sub hl [1, 0] rfl) h
    · have h := ineg c8 h
      refine lv_aload_n (pc := 76) hx hb dX10_turnsInto_76 rfl (lv_at hl 0 rfl) ?_
      refine gt_X10_32 X hP hz0 dX10_turnsInto_77 ?_
      refine lv_iload_n (pc := 80) hx hb dX10_turnsInto_80 rfl (lv_at hl 1 rfl) ?_
      refine lv_aload_n (pc := 81) hx hb dX10_turnsInto_81 rfl (lv_at hl 0 rfl) ?_
      refine gt_X10_56 X hP hz0 dX10_turnsInto_82 ?_
      refine lv_iload_n (pc := 85) hx hb dX10_turnsInto_85 rfl (lv_at hl 1 rfl) ?_
      obtain ⟨j18, hj19, h⟩ := bnd1 h
      refine r_iald (pc := 86) X hP (kf_10_freshKinds hz0).1 hj19 dX10_turnsInto_86 ?_
      obtain ⟨j20, hj21, h⟩ := bnd1 h
      obtain ⟨σ22, e23, h⟩ := bnd1 h
      refine r_iast (pc := 87) X hP hS (kf_10_kinds hz0).1 hj21 dX10_turnsInto_87 (fun H locs hP hS => ?_)
      rw [Option.some.inj e23] at hP
      refine lv_aload_n (pc := 88) hx hb dX10_turnsInto_88 rfl (lv_at hl 0 rfl) ?_
      refine gt_X10_35 X hP hz0 dX10_turnsInto_89 ?_
      refine lv_iload_n (pc := 92) hx hb dX10_turnsInto_92 rfl (lv_at hl 1 rfl) ?_
      refine lv_aload_n (pc := 93) hx hb dX10_turnsInto_93 rfl (lv_at hl 0 rfl) ?_
      refine gt_X10_59 X hP hz0 dX10_turnsInto_94 ?_
      refine lv_iload_n (pc := 97) hx hb dX10_turnsInto_97 rfl (lv_at hl 1 rfl) ?_
      obtain ⟨j24, hj25, h⟩ := bnd1 h
      refine r_iald (pc := 98) X hP (kf_10_freshOwn hz0).1 hj25 dX10_turnsInto_98 ?_
      obtain ⟨j26, hj27, h⟩ := bnd1 h
      obtain ⟨σ28, e29, h⟩ := bnd1 h
      refine r_iast (pc := 99) X hP hS (kf_10_own hz0).1 hj27 dX10_turnsInto_99 (fun H locs hP hS => ?_)
      rw [Option.some.inj e29] at hP
      refine lv_aload_n (pc := 100) hx hb dX10_turnsInto_100 rfl (lv_at hl 0 rfl) ?_
      refine gt_X10_38 X hP hz0 dX10_turnsInto_101 ?_
      refine lv_iload_n (pc := 104) hx hb dX10_turnsInto_104 rfl (lv_at hl 1 rfl) ?_
      refine lv_aload_n (pc := 105) hx hb dX10_turnsInto_105 rfl (lv_at hl 0 rfl) ?_
      refine gt_X10_62 X hP hz0 dX10_turnsInto_106 ?_
      refine lv_iload_n (pc := 109) hx hb dX10_turnsInto_109 rfl (lv_at hl 1 rfl) ?_
      obtain ⟨j30, hj31, h⟩ := bnd1 h
      refine r_iald (pc := 110) X hP (kf_10_freshValues hz0).1 hj31 dX10_turnsInto_110 ?_
      obtain ⟨j32, hj33, h⟩ := bnd1 h
      obtain ⟨σ34, e35, h⟩ := bnd1 h
      refine r_iast (pc := 111) X hP hS (kf_10_values hz0).1 hj33 dX10_turnsInto_111 (fun H locs hP hS => ?_)
      rw [Option.some.inj e35] at hP
      refine lv_aload_n (pc := 112) hx hb dX10_turnsInto_112 rfl (lv_at hl 0 rfl) ?_
      refine gt_X10_41 X hP hz0 dX10_turnsInto_113 ?_
      refine lv_iconst (pc := 116) (v := 5) hx hb dX10_turnsInto_116 (by decide) ?_
      refine lv_iload_n (pc := 117) hx hb dX10_turnsInto_117 rfl (lv_at hl 1 rfl) ?_
      refine lv_iadd (pc := 118) hx hb dX10_turnsInto_118 ?_
      refine lv_aload_n (pc := 119) hx hb dX10_turnsInto_119 rfl (lv_at hl 0 rfl) ?_
      refine gt_X10_65 X hP hz0 dX10_turnsInto_120 ?_
      refine lv_iload_n (pc := 123) hx hb dX10_turnsInto_123 rfl (lv_at hl 1 rfl) ?_
      obtain ⟨j36, hj37, h⟩ := bnd1 h
      refine r_iald (pc := 124) X hP (kf_10_freshPurses hz0).1 hj37 dX10_turnsInto_124 ?_
      obtain ⟨j38, hj39, h⟩ := bnd1 h
      obtain ⟨σ40, e41, h⟩ := bnd1 h
      refine r_iast (pc := 125) X hP hS (kf_10_row hz0).1 hj39 dX10_turnsInto_125 (fun H locs hP hS => ?_)
      rw [Option.some.inj e41] at hP
      refine lv_iinc (pc := 126) (v := (v1 + (1 : Int32))) (lv' := [(1, .int (v1 + (1 : Int32))), (0, .ref (ga G k0z))]) hx hb dX10_turnsInto_126 hl (k := 1) rfl (congrArg (fun z => v1 + z) (by decide)) (by decide) rfl (fun ls hl => ?_)
      refine lv_goto (pc := 129) (tgt := 70) hx hb dX10_turnsInto_129 (by decide) ?_
      exact ih1 _ _ _ _ _ hP hS (lv_sub hl [1, 0] rfl) h
set_option maxHeartbeats 4000000 in
set_option maxRecDepth 100000 in
theorem w_X10_turnsInto_26 {l : Launch} {G : Gh} {p : Program} {e : Env} {s : State} {m : MethodId} {args : Array Value} {below : List Frame} {meth : Method} {c : Code} (X : Cx G p s m args meth c prog_12_method_26_code RX10 2 none) {k0z : Nat} (hz0 : kd k0z = 10) {σr : Mem} : ∀ (n : Nat) (v1 : Int32) (σ : Mem) (H : Heap) (locs : List Loc) (ls : Array Slot), PW G σ H → va_S (AA G) s.heap H locs → lv_has ls 2 [(0, .ref (ga G k0z)), (1, .int v1)] → iterF (F_X10_turnsInto_26 k0z) (fun _ _ => none) n v1 σ = some σr → W p l e RM_X10_turnsInto s m args below meth c H locs 0 0 (MQ below (QG G none σr) args s 0 0 (AA G)) (F0 m 26 ls []) := by
  have hx := X.hx
  have hb := X.hb
  intro n
  induction n with
  | zero => intro v1 σ H locs ls hP hS hl h; exact nnone (α := Mem) h
  | succ n ih1 =>
    intro v1 σ H locs ls hP hS hl h
    have h : F_X10_turnsInto_26 k0z (iterF (F_X10_turnsInto_26 k0z) (fun _ _ => none) n) v1 σ = some _ := h
    unfold F_X10_turnsInto_26 at h
    refine lv_iload_n (pc := 26) hx hb dX10_turnsInto_26 rfl (lv_at hl 1 rfl) ?_
    refine lv_iconst (pc := 27) (v := 5) hx hb dX10_turnsInto_27 (by decide) ?_
    refine lv_icmp_ge (pc := 28) (tgt := 68) hx hb dX10_turnsInto_28 (by decide) (fun c7 => ?_) (fun c7 => ?_)
    · have h := ipos c7 h
      refine lv_iconst (pc := 68) (v := 0) hx hb dX10_turnsInto_68 (by decide) ?_
      refine lv_istore_n (pc := 69) (lv' := [(1, .int (0 : Int32)), (0, .ref (ga G k0z))]) hx hb dX10_turnsInto_69 rfl hl (by decide) rfl (fun ls hl => ?_)
      exact w_X10_turnsInto_70 X  hz0  FU _ _ _ _ _ hP hS (lv_sub hl [1, 0] rfl) h
    · have h := ineg c7 h
      refine lv_aload_n (pc := 31) hx hb dX10_turnsInto_31 rfl (lv_at hl 0 rfl) ?_
      refine gt_X10_7 X hP hz0 dX10_turnsInto_32 ?_
      refine lv_iload_n (pc := 35) hx hb dX10_turnsInto_35 rfl (lv_at hl 1 rfl) ?_
      refine lv_aload_n (pc := 36) hx hb dX10_turnsInto_36 rfl (lv_at hl 0 rfl) ?_
      refine gt_X10_50 X hP hz0 dX10_turnsInto_37 ?_
      refine lv_iload_n (pc := 40) hx hb dX10_turnsInto_40 rfl (lv_at hl 1 rfl) ?_
      obtain ⟨j42, hj43, h⟩ := bnd1 h
      refine r_iald (pc := 41) X hP (kf_10_freshWaxes hz0).1 hj43 dX10_turnsInto_41 ?_
      obtain ⟨j44, hj45, h⟩ := bnd1 h
      obtain ⟨σ46, e47, h⟩ := bnd1 h
      refine r_iast (pc := 42) X hP hS (kf_10_waxes hz0).1 hj45 dX10_turnsInto_42 (fun H locs hP hS => ?_)
      rw [Option.some.inj e47] at hP
      refine lv_aload_n (pc := 43) hx hb dX10_turnsInto_43 rfl (lv_at hl 0 rfl) ?_
      refine gt_X10_13 X hP hz0 dX10_turnsInto_44 ?_
      refine lv_iload_n (pc := 47) hx hb dX10_turnsInto_47 rfl (lv_at hl 1 rfl) ?_
      refine lv_aload_n (pc := 48) hx hb dX10_turnsInto_48 rfl (lv_at hl 0 rfl) ?_
      refine gt_X10_53 X hP hz0 dX10_turnsInto_49 ?_
      refine lv_iload_n (pc := 52) hx hb dX10_turnsInto_52 rfl (lv_at hl 1 rfl) ?_
      obtain ⟨j48, hj49, h⟩ := bnd1 h
      refine r_iald (pc := 53) X hP (kf_10_freshWorths hz0).1 hj49 dX10_turnsInto_53 ?_
      obtain ⟨j50, hj51, h⟩ := bnd1 h
      obtain ⟨σ52, e53, h⟩ := bnd1 h
      refine r_iast (pc := 54) X hP hS (kf_10_worths hz0).1 hj51 dX10_turnsInto_54 (fun H locs hP hS => ?_)
      rw [Option.some.inj e53] at hP
      refine lv_aload_n (pc := 55) hx hb dX10_turnsInto_55 rfl (lv_at hl 0 rfl) ?_
      refine gt_X10_16 X hP hz0 dX10_turnsInto_56 ?_
      refine lv_iload_n (pc := 59) hx hb dX10_turnsInto_59 rfl (lv_at hl 1 rfl) ?_
      refine lv_iconst (pc := 60) (v := 0) hx hb dX10_turnsInto_60 (by decide) ?_
      obtain ⟨j54, hj55, h⟩ := bnd1 h
      obtain ⟨σ56, e57, h⟩ := bnd1 h
      refine r_iast (pc := 61) X hP hS (kf_10_sold hz0).1 hj55 dX10_turnsInto_61 (fun H locs hP hS => ?_)
      rw [Option.some.inj e57] at hP
      refine lv_iinc (pc := 62) (v := (v1 + (1 : Int32))) (lv' := [(1, .int (v1 + (1 : Int32))), (0, .ref (ga G k0z))]) hx hb dX10_turnsInto_62 hl (k := 1) rfl (congrArg (fun z => v1 + z) (by decide)) (by decide) rfl (fun ls hl => ?_)
      refine lv_goto (pc := 65) (tgt := 26) hx hb dX10_turnsInto_65 (by decide) ?_
      exact ih1 _ _ _ _ _ hP hS (lv_sub hl [1, 0] rfl) h
set_option maxHeartbeats 4000000 in
set_option maxRecDepth 100000 in
theorem c_X10_turnsInto (l : Launch) (G : Gh) {k0 : Nat} {σ : Mem} {σr : Mem} (hk0 : kd k0 = 10) (h : f_X10_turnsInto k0 σ = some σr) : Met l yX10_turnsInto [Cond.code yX10_turnsInto prog_12_method_26_code 2 none] RM_X10_turnsInto (va_Pc [.ref (ga G k0)] (Pre G σ)) (QG G none σr) 0 0 (AA G) := by
  refine ct_of (by decide) (fun p e s m below meth c X hP => ?_)
  have hx := X.hx
  have hb := X.hb
  have hS : va_S (AA G) s.heap s.heap [] := va_S.rf
  have hl := lv_entry ([.ref (ga G k0)]) (n := 2) (Nat.le_of_ble_eq_true rfl)
  rw [lg_entry_eq]
  generalize (lg_sl ([.ref (ga G k0)]) ++ List.replicate (2 - (lg_sl ([.ref (ga G k0)])).length) Slot.unset).toArray = ls at hl ⊢
  have hl : lv_has ls 2 [(0, .ref (ga G k0))] := hl
  unfold f_X10_turnsInto at h
  refine lv_aload_n (pc := 0) hx hb dX10_turnsInto_0 rfl (lv_at hl 0 rfl) ?_
  refine lv_aload_n (pc := 1) hx hb dX10_turnsInto_1 rfl (lv_at hl 0 rfl) ?_
  refine gt_X10_197 X hP hk0 dX10_turnsInto_2 ?_
  obtain ⟨σ1, e2, h⟩ := bnd1 h
  refine pt_X10_117 X hP hS hk0 dX10_turnsInto_5 (fun H locs hP hS => ?_)
  rw [Option.some.inj e2] at hP
  refine lv_aload_n (pc := 8) hx hb dX10_turnsInto_8 rfl (lv_at hl 0 rfl) ?_
  refine lv_aload_n (pc := 9) hx hb dX10_turnsInto_9 rfl (lv_at hl 0 rfl) ?_
  refine gt_X10_213 X hP hk0 dX10_turnsInto_10 ?_
  obtain ⟨σ3, e4, h⟩ := bnd1 h
  refine pt_X10_128 X hP hS hk0 dX10_turnsInto_13 (fun H locs hP hS => ?_)
  rw [Option.some.inj e4] at hP
  refine lv_aload_n (pc := 16) hx hb dX10_turnsInto_16 rfl (lv_at hl 0 rfl) ?_
  refine lv_aload_n (pc := 17) hx hb dX10_turnsInto_17 rfl (lv_at hl 0 rfl) ?_
  refine gt_X10_232 X hP hk0 dX10_turnsInto_18 ?_
  obtain ⟨σ5, e6, h⟩ := bnd1 h
  refine pt_X10_28 X hP hS hk0 dX10_turnsInto_21 (fun H locs hP hS => ?_)
  rw [Option.some.inj e6] at hP
  refine lv_iconst (pc := 24) (v := 0) hx hb dX10_turnsInto_24 (by decide) ?_
  refine lv_istore_n (pc := 25) (lv' := [(1, .int (0 : Int32)), (0, .ref (ga G k0))]) hx hb dX10_turnsInto_25 rfl hl (by decide) rfl (fun ls hl => ?_)
  exact w_X10_turnsInto_26 X  hk0  FU _ _ _ _ _ hP hS (lv_sub hl [1, 0] rfl) h
def F_X10_hall_50 (k0z : Nat) (rec1 : Mem → Option (Int32 × Mem)) : Mem → Option (Int32 × Mem) := fun  σ =>
  if (gI σ k0z 22) = (0 : Int32) then
    bd1 (some (pI σ k0z 16 (0 : Int32))) fun σ15 =>
    if (gI σ15 k0z 22) = (0 : Int32) then
      some (((-100 : Int32) - (gI σ15 k0z 18)), σ15)
    else
      bd1 (f_X10_turnsInto k0z σ15) fun σ18 =>
      bd1 (some (pI σ18 k0z 45 (0 : Int32))) fun σ20 =>
      some ((gI σ20 k0z 0), σ20)
  else
    if (gI σ k0z 17) = (0 : Int32) then
      bd1 (some (pI σ k0z 16 (0 : Int32))) fun σ23 =>
      if (gI σ23 k0z 22) = (0 : Int32) then
        some (((-100 : Int32) - (gI σ23 k0z 18)), σ23)
      else
        bd1 (f_X10_turnsInto k0z σ23) fun σ26 =>
        bd1 (some (pI σ26 k0z 45 (0 : Int32))) fun σ28 =>
        some ((gI σ28 k0z 0), σ28)
    else
      bd1 (f_X10_wantClause k0z σ) fun σ30 =>
      rec1  σ30
def F_X10_hall_27 (k0z : Nat) (rec1 : Int32 → Mem → Option (Int32 × Mem)) : Int32 → Mem → Option (Int32 × Mem) := fun v1 σ =>
  if (12 : Int32) ≤ v1 then
    bd1 (f_X10_advance k0z σ) fun σ12 =>
    iterF (F_X10_hall_50 k0z) (fun _ => none) FU  σ12
  else
    bd1 (ixo (k0z + 18) v1) fun j32 =>
    bd1 (some (pI σ (k0z + 18) j32 (0 : Int32))) fun σ34 =>
    rec1 (v1 + (1 : Int32)) σ34
def f_X10_hall (k0 : Nat) (σ : Mem) : Option (Int32 × Mem) :=
  bd1 (some (pI σ k0 19 (0 : Int32))) fun σ1 =>
  bd1 (some (pI σ1 k0 22 (1 : Int32))) fun σ3 =>
  bd1 (some (pI σ3 k0 23 (0 : Int32))) fun σ5 =>
  bd1 (some (pI σ5 k0 24 (0 : Int32))) fun σ7 =>
  bd1 (some (pI σ7 k0 25 (5 : Int32))) fun σ9 =>
  iterF (F_X10_hall_27 k0) (fun _ _ => none) FU (0 : Int32) σ9
abbrev RM_X10_hall : Room := { frames := 6, cells := 0, slots := 0, locals := 130 }
set_option maxHeartbeats 4000000 in
set_option maxRecDepth 100000 in
theorem w_X10_hall_50 {l : Launch} {G : Gh} {p : Program} {e : Env} {s : State} {m : MethodId} {args : Array Value} {below : List Frame} {meth : Method} {c : Code} (X : Cx G p s m args meth c prog_12_method_25_code RX10 2 (some .int)) {k0z : Nat} (hz0 : kd k0z = 10) {rr : Int32} {σr : Mem} : ∀ (n : Nat) (σ : Mem) (H : Heap) (locs : List Loc) (ls : Array Slot), PW G σ H → va_S (AA G) s.heap H locs → lv_has ls 2 [(0, .ref (ga G k0z))] → iterF (F_X10_hall_50 k0z) (fun _ => none) n  σ = some (rr, σr) → W p l e RM_X10_hall s m args below meth c H locs 0 0 (MQ below (QG G (some (.int rr)) σr) args s 0 0 (AA G)) (F0 m 50 ls []) := by
  have hx := X.hx
  have hb := X.hb
  intro n
  induction n with
  | zero => intro  σ H locs ls hP hS hl h; exact nnone (α := (Int32 × Mem)) h
  | succ n ih1 =>
    intro  σ H locs ls hP hS hl h
    have h : F_X10_hall_50 k0z (iterF (F_X10_hall_50 k0z) (fun _ => none) n)  σ = some _ := h
    unfold F_X10_hall_50 at h
    refine lv_aload_n (pc := 50) hx hb dX10_hall_50 rfl (lv_at hl 0 rfl) ?_
    refine gt_X10_187 X hP hz0 dX10_hall_51 ?_
    refine lv_if_eq (pc := 54) (tgt := 71) hx hb dX10_hall_54 (by decide) (fun c14 => ?_) (fun c14 => ?_)
    · have h := ipos c14 h
      refine lv_aload_n (pc := 71) hx hb dX10_hall_71 rfl (lv_at hl 0 rfl) ?_
      refine lv_iconst (pc := 72) (v := 0) hx hb dX10_hall_72 (by decide) ?_
      obtain ⟨σ15, e16, h⟩ := bnd1 h
      refine pt_X10_134 X hP hS hz0 dX10_hall_73 (fun H locs hP hS => ?_)
      rw [Option.some.inj e16] at hP
      refine lv_aload_n (pc := 76) hx hb dX10_hall_76 rfl (lv_at hl 0 rfl) ?_
      refine gt_X10_187 X hP hz0 dX10_hall_77 ?_
      refine lv_if_ne (pc := 80) (tgt := 91) hx hb dX10_hall_80 (by decide) (fun c17 => ?_) (fun c17 => ?_)
      · have h := ineg c17 h
        refine lv_aload_n (pc := 91) hx hb dX10_hall_91 rfl (lv_at hl 0 rfl) ?_
        obtain ⟨σ18, e19, h⟩ := bnd1 h
        refine cl_X10_246 X hP hS hz0 (As := []) (rest := []) (c_X10_turnsInto l G hz0 e19) ⟨rfl, rfl, Nat.le_of_ble_eq_true rfl, Nat.le_of_ble_eq_true rfl⟩ rfl hl.1 rfl (Nat.le_of_ble_eq_true rfl) ⟨Nat.zero_le _, Nat.zero_le _⟩ (pc := 92) dX10_hall_92 (fun H locs hP hS => ?_)
        change W p l e _ s m _ below meth c H locs _ _ _ (F0 m (92 + 3) ls [])
        refine lv_aload_n (pc := 95) hx hb dX10_hall_95 rfl (lv_at hl 0 rfl) ?_
        refine lv_iconst (pc := 96) (v := 0) hx hb dX10_hall_96 (by decide) ?_
        obtain ⟨σ20, e21, h⟩ := bnd1 h
        refine pt_X10_249 X hP hS hz0 dX10_hall_97 (fun H locs hP hS => ?_)
        rw [Option.some.inj e21] at hP
        refine lv_aload_n (pc := 100) hx hb dX10_hall_100 rfl (lv_at hl 0 rfl) ?_
        refine gt_X10_117 X hP hz0 dX10_hall_101 ?_
        obtain ⟨rfl, rfl⟩ := inj2 h
        exact r_iret X hP hS dX10_hall_104
      · have h := ipos c17 h
        refine lv_bipush (pc := 83) (v := (-100)) hx hb dX10_hall_83 (by decide) ?_
        refine lv_aload_n (pc := 85) hx hb dX10_hall_85 rfl (lv_at hl 0 rfl) ?_
        refine gt_X10_142 X hP hz0 dX10_hall_86 ?_
        refine lv_isub (pc := 89) hx hb dX10_hall_89 ?_
        obtain ⟨rfl, rfl⟩ := inj2 h
        exact r_iret X hP hS dX10_hall_90
    · have h := ineg c14 h
      refine lv_aload_n (pc := 57) hx hb dX10_hall_57 rfl (lv_at hl 0 rfl) ?_
      refine gt_X10_155 X hP hz0 dX10_hall_58 ?_
      refine lv_if_eq (pc := 61) (tgt := 71) hx hb dX10_hall_61 (by decide) (fun c22 => ?_) (fun c22 => ?_)
      · have h := ipos c22 h
        refine lv_aload_n (pc := 71) hx hb dX10_hall_71 rfl (lv_at hl 0 rfl) ?_
        refine lv_iconst (pc := 72) (v := 0) hx hb dX10_hall_72 (by decide) ?_
        obtain ⟨σ23, e24, h⟩ := bnd1 h
        refine pt_X10_134 X hP hS hz0 dX10_hall_73 (fun H locs hP hS => ?_)
        rw [Option.some.inj e24] at hP
        refine lv_aload_n (pc := 76) hx hb dX10_hall_76 rfl (lv_at hl 0 rfl) ?_
        refine gt_X10_187 X hP hz0 dX10_hall_77 ?_
        refine lv_if_ne (pc := 80) (tgt := 91) hx hb dX10_hall_80 (by decide) (fun c25 => ?_) (fun c25 => ?_)
        · have h := ineg c25 h
          refine lv_aload_n (pc := 91) hx hb dX10_hall_91 rfl (lv_at hl 0 rfl) ?_
          obtain ⟨σ26, e27, h⟩ := bnd1 h
          refine cl_X10_246 X hP hS hz0 (As := []) (rest := []) (c_X10_turnsInto l G hz0 e27) ⟨rfl, rfl, Nat.le_of_ble_eq_true rfl, Nat.le_of_ble_eq_true rfl⟩ rfl hl.1 rfl (Nat.le_of_ble_eq_true rfl) ⟨Nat.zero_le _, Nat.zero_le _⟩ (pc := 92) dX10_hall_92 (fun H locs hP hS => ?_)
          change W p l e _ s m _ below meth c H locs _ _ _ (F0 m (92 + 3) ls [])
          refine lv_aload_n (pc := 95) hx hb dX10_hall_95 rfl (lv_at hl 0 rfl) ?_
          refine lv_iconst (pc := 96) (v := 0) hx hb dX10_hall_96 (by decide) ?_
          obtain ⟨σ28, e29, h⟩ := bnd1 h
          refine pt_X10_249 X hP hS hz0 dX10_hall_97 (fun H locs hP hS => ?_)
          rw [Option.some.inj e29] at hP
          refine lv_aload_n (pc := 100) hx hb dX10_hall_100 rfl (lv_at hl 0 rfl) ?_
          refine gt_X10_117 X hP hz0 dX10_hall_101 ?_
          obtain ⟨rfl, rfl⟩ := inj2 h
          exact r_iret X hP hS dX10_hall_104
        · have h := ipos c25 h
          refine lv_bipush (pc := 83) (v := (-100)) hx hb dX10_hall_83 (by decide) ?_
          refine lv_aload_n (pc := 85) hx hb dX10_hall_85 rfl (lv_at hl 0 rfl) ?_
          refine gt_X10_142 X hP hz0 dX10_hall_86 ?_
          refine lv_isub (pc := 89) hx hb dX10_hall_89 ?_
          obtain ⟨rfl, rfl⟩ := inj2 h
          exact r_iret X hP hS dX10_hall_90
      · have h := ineg c22 h
        refine lv_aload_n (pc := 64) hx hb dX10_hall_64 rfl (lv_at hl 0 rfl) ?_
        obtain ⟨σ30, e31, h⟩ := bnd1 h
        refine cl_X10_243 X hP hS hz0 (As := []) (rest := []) (c_X10_wantClause l G hz0 e31) ⟨rfl, rfl, Nat.le_of_ble_eq_true rfl, Nat.le_of_ble_eq_true rfl⟩ rfl hl.1 rfl (Nat.le_of_ble_eq_true rfl) ⟨Nat.zero_le _, Nat.zero_le _⟩ (pc := 65) dX10_hall_65 (fun H locs hP hS => ?_)
        change W p l e _ s m _ below meth c H locs _ _ _ (F0 m (65 + 3) ls [])
        refine lv_goto (pc := 68) (tgt := 50) hx hb dX10_hall_68 (by decide) ?_
        exact ih1  _ _ _ _ hP hS (lv_sub hl [0] rfl) h
set_option maxHeartbeats 4000000 in
set_option maxRecDepth 100000 in
theorem w_X10_hall_27 {l : Launch} {G : Gh} {p : Program} {e : Env} {s : State} {m : MethodId} {args : Array Value} {below : List Frame} {meth : Method} {c : Code} (X : Cx G p s m args meth c prog_12_method_25_code RX10 2 (some .int)) {k0z : Nat} (hz0 : kd k0z = 10) {rr : Int32} {σr : Mem} : ∀ (n : Nat) (v1 : Int32) (σ : Mem) (H : Heap) (locs : List Loc) (ls : Array Slot), PW G σ H → va_S (AA G) s.heap H locs → lv_has ls 2 [(0, .ref (ga G k0z)), (1, .int v1)] → iterF (F_X10_hall_27 k0z) (fun _ _ => none) n v1 σ = some (rr, σr) → W p l e RM_X10_hall s m args below meth c H locs 0 0 (MQ below (QG G (some (.int rr)) σr) args s 0 0 (AA G)) (F0 m 27 ls []) := by
  have hx := X.hx
  have hb := X.hb
  intro n
  induction n with
  | zero => intro v1 σ H locs ls hP hS hl h; exact nnone (α := (Int32 × Mem)) h
  | succ n ih1 =>
    intro v1 σ H locs ls hP hS hl h
    have h : F_X10_hall_27 k0z (iterF (F_X10_hall_27 k0z) (fun _ _ => none) n) v1 σ = some _ := h
    unfold F_X10_hall_27 at h
    refine lv_iload_n (pc := 27) hx hb dX10_hall_27 rfl (lv_at hl 1 rfl) ?_
    refine lv_bipush (pc := 28) (v := (12)) hx hb dX10_hall_28 (by decide) ?_
    refine lv_icmp_ge (pc := 30) (tgt := 46) hx hb dX10_hall_30 (by decide) (fun c11 => ?_) (fun c11 => ?_)
    · have h := ipos c11 h
      refine lv_aload_n (pc := 46) hx hb dX10_hall_46 rfl (lv_at hl 0 rfl) ?_
      obtain ⟨σ12, e13, h⟩ := bnd1 h
      refine cl_X10_191 X hP hS hz0 (As := []) (rest := []) (c_X10_advance l G hz0 e13) ⟨rfl, rfl, Nat.le_of_ble_eq_true rfl, Nat.le_of_ble_eq_true rfl⟩ rfl hl.1 rfl (Nat.le_of_ble_eq_true rfl) ⟨Nat.zero_le _, Nat.zero_le _⟩ (pc := 47) dX10_hall_47 (fun H locs hP hS => ?_)
      change W p l e _ s m _ below meth c H locs _ _ _ (F0 m (47 + 3) ls [])
      exact w_X10_hall_50 X  hz0  FU  _ _ _ _ hP hS (lv_sub hl [0] rfl) h
    · have h := ineg c11 h
      refine lv_aload_n (pc := 33) hx hb dX10_hall_33 rfl (lv_at hl 0 rfl) ?_
      refine gt_X10_68 X hP hz0 dX10_hall_34 ?_
      refine lv_iload_n (pc := 37) hx hb dX10_hall_37 rfl (lv_at hl 1 rfl) ?_
      refine lv_iconst (pc := 38) (v := 0) hx hb dX10_hall_38 (by decide) ?_
      obtain ⟨j32, hj33, h⟩ := bnd1 h
      obtain ⟨σ34, e35, h⟩ := bnd1 h
      refine r_iast (pc := 39) X hP hS (kf_10_freshDraughts hz0).1 hj33 dX10_hall_39 (fun H locs hP hS => ?_)
      rw [Option.some.inj e35] at hP
      refine lv_iinc (pc := 40) (v := (v1 + (1 : Int32))) (lv' := [(1, .int (v1 + (1 : Int32))), (0, .ref (ga G k0z))]) hx hb dX10_hall_40 hl (k := 1) rfl (congrArg (fun z => v1 + z) (by decide)) (by decide) rfl (fun ls hl => ?_)
      refine lv_goto (pc := 43) (tgt := 27) hx hb dX10_hall_43 (by decide) ?_
      exact ih1 _ _ _ _ _ hP hS (lv_sub hl [1, 0] rfl) h
set_option maxHeartbeats 4000000 in
set_option maxRecDepth 100000 in
theorem c_X10_hall (l : Launch) (G : Gh) {k0 : Nat} {σ : Mem} {rr : Int32} {σr : Mem} (hk0 : kd k0 = 10) (h : f_X10_hall k0 σ = some (rr, σr)) : Met l yX10_hall [Cond.code yX10_hall prog_12_method_25_code 2 (some .int)] RM_X10_hall (va_Pc [.ref (ga G k0)] (Pre G σ)) (QG G (some (.int rr)) σr) 0 0 (AA G) := by
  refine ct_of (by decide) (fun p e s m below meth c X hP => ?_)
  have hx := X.hx
  have hb := X.hb
  have hS : va_S (AA G) s.heap s.heap [] := va_S.rf
  have hl := lv_entry ([.ref (ga G k0)]) (n := 2) (Nat.le_of_ble_eq_true rfl)
  rw [lg_entry_eq]
  generalize (lg_sl ([.ref (ga G k0)]) ++ List.replicate (2 - (lg_sl ([.ref (ga G k0)])).length) Slot.unset).toArray = ls at hl ⊢
  have hl : lv_has ls 2 [(0, .ref (ga G k0))] := hl
  unfold f_X10_hall at h
  refine lv_aload_n (pc := 0) hx hb dX10_hall_0 rfl (lv_at hl 0 rfl) ?_
  refine lv_iconst (pc := 1) (v := 0) hx hb dX10_hall_1 (by decide) ?_
  obtain ⟨σ1, e2, h⟩ := bnd1 h
  refine pt_X10_139 X hP hS hk0 dX10_hall_2 (fun H locs hP hS => ?_)
  rw [Option.some.inj e2] at hP
  refine lv_aload_n (pc := 5) hx hb dX10_hall_5 rfl (lv_at hl 0 rfl) ?_
  refine lv_iconst (pc := 6) (v := 1) hx hb dX10_hall_6 (by decide) ?_
  obtain ⟨σ3, e4, h⟩ := bnd1 h
  refine pt_X10_187 X hP hS hk0 (by decide) dX10_hall_7 (fun H locs hP hS => ?_)
  rw [Option.some.inj e4] at hP
  refine lv_aload_n (pc := 10) hx hb dX10_hall_10 rfl (lv_at hl 0 rfl) ?_
  refine lv_iconst (pc := 11) (v := 0) hx hb dX10_hall_11 (by decide) ?_
  obtain ⟨σ5, e6, h⟩ := bnd1 h
  refine pt_X10_197 X hP hS hk0 dX10_hall_12 (fun H locs hP hS => ?_)
  rw [Option.some.inj e6] at hP
  refine lv_aload_n (pc := 15) hx hb dX10_hall_15 rfl (lv_at hl 0 rfl) ?_
  refine lv_iconst (pc := 16) (v := 0) hx hb dX10_hall_16 (by decide) ?_
  obtain ⟨σ7, e8, h⟩ := bnd1 h
  refine pt_X10_213 X hP hS hk0 dX10_hall_17 (fun H locs hP hS => ?_)
  rw [Option.some.inj e8] at hP
  refine lv_aload_n (pc := 20) hx hb dX10_hall_20 rfl (lv_at hl 0 rfl) ?_
  refine lv_iconst (pc := 21) (v := 5) hx hb dX10_hall_21 (by decide) ?_
  obtain ⟨σ9, e10, h⟩ := bnd1 h
  refine pt_X10_232 X hP hS hk0 dX10_hall_22 (fun H locs hP hS => ?_)
  rw [Option.some.inj e10] at hP
  refine lv_iconst (pc := 25) (v := 0) hx hb dX10_hall_25 (by decide) ?_
  refine lv_istore_n (pc := 26) (lv' := [(1, .int (0 : Int32)), (0, .ref (ga G k0))]) hx hb dX10_hall_26 rfl hl (by decide) rfl (fun ls hl => ?_)
  exact w_X10_hall_27 X  hk0  FU _ _ _ _ _ hP hS (lv_sub hl [1, 0] rfl) h
def f_X10_isWax (a0 : Int32) (σ : Mem) : Option (Int32 × Mem) :=
  bd2 (f_X10_in a0 (1 : Int32) (60 : Int32) σ) fun r3 σ1 =>
  grd (r3 = 0 ∨ r3 = 1) <|
  some (r3, σ1)
abbrev RM_X10_isWax : Room := { frames := 1, cells := 0, slots := 0, locals := 22 }
set_option maxHeartbeats 4000000 in
set_option maxRecDepth 100000 in
theorem c_X10_isWax (l : Launch) (G : Gh) {a0 : Int32} {σ : Mem} {rr : Int32} {σr : Mem} (h : f_X10_isWax a0 σ = some (rr, σr)) : Met l yX10_isWax [Cond.code yX10_isWax prog_12_method_28_code 1 (some .boolean)] RM_X10_isWax (va_Pc [.int a0] (Pre G σ)) (QG G (some (.int rr)) σr) 0 0 (AA G) := by
  refine ct_of (by decide) (fun p e s m below meth c X hP => ?_)
  have hx := X.hx
  have hb := X.hb
  have hS : va_S (AA G) s.heap s.heap [] := va_S.rf
  have hl := lv_entry ([.int a0]) (n := 1) (Nat.le_of_ble_eq_true rfl)
  rw [lg_entry_eq]
  generalize (lg_sl ([.int a0]) ++ List.replicate (1 - (lg_sl ([.int a0])).length) Slot.unset).toArray = ls at hl ⊢
  have hl : lv_has ls 1 [(0, .int a0)] := hl
  unfold f_X10_isWax at h
  refine lv_iload_n (pc := 0) hx hb dX10_isWax_0 rfl (lv_at hl 0 rfl) ?_
  refine lv_iconst (pc := 1) (v := 1) hx hb dX10_isWax_1 (by decide) ?_
  refine lv_bipush (pc := 2) (v := (60)) hx hb dX10_isWax_2 (by decide) ?_
  obtain ⟨r3, σ1, e2, h⟩ := bnd2 h
  refine cl_X10_120 X hP hS (As := [.int a0, .int (1 : Int32), .int (60 : Int32)]) (rest := []) (c_X10_in l G  e2) ⟨rfl, rfl, Nat.le_of_ble_eq_true rfl, Nat.le_of_ble_eq_true rfl⟩ rfl hl.1 rfl (Nat.le_of_ble_eq_true rfl) ⟨Nat.zero_le _, Nat.zero_le _⟩ (pc := 4) dX10_isWax_4 (fun H locs hP hS => ?_)
  change W p l e _ s m _ below meth c H locs _ _ _ (F0 m (4 + 3) ls (.int r3 :: []))
  obtain ⟨g4, h⟩ := grd_inv h
  obtain ⟨rfl, rfl⟩ := inj2 h
  exact r_zret X hP hS g4 dX10_isWax_7
def f_X10_isWorth (a0 : Int32) (σ : Mem) : Option (Int32 × Mem) :=
  bd2 (f_X10_in a0 (1 : Int32) (99 : Int32) σ) fun r3 σ1 =>
  grd (r3 = 0 ∨ r3 = 1) <|
  some (r3, σ1)
abbrev RM_X10_isWorth : Room := { frames := 1, cells := 0, slots := 0, locals := 22 }
set_option maxHeartbeats 4000000 in
set_option maxRecDepth 100000 in
theorem c_X10_isWorth (l : Launch) (G : Gh) {a0 : Int32} {σ : Mem} {rr : Int32} {σr : Mem} (h : f_X10_isWorth a0 σ = some (rr, σr)) : Met l yX10_isWorth [Cond.code yX10_isWorth prog_12_method_29_code 1 (some .boolean)] RM_X10_isWorth (va_Pc [.int a0] (Pre G σ)) (QG G (some (.int rr)) σr) 0 0 (AA G) := by
  refine ct_of (by decide) (fun p e s m below meth c X hP => ?_)
  have hx := X.hx
  have hb := X.hb
  have hS : va_S (AA G) s.heap s.heap [] := va_S.rf
  have hl := lv_entry ([.int a0]) (n := 1) (Nat.le_of_ble_eq_true rfl)
  rw [lg_entry_eq]
  generalize (lg_sl ([.int a0]) ++ List.replicate (1 - (lg_sl ([.int a0])).length) Slot.unset).toArray = ls at hl ⊢
  have hl : lv_has ls 1 [(0, .int a0)] := hl
  unfold f_X10_isWorth at h
  refine lv_iload_n (pc := 0) hx hb dX10_isWorth_0 rfl (lv_at hl 0 rfl) ?_
  refine lv_iconst (pc := 1) (v := 1) hx hb dX10_isWorth_1 (by decide) ?_
  refine lv_bipush (pc := 2) (v := (99)) hx hb dX10_isWorth_2 (by decide) ?_
  obtain ⟨r3, σ1, e2, h⟩ := bnd2 h
  refine cl_X10_120 X hP hS (As := [.int a0, .int (1 : Int32), .int (99 : Int32)]) (rest := []) (c_X10_in l G  e2) ⟨rfl, rfl, Nat.le_of_ble_eq_true rfl, Nat.le_of_ble_eq_true rfl⟩ rfl hl.1 rfl (Nat.le_of_ble_eq_true rfl) ⟨Nat.zero_le _, Nat.zero_le _⟩ (pc := 4) dX10_isWorth_4 (fun H locs hP hS => ?_)
  change W p l e _ s m _ below meth c H locs _ _ _ (F0 m (4 + 3) ls (.int r3 :: []))
  obtain ⟨g4, h⟩ := grd_inv h
  obtain ⟨rfl, rfl⟩ := inj2 h
  exact r_zret X hP hS g4 dX10_isWorth_7
def f_X10_lot (k0 : Nat) (a1 : Int32) (a2 : Int32) (σ : Mem) : Option (Int32 × Mem) :=
  bd2 (f_X10_isWax a1 σ) fun r3 σ1 =>
  if r3 = (0 : Int32) then
    some ((-1 : Int32), σ1)
  else
    bd2 (f_X10_isWorth a2 σ1) fun r7 σ5 =>
    if r7 = (0 : Int32) then
      some ((-1 : Int32), σ5)
    else
      if (gI σ5 k0 0) = (5 : Int32) then
        some ((-2 : Int32), σ5)
      else
        bd1 (ixo (k0 + 1) (gI σ5 k0 0)) fun j10 =>
        bd1 (some (pI σ5 (k0 + 1) j10 a1)) fun σ12 =>
        bd1 (ixo (k0 + 2) (gI σ12 k0 0)) fun j14 =>
        bd1 (some (pI σ12 (k0 + 2) j14 a2)) fun σ16 =>
        bd1 (ixo (k0 + 3) (gI σ16 k0 0)) fun j18 =>
        bd1 (some (pI σ16 (k0 + 3) j18 (0 : Int32))) fun σ20 =>
        bd1 (some (pI σ20 k0 0 ((gI σ20 k0 0) + (1 : Int32)))) fun σ22 =>
        some (((gI σ22 k0 0) - (1 : Int32)), σ22)
abbrev RM_X10_lot : Room := { frames := 2, cells := 0, slots := 0, locals := 42 }
set_option maxHeartbeats 4000000 in
set_option maxRecDepth 100000 in
theorem c_X10_lot (l : Launch) (G : Gh) {k0 : Nat} {a1 : Int32} {a2 : Int32} {σ : Mem} {rr : Int32} {σr : Mem} (hk0 : kd k0 = 10) (h : f_X10_lot k0 a1 a2 σ = some (rr, σr)) : Met l yX10_lot [Cond.code yX10_lot prog_12_method_30_code 3 (some .int)] RM_X10_lot (va_Pc [.ref (ga G k0), .int a1, .int a2] (Pre G σ)) (QG G (some (.int rr)) σr) 0 0 (AA G) := by
  refine ct_of (by decide) (fun p e s m below meth c X hP => ?_)
  have hx := X.hx
  have hb := X.hb
  have hS : va_S (AA G) s.heap s.heap [] := va_S.rf
  have hl := lv_entry ([.ref (ga G k0), .int a1, .int a2]) (n := 3) (Nat.le_of_ble_eq_true rfl)
  rw [lg_entry_eq]
  generalize (lg_sl ([.ref (ga G k0), .int a1, .int a2]) ++ List.replicate (3 - (lg_sl ([.ref (ga G k0), .int a1, .int a2])).length) Slot.unset).toArray = ls at hl ⊢
  have hl : lv_has ls 3 [(0, .ref (ga G k0)), (1, .int a1), (2, .int a2)] := hl
  unfold f_X10_lot at h
  refine lv_iload_n (pc := 0) hx hb dX10_lot_0 rfl (lv_at hl 1 rfl) ?_
  obtain ⟨r3, σ1, e2, h⟩ := bnd2 h
  refine cl_X10_259 X hP hS (As := [.int a1]) (rest := []) (c_X10_isWax l G  e2) ⟨rfl, rfl, Nat.le_of_ble_eq_true rfl, Nat.le_of_ble_eq_true rfl⟩ rfl hl.1 rfl (Nat.le_of_ble_eq_true rfl) ⟨Nat.zero_le _, Nat.zero_le _⟩ (pc := 1) dX10_lot_1 (fun H locs hP hS => ?_)
  change W p l e _ s m _ below meth c H locs _ _ _ (F0 m (1 + 3) ls (.int r3 :: []))
  refine lv_if_eq (pc := 4) (tgt := 14) hx hb dX10_lot_4 (by decide) (fun c4 => ?_) (fun c4 => ?_)
  · have h := ipos c4 h
    refine lv_iconst (pc := 14) (v := (-1)) hx hb dX10_lot_14 (by decide) ?_
    obtain ⟨rfl, rfl⟩ := inj2 h
    exact r_iret X hP hS dX10_lot_15
  · have h := ineg c4 h
    refine lv_iload_n (pc := 7) hx hb dX10_lot_7 rfl (lv_at hl 2 rfl) ?_
    obtain ⟨r7, σ5, e6, h⟩ := bnd2 h
    refine cl_X10_262 X hP hS (As := [.int a2]) (rest := []) (c_X10_isWorth l G  e6) ⟨rfl, rfl, Nat.le_of_ble_eq_true rfl, Nat.le_of_ble_eq_true rfl⟩ rfl hl.1 rfl (Nat.le_of_ble_eq_true rfl) ⟨Nat.zero_le _, Nat.zero_le _⟩ (pc := 8) dX10_lot_8 (fun H locs hP hS => ?_)
    change W p l e _ s m _ below meth c H locs _ _ _ (F0 m (8 + 3) ls (.int r7 :: []))
    refine lv_if_ne (pc := 11) (tgt := 16) hx hb dX10_lot_11 (by decide) (fun c8 => ?_) (fun c8 => ?_)
    · have h := ineg c8 h
      refine lv_aload_n (pc := 16) hx hb dX10_lot_16 rfl (lv_at hl 0 rfl) ?_
      refine gt_X10_117 X hP hk0 dX10_lot_17 ?_
      refine lv_iconst (pc := 20) (v := 5) hx hb dX10_lot_20 (by decide) ?_
      refine lv_icmp_ne (pc := 21) (tgt := 27) hx hb dX10_lot_21 (by decide) (fun c9 => ?_) (fun c9 => ?_)
      · have h := ineg c9 h
        refine lv_aload_n (pc := 27) hx hb dX10_lot_27 rfl (lv_at hl 0 rfl) ?_
        refine gt_X10_7 X hP hk0 dX10_lot_28 ?_
        refine lv_aload_n (pc := 31) hx hb dX10_lot_31 rfl (lv_at hl 0 rfl) ?_
        refine gt_X10_117 X hP hk0 dX10_lot_32 ?_
        refine lv_iload_n (pc := 35) hx hb dX10_lot_35 rfl (lv_at hl 1 rfl) ?_
        obtain ⟨j10, hj11, h⟩ := bnd1 h
        obtain ⟨σ12, e13, h⟩ := bnd1 h
        refine r_iast (pc := 36) X hP hS (kf_10_waxes hk0).1 hj11 dX10_lot_36 (fun H locs hP hS => ?_)
        rw [Option.some.inj e13] at hP
        refine lv_aload_n (pc := 37) hx hb dX10_lot_37 rfl (lv_at hl 0 rfl) ?_
        refine gt_X10_13 X hP hk0 dX10_lot_38 ?_
        refine lv_aload_n (pc := 41) hx hb dX10_lot_41 rfl (lv_at hl 0 rfl) ?_
        refine gt_X10_117 X hP hk0 dX10_lot_42 ?_
        refine lv_iload_n (pc := 45) hx hb dX10_lot_45 rfl (lv_at hl 2 rfl) ?_
        obtain ⟨j14, hj15, h⟩ := bnd1 h
        obtain ⟨σ16, e17, h⟩ := bnd1 h
        refine r_iast (pc := 46) X hP hS (kf_10_worths hk0).1 hj15 dX10_lot_46 (fun H locs hP hS => ?_)
        rw [Option.some.inj e17] at hP
        refine lv_aload_n (pc := 47) hx hb dX10_lot_47 rfl (lv_at hl 0 rfl) ?_
        refine gt_X10_16 X hP hk0 dX10_lot_48 ?_
        refine lv_aload_n (pc := 51) hx hb dX10_lot_51 rfl (lv_at hl 0 rfl) ?_
        refine gt_X10_117 X hP hk0 dX10_lot_52 ?_
        refine lv_iconst (pc := 55) (v := 0) hx hb dX10_lot_55 (by decide) ?_
        obtain ⟨j18, hj19, h⟩ := bnd1 h
        obtain ⟨σ20, e21, h⟩ := bnd1 h
        refine r_iast (pc := 56) X hP hS (kf_10_sold hk0).1 hj19 dX10_lot_56 (fun H locs hP hS => ?_)
        rw [Option.some.inj e21] at hP
        refine lv_aload_n (pc := 57) hx hb dX10_lot_57 rfl (lv_at hl 0 rfl) ?_
        refine lv_dup (pc := 58) hx hb dX10_lot_58 rfl ?_
        refine gt_X10_117 X hP hk0 dX10_lot_59 ?_
        refine lv_iconst (pc := 62) (v := 1) hx hb dX10_lot_62 (by decide) ?_
        refine lv_iadd (pc := 63) hx hb dX10_lot_63 ?_
        obtain ⟨σ22, e23, h⟩ := bnd1 h
        refine pt_X10_117 X hP hS hk0 dX10_lot_64 (fun H locs hP hS => ?_)
        rw [Option.some.inj e23] at hP
        refine lv_aload_n (pc := 67) hx hb dX10_lot_67 rfl (lv_at hl 0 rfl) ?_
        refine gt_X10_117 X hP hk0 dX10_lot_68 ?_
        refine lv_iconst (pc := 71) (v := 1) hx hb dX10_lot_71 (by decide) ?_
        refine lv_isub (pc := 72) hx hb dX10_lot_72 ?_
        obtain ⟨rfl, rfl⟩ := inj2 h
        exact r_iret X hP hS dX10_lot_73
      · have h := ipos c9 h
        refine lv_bipush (pc := 24) (v := (-2)) hx hb dX10_lot_24 (by decide) ?_
        obtain ⟨rfl, rfl⟩ := inj2 h
        exact r_iret X hP hS dX10_lot_26
    · have h := ipos c8 h
      refine lv_iconst (pc := 14) (v := (-1)) hx hb dX10_lot_14 (by decide) ?_
      obtain ⟨rfl, rfl⟩ := inj2 h
      exact r_iret X hP hS dX10_lot_15
def f_X10_lotOf (k0 : Nat) (a1 : Int32) (a2 : Int32) (σ : Mem) : Option (Int32 × Mem) :=
  bd2 (f_X10_isLot k0 a1 σ) fun r3 σ1 =>
  if r3 = (0 : Int32) then
    some ((-1 : Int32), σ1)
  else
    bd2 (f_X10_in a2 (0 : Int32) (4 : Int32) σ1) fun r7 σ5 =>
    if r7 = (0 : Int32) then
      some ((-1 : Int32), σ5)
    else
      if a2 = (0 : Int32) then
        bd1 (ixo (k0 + 1) a1) fun j10 =>
        some ((gI σ5 (k0 + 1) j10), σ5)
      else
      if a2 = (1 : Int32) then
        bd1 (ixo (k0 + 2) a1) fun j13 =>
        some ((gI σ5 (k0 + 2) j13), σ5)
      else
      if a2 = (2 : Int32) then
        bd1 (ixo (k0 + 3) a1) fun j16 =>
        some ((gI σ5 (k0 + 3) j16), σ5)
      else
      if a2 = (3 : Int32) then
        bd1 (ixo (k0 + 3) a1) fun j19 =>
        if (gI σ5 (k0 + 3) j19) = (1 : Int32) then
          bd1 (ixo (k0 + 4) a1) fun j22 =>
          some ((gI σ5 (k0 + 4) j22), σ5)
        else
          some ((-9 : Int32), σ5)
      else
      bd1 (ixo (k0 + 3) a1) fun j24 =>
      if (gI σ5 (k0 + 3) j24) = (1 : Int32) then
        bd1 (ixo (k0 + 5) a1) fun j27 =>
        if (gI σ5 (k0 + 5) j27) < (0 : Int32) then
          some ((-9 : Int32), σ5)
        else
          bd1 (ixo (k0 + 5) a1) fun j30 =>
          some ((gI σ5 (k0 + 5) j30), σ5)
      else
        some ((-9 : Int32), σ5)
abbrev RM_X10_lotOf : Room := { frames := 2, cells := 0, slots := 0, locals := 43 }
set_option maxHeartbeats 4000000 in
set_option maxRecDepth 100000 in
theorem c_X10_lotOf (l : Launch) (G : Gh) {k0 : Nat} {a1 : Int32} {a2 : Int32} {σ : Mem} {rr : Int32} {σr : Mem} (hk0 : kd k0 = 10) (h : f_X10_lotOf k0 a1 a2 σ = some (rr, σr)) : Met l yX10_lotOf [Cond.code yX10_lotOf prog_12_method_31_code 3 (some .int)] RM_X10_lotOf (va_Pc [.ref (ga G k0), .int a1, .int a2] (Pre G σ)) (QG G (some (.int rr)) σr) 0 0 (AA G) := by
  refine ct_of (by decide) (fun p e s m below meth c X hP => ?_)
  have hx := X.hx
  have hb := X.hb
  have hS : va_S (AA G) s.heap s.heap [] := va_S.rf
  have hl := lv_entry ([.ref (ga G k0), .int a1, .int a2]) (n := 3) (Nat.le_of_ble_eq_true rfl)
  rw [lg_entry_eq]
  generalize (lg_sl ([.ref (ga G k0), .int a1, .int a2]) ++ List.replicate (3 - (lg_sl ([.ref (ga G k0), .int a1, .int a2])).length) Slot.unset).toArray = ls at hl ⊢
  have hl : lv_has ls 3 [(0, .ref (ga G k0)), (1, .int a1), (2, .int a2)] := hl
  unfold f_X10_lotOf at h
  refine lv_aload_n (pc := 0) hx hb dX10_lotOf_0 rfl (lv_at hl 0 rfl) ?_
  refine lv_iload_n (pc := 1) hx hb dX10_lotOf_1 rfl (lv_at hl 1 rfl) ?_
  obtain ⟨r3, σ1, e2, h⟩ := bnd2 h
  refine cl_X10_124 X hP hS hk0 (As := [.int a1]) (rest := []) (c_X10_isLot l G hk0 e2) ⟨rfl, rfl, Nat.le_of_ble_eq_true rfl, Nat.le_of_ble_eq_true rfl⟩ rfl hl.1 rfl (Nat.le_of_ble_eq_true rfl) ⟨Nat.zero_le _, Nat.zero_le _⟩ (pc := 2) dX10_lotOf_2 (fun H locs hP hS => ?_)
  change W p l e _ s m _ below meth c H locs _ _ _ (F0 m (2 + 3) ls (.int r3 :: []))
  refine lv_if_eq (pc := 5) (tgt := 17) hx hb dX10_lotOf_5 (by decide) (fun c4 => ?_) (fun c4 => ?_)
  · have h := ipos c4 h
    refine lv_iconst (pc := 17) (v := (-1)) hx hb dX10_lotOf_17 (by decide) ?_
    obtain ⟨rfl, rfl⟩ := inj2 h
    exact r_iret X hP hS dX10_lotOf_18
  · have h := ineg c4 h
    refine lv_iload_n (pc := 8) hx hb dX10_lotOf_8 rfl (lv_at hl 2 rfl) ?_
    refine lv_iconst (pc := 9) (v := 0) hx hb dX10_lotOf_9 (by decide) ?_
    refine lv_iconst (pc := 10) (v := 4) hx hb dX10_lotOf_10 (by decide) ?_
    obtain ⟨r7, σ5, e6, h⟩ := bnd2 h
    refine cl_X10_120 X hP hS (As := [.int a2, .int (0 : Int32), .int (4 : Int32)]) (rest := []) (c_X10_in l G  e6) ⟨rfl, rfl, Nat.le_of_ble_eq_true rfl, Nat.le_of_ble_eq_true rfl⟩ rfl hl.1 rfl (Nat.le_of_ble_eq_true rfl) ⟨Nat.zero_le _, Nat.zero_le _⟩ (pc := 11) dX10_lotOf_11 (fun H locs hP hS => ?_)
    change W p l e _ s m _ below meth c H locs _ _ _ (F0 m (11 + 3) ls (.int r7 :: []))
    refine lv_if_ne (pc := 14) (tgt := 19) hx hb dX10_lotOf_14 (by decide) (fun c8 => ?_) (fun c8 => ?_)
    · have h := ineg c8 h
      refine lv_iload_n (pc := 19) hx hb dX10_lotOf_19 rfl (lv_at hl 2 rfl) ?_
      by_cases c9 : a2 = (0 : Int32)
      · have h := ipos c9 h
        refine r_tabIn X (pc := 20) (tgt := 52) c9 dX10_lotOf_20 (by decide) (by decide) rfl (by decide) ?_
        refine lv_aload_n (pc := 52) hx hb dX10_lotOf_52 rfl (lv_at hl 0 rfl) ?_
        refine gt_X10_7 X hP hk0 dX10_lotOf_53 ?_
        refine lv_iload_n (pc := 56) hx hb dX10_lotOf_56 rfl (lv_at hl 1 rfl) ?_
        obtain ⟨j10, hj11, h⟩ := bnd1 h
        refine r_iald (pc := 57) X hP (kf_10_waxes hk0).1 hj11 dX10_lotOf_57 ?_
        obtain ⟨rfl, rfl⟩ := inj2 h
        exact r_iret X hP hS dX10_lotOf_58
      have h := ineg c9 h
      by_cases c12 : a2 = (1 : Int32)
      · have h := ipos c12 h
        refine r_tabIn X (pc := 20) (tgt := 59) c12 dX10_lotOf_20 (by decide) (by decide) rfl (by decide) ?_
        refine lv_aload_n (pc := 59) hx hb dX10_lotOf_59 rfl (lv_at hl 0 rfl) ?_
        refine gt_X10_13 X hP hk0 dX10_lotOf_60 ?_
        refine lv_iload_n (pc := 63) hx hb dX10_lotOf_63 rfl (lv_at hl 1 rfl) ?_
        obtain ⟨j13, hj14, h⟩ := bnd1 h
        refine r_iald (pc := 64) X hP (kf_10_worths hk0).1 hj14 dX10_lotOf_64 ?_
        obtain ⟨rfl, rfl⟩ := inj2 h
        exact r_iret X hP hS dX10_lotOf_65
      have h := ineg c12 h
      by_cases c15 : a2 = (2 : Int32)
      · have h := ipos c15 h
        refine r_tabIn X (pc := 20) (tgt := 66) c15 dX10_lotOf_20 (by decide) (by decide) rfl (by decide) ?_
        refine lv_aload_n (pc := 66) hx hb dX10_lotOf_66 rfl (lv_at hl 0 rfl) ?_
        refine gt_X10_16 X hP hk0 dX10_lotOf_67 ?_
        refine lv_iload_n (pc := 70) hx hb dX10_lotOf_70 rfl (lv_at hl 1 rfl) ?_
        obtain ⟨j16, hj17, h⟩ := bnd1 h
        refine r_iald (pc := 71) X hP (kf_10_sold hk0).1 hj17 dX10_lotOf_71 ?_
        obtain ⟨rfl, rfl⟩ := inj2 h
        exact r_iret X hP hS dX10_lotOf_72
      have h := ineg c15 h
      by_cases c18 : a2 = (3 : Int32)
      · have h := ipos c18 h
        refine r_tabIn X (pc := 20) (tgt := 73) c18 dX10_lotOf_20 (by decide) (by decide) rfl (by decide) ?_
        refine lv_aload_n (pc := 73) hx hb dX10_lotOf_73 rfl (lv_at hl 0 rfl) ?_
        refine gt_X10_16 X hP hk0 dX10_lotOf_74 ?_
        refine lv_iload_n (pc := 77) hx hb dX10_lotOf_77 rfl (lv_at hl 1 rfl) ?_
        obtain ⟨j19, hj20, h⟩ := bnd1 h
        refine r_iald (pc := 78) X hP (kf_10_sold hk0).1 hj20 dX10_lotOf_78 ?_
        refine lv_iconst (pc := 79) (v := 1) hx hb dX10_lotOf_79 (by decide) ?_
        refine lv_icmp_ne (pc := 80) (tgt := 92) hx hb dX10_lotOf_80 (by decide) (fun c21 => ?_) (fun c21 => ?_)
        · have h := ineg c21 h
          refine lv_bipush (pc := 92) (v := (-9)) hx hb dX10_lotOf_92 (by decide) ?_
          obtain ⟨rfl, rfl⟩ := inj2 h
          exact r_iret X hP hS dX10_lotOf_94
        · have h := ipos c21 h
          refine lv_aload_n (pc := 83) hx hb dX10_lotOf_83 rfl (lv_at hl 0 rfl) ?_
          refine gt_X10_19 X hP hk0 dX10_lotOf_84 ?_
          refine lv_iload_n (pc := 87) hx hb dX10_lotOf_87 rfl (lv_at hl 1 rfl) ?_
          obtain ⟨j22, hj23, h⟩ := bnd1 h
          refine r_iald (pc := 88) X hP (kf_10_prices hk0).1 hj23 dX10_lotOf_88 ?_
          refine lv_goto (pc := 89) (tgt := 94) hx hb dX10_lotOf_89 (by decide) ?_
          obtain ⟨rfl, rfl⟩ := inj2 h
          exact r_iret X hP hS dX10_lotOf_94
      have h := ineg c18 h
      refine lv_tableOut (pc := 20) (tgt := 95) hx hb dX10_lotOf_20 (by have := lv_neT c9 (a := 0) (by decide); have := lv_neT c12 (a := 1) (by decide); have := lv_neT c15 (a := 2) (by decide); have := lv_neT c18 (a := 3) (by decide); omega) (by decide) ?_
      refine lv_aload_n (pc := 95) hx hb dX10_lotOf_95 rfl (lv_at hl 0 rfl) ?_
      refine gt_X10_16 X hP hk0 dX10_lotOf_96 ?_
      refine lv_iload_n (pc := 99) hx hb dX10_lotOf_99 rfl (lv_at hl 1 rfl) ?_
      obtain ⟨j24, hj25, h⟩ := bnd1 h
      refine r_iald (pc := 100) X hP (kf_10_sold hk0).1 hj25 dX10_lotOf_100 ?_
      refine lv_iconst (pc := 101) (v := 1) hx hb dX10_lotOf_101 (by decide) ?_
      refine lv_icmp_ne (pc := 102) (tgt := 123) hx hb dX10_lotOf_102 (by decide) (fun c26 => ?_) (fun c26 => ?_)
      · have h := ineg c26 h
        refine lv_bipush (pc := 123) (v := (-9)) hx hb dX10_lotOf_123 (by decide) ?_
        obtain ⟨rfl, rfl⟩ := inj2 h
        exact r_iret X hP hS dX10_lotOf_125
      · have h := ipos c26 h
        refine lv_aload_n (pc := 105) hx hb dX10_lotOf_105 rfl (lv_at hl 0 rfl) ?_
        refine gt_X10_22 X hP hk0 dX10_lotOf_106 ?_
        refine lv_iload_n (pc := 109) hx hb dX10_lotOf_109 rfl (lv_at hl 1 rfl) ?_
        obtain ⟨j27, hj28, h⟩ := bnd1 h
        refine r_iald (pc := 110) X hP (kf_10_owners hk0).1 hj28 dX10_lotOf_110 ?_
        refine lv_if_lt (pc := 111) (tgt := 123) hx hb dX10_lotOf_111 (by decide) (fun c29 => ?_) (fun c29 => ?_)
        · have h := ipos c29 h
          refine lv_bipush (pc := 123) (v := (-9)) hx hb dX10_lotOf_123 (by decide) ?_
          obtain ⟨rfl, rfl⟩ := inj2 h
          exact r_iret X hP hS dX10_lotOf_125
        · have h := ineg c29 h
          refine lv_aload_n (pc := 114) hx hb dX10_lotOf_114 rfl (lv_at hl 0 rfl) ?_
          refine gt_X10_22 X hP hk0 dX10_lotOf_115 ?_
          refine lv_iload_n (pc := 118) hx hb dX10_lotOf_118 rfl (lv_at hl 1 rfl) ?_
          obtain ⟨j30, hj31, h⟩ := bnd1 h
          refine r_iald (pc := 119) X hP (kf_10_owners hk0).1 hj31 dX10_lotOf_119 ?_
          refine lv_goto (pc := 120) (tgt := 125) hx hb dX10_lotOf_120 (by decide) ?_
          obtain ⟨rfl, rfl⟩ := inj2 h
          exact r_iret X hP hS dX10_lotOf_125
    · have h := ipos c8 h
      refine lv_iconst (pc := 17) (v := (-1)) hx hb dX10_lotOf_17 (by decide) ?_
      obtain ⟨rfl, rfl⟩ := inj2 h
      exact r_iret X hP hS dX10_lotOf_18
def F_X10_trim_38 (k0z : Nat) (v1 : Int32) (v2 : Int32) (v3 : Int32) (σ : Mem) : Option (Int32 × Mem) :=
  bd1 (ixo (k0z + 3) v1) fun j14 =>
  if (gI σ (k0z + 3) j14) = (1 : Int32) then
    some ((-4 : Int32), σ)
  else
    bd1 (ixo (k0z + 10) (0 : Int32)) fun j17 =>
    if (gI σ (k0z + 10) j17) = v1 then
      some ((-4 : Int32), σ)
    else
      if v2 = (0 : Int32) then
        bd1 (ixo (k0z + 1) v1) fun j32 =>
        if v2 = (0 : Int32) then
          bd1 (ixo (k0z + 1) v1) fun j39 =>
          bd1 (some (pI σ (k0z + 1) j39 v3)) fun σ41 =>
          some ((gI σ (k0z + 1) j32), σ41)
        else
          bd1 (ixo (k0z + 2) v1) fun j35 =>
          bd1 (some (pI σ (k0z + 2) j35 v3)) fun σ37 =>
          some ((gI σ (k0z + 1) j32), σ37)
      else
        bd1 (ixo (k0z + 2) v1) fun j21 =>
        if v2 = (0 : Int32) then
          bd1 (ixo (k0z + 1) v1) fun j28 =>
          bd1 (some (pI σ (k0z + 1) j28 v3)) fun σ30 =>
          some ((gI σ (k0z + 2) j21), σ30)
        else
          bd1 (ixo (k0z + 2) v1) fun j24 =>
          bd1 (some (pI σ (k0z + 2) j24 v3)) fun σ26 =>
          some ((gI σ (k0z + 2) j21), σ26)
def f_X10_trim (k0 : Nat) (a1 : Int32) (a2 : Int32) (a3 : Int32) (σ : Mem) : Option (Int32 × Mem) :=
  bd2 (f_X10_isLot k0 a1 σ) fun r3 σ1 =>
  if r3 = (0 : Int32) then
    some ((-1 : Int32), σ1)
  else
    bd2 (f_X10_isSide a2 σ1) fun r7 σ5 =>
    if r7 = (0 : Int32) then
      some ((-1 : Int32), σ5)
    else
      if a2 = (0 : Int32) then
        bd2 (f_X10_isWax a3 σ5) fun r45 σ43 =>
        if r45 = (0 : Int32) then
          some ((-1 : Int32), σ43)
        else
          F_X10_trim_38 k0 a1 a2 a3 σ43
      else
        bd2 (f_X10_isWorth a3 σ5) fun r12 σ10 =>
        if r12 = (0 : Int32) then
          some ((-1 : Int32), σ10)
        else
          F_X10_trim_38 k0 a1 a2 a3 σ10
abbrev RM_X10_trim : Room := { frames := 2, cells := 0, slots := 0, locals := 43 }
set_option maxHeartbeats 4000000 in
set_option maxRecDepth 100000 in
theorem w_X10_trim_38 {l : Launch} {G : Gh} {p : Program} {e : Env} {s : State} {m : MethodId} {args : Array Value} {below : List Frame} {meth : Method} {c : Code} (X : Cx G p s m args meth c prog_12_method_32_code RX10 5 (some .int)) {k0z : Nat} (hz0 : kd k0z = 10) {rr : Int32} {σr : Mem} : ∀ (v1 : Int32) (v2 : Int32) (v3 : Int32) (σ : Mem) (H : Heap) (locs : List Loc) (ls : Array Slot), PW G σ H → va_S (AA G) s.heap H locs → lv_has ls 5 [(0, .ref (ga G k0z)), (1, .int v1), (2, .int v2), (3, .int v3)] → F_X10_trim_38 k0z v1 v2 v3 σ = some (rr, σr) → W p l e RM_X10_trim s m args below meth c H locs 0 0 (MQ below (QG G (some (.int rr)) σr) args s 0 0 (AA G)) (F0 m 38 ls []) := by
  have hx := X.hx
  have hb := X.hb
  intro v1 v2 v3 σ H locs ls hP hS hl h
  unfold F_X10_trim_38 at h
  refine lv_aload_n (pc := 38) hx hb dX10_trim_38 rfl (lv_at hl 0 rfl) ?_
  refine gt_X10_16 X hP hz0 dX10_trim_39 ?_
  refine lv_iload_n (pc := 42) hx hb dX10_trim_42 rfl (lv_at hl 1 rfl) ?_
  obtain ⟨j14, hj15, h⟩ := bnd1 h
  refine r_iald (pc := 43) X hP (kf_10_sold hz0).1 hj15 dX10_trim_43 ?_
  refine lv_iconst (pc := 44) (v := 1) hx hb dX10_trim_44 (by decide) ?_
  refine lv_icmp_eq (pc := 45) (tgt := 58) hx hb dX10_trim_45 (by decide) (fun c16 => ?_) (fun c16 => ?_)
  · have h := ipos c16 h
    refine lv_bipush (pc := 58) (v := (-4)) hx hb dX10_trim_58 (by decide) ?_
    obtain ⟨rfl, rfl⟩ := inj2 h
    exact r_iret X hP hS dX10_trim_60
  · have h := ineg c16 h
    refine lv_aload_n (pc := 48) hx hb dX10_trim_48 rfl (lv_at hl 0 rfl) ?_
    refine gt_X10_41 X hP hz0 dX10_trim_49 ?_
    refine lv_iconst (pc := 52) (v := 0) hx hb dX10_trim_52 (by decide) ?_
    obtain ⟨j17, hj18, h⟩ := bnd1 h
    refine r_iald (pc := 53) X hP (kf_10_row hz0).1 hj18 dX10_trim_53 ?_
    refine lv_iload_n (pc := 54) hx hb dX10_trim_54 rfl (lv_at hl 1 rfl) ?_
    refine lv_icmp_ne (pc := 55) (tgt := 61) hx hb dX10_trim_55 (by decide) (fun c19 => ?_) (fun c19 => ?_)
    · have h := ineg c19 h
      refine lv_iload_n (pc := 61) hx hb dX10_trim_61 rfl (lv_at hl 2 rfl) ?_
      refine lv_if_ne (pc := 62) (tgt := 74) hx hb dX10_trim_62 (by decide) (fun c20 => ?_) (fun c20 => ?_)
      · have h := ineg c20 h
        refine lv_aload_n (pc := 74) hx hb dX10_trim_74 rfl (lv_at hl 0 rfl) ?_
        refine gt_X10_13 X hP hz0 dX10_trim_75 ?_
        refine lv_iload_n (pc := 78) hx hb dX10_trim_78 rfl (lv_at hl 1 rfl) ?_
        obtain ⟨j21, hj22, h⟩ := bnd1 h
        refine r_iald (pc := 79) X hP (kf_10_worths hz0).1 hj22 dX10_trim_79 ?_
        refine lv_istore (pc := 80) (lv' := [(4, .int (gI σ (k0z + 2) j21)), (0, .ref (ga G k0z)), (1, .int v1), (2, .int v2), (3, .int v3)]) hx hb dX10_trim_80 hl (by decide) rfl (fun ls hl => ?_)
        refine lv_iload_n (pc := 82) hx hb dX10_trim_82 rfl (lv_at hl 3 rfl) ?_
        refine lv_if_ne (pc := 83) (tgt := 96) hx hb dX10_trim_83 (by decide) (fun c23 => ?_) (fun c23 => ?_)
        · have h := ineg c23 h
          refine lv_aload_n (pc := 96) hx hb dX10_trim_96 rfl (lv_at hl 1 rfl) ?_
          refine gt_X10_13 X hP hz0 dX10_trim_97 ?_
          refine lv_iload_n (pc := 100) hx hb dX10_trim_100 rfl (lv_at hl 2 rfl) ?_
          refine lv_iload_n (pc := 101) hx hb dX10_trim_101 rfl (lv_at hl 4 rfl) ?_
          obtain ⟨j24, hj25, h⟩ := bnd1 h
          obtain ⟨σ26, e27, h⟩ := bnd1 h
          refine r_iast (pc := 102) X hP hS (kf_10_worths hz0).1 hj25 dX10_trim_102 (fun H locs hP hS => ?_)
          rw [Option.some.inj e27] at hP
          refine lv_iload (pc := 103) hx hb dX10_trim_103 (lv_at hl 0 rfl) ?_
          obtain ⟨rfl, rfl⟩ := inj2 h
          exact r_iret X hP hS dX10_trim_105
        · have h := ipos c23 h
          refine lv_aload_n (pc := 86) hx hb dX10_trim_86 rfl (lv_at hl 1 rfl) ?_
          refine gt_X10_7 X hP hz0 dX10_trim_87 ?_
          refine lv_iload_n (pc := 90) hx hb dX10_trim_90 rfl (lv_at hl 2 rfl) ?_
          refine lv_iload_n (pc := 91) hx hb dX10_trim_91 rfl (lv_at hl 4 rfl) ?_
          obtain ⟨j28, hj29, h⟩ := bnd1 h
          obtain ⟨σ30, e31, h⟩ := bnd1 h
          refine r_iast (pc := 92) X hP hS (kf_10_waxes hz0).1 hj29 dX10_trim_92 (fun H locs hP hS => ?_)
          rw [Option.some.inj e31] at hP
          refine lv_goto (pc := 93) (tgt := 103) hx hb dX10_trim_93 (by decide) ?_
          refine lv_iload (pc := 103) hx hb dX10_trim_103 (lv_at hl 0 rfl) ?_
          obtain ⟨rfl, rfl⟩ := inj2 h
          exact r_iret X hP hS dX10_trim_105
      · have h := ipos c20 h
        refine lv_aload_n (pc := 65) hx hb dX10_trim_65 rfl (lv_at hl 0 rfl) ?_
        refine gt_X10_7 X hP hz0 dX10_trim_66 ?_
        refine lv_iload_n (pc := 69) hx hb dX10_trim_69 rfl (lv_at hl 1 rfl) ?_
        obtain ⟨j32, hj33, h⟩ := bnd1 h
        refine r_iald (pc := 70) X hP (kf_10_waxes hz0).1 hj33 dX10_trim_70 ?_
        refine lv_goto (pc := 71) (tgt := 80) hx hb dX10_trim_71 (by decide) ?_
        refine lv_istore (pc := 80) (lv' := [(4, .int (gI σ (k0z + 1) j32)), (0, .ref (ga G k0z)), (1, .int v1), (2, .int v2), (3, .int v3)]) hx hb dX10_trim_80 hl (by decide) rfl (fun ls hl => ?_)
        refine lv_iload_n (pc := 82) hx hb dX10_trim_82 rfl (lv_at hl 3 rfl) ?_
        refine lv_if_ne (pc := 83) (tgt := 96) hx hb dX10_trim_83 (by decide) (fun c34 => ?_) (fun c34 => ?_)
        · have h := ineg c34 h
          refine lv_aload_n (pc := 96) hx hb dX10_trim_96 rfl (lv_at hl 1 rfl) ?_
          refine gt_X10_13 X hP hz0 dX10_trim_97 ?_
          refine lv_iload_n (pc := 100) hx hb dX10_trim_100 rfl (lv_at hl 2 rfl) ?_
          refine lv_iload_n (pc := 101) hx hb dX10_trim_101 rfl (lv_at hl 4 rfl) ?_
          obtain ⟨j35, hj36, h⟩ := bnd1 h
          obtain ⟨σ37, e38, h⟩ := bnd1 h
          refine r_iast (pc := 102) X hP hS (kf_10_worths hz0).1 hj36 dX10_trim_102 (fun H locs hP hS => ?_)
          rw [Option.some.inj e38] at hP
          refine lv_iload (pc := 103) hx hb dX10_trim_103 (lv_at hl 0 rfl) ?_
          obtain ⟨rfl, rfl⟩ := inj2 h
          exact r_iret X hP hS dX10_trim_105
        · have h := ipos c34 h
          refine lv_aload_n (pc := 86) hx hb dX10_trim_86 rfl (lv_at hl 1 rfl) ?_
          refine gt_X10_7 X hP hz0 dX10_trim_87 ?_
          refine lv_iload_n (pc := 90) hx hb dX10_trim_90 rfl (lv_at hl 2 rfl) ?_
          refine lv_iload_n (pc := 91) hx hb dX10_trim_91 rfl (lv_at hl 4 rfl) ?_
          obtain ⟨j39, hj40, h⟩ := bnd1 h
          obtain ⟨σ41, e42, h⟩ := bnd1 h
          refine r_iast (pc := 92) X hP hS (kf_10_waxes hz0).1 hj40 dX10_trim_92 (fun H locs hP hS => ?_)
          rw [Option.some.inj e42] at hP
          refine lv_goto (pc := 93) (tgt := 103) hx hb dX10_trim_93 (by decide) ?_
          refine lv_iload (pc := 103) hx hb dX10_trim_103 (lv_at hl 0 rfl) ?_
          obtain ⟨rfl, rfl⟩ := inj2 h
          exact r_iret X hP hS dX10_trim_105
    · have h := ipos c19 h
      refine lv_bipush (pc := 58) (v := (-4)) hx hb dX10_trim_58 (by decide) ?_
      obtain ⟨rfl, rfl⟩ := inj2 h
      exact r_iret X hP hS dX10_trim_60
set_option maxHeartbeats 4000000 in
set_option maxRecDepth 100000 in
theorem c_X10_trim (l : Launch) (G : Gh) {k0 : Nat} {a1 : Int32} {a2 : Int32} {a3 : Int32} {σ : Mem} {rr : Int32} {σr : Mem} (hk0 : kd k0 = 10) (h : f_X10_trim k0 a1 a2 a3 σ = some (rr, σr)) : Met l yX10_trim [Cond.code yX10_trim prog_12_method_32_code 5 (some .int)] RM_X10_trim (va_Pc [.ref (ga G k0), .int a1, .int a2, .int a3] (Pre G σ)) (QG G (some (.int rr)) σr) 0 0 (AA G) := by
  refine ct_of (by decide) (fun p e s m below meth c X hP => ?_)
  have hx := X.hx
  have hb := X.hb
  have hS : va_S (AA G) s.heap s.heap [] := va_S.rf
  have hl := lv_entry ([.ref (ga G k0), .int a1, .int a2, .int a3]) (n := 5) (Nat.le_of_ble_eq_true rfl)
  rw [lg_entry_eq]
  generalize (lg_sl ([.ref (ga G k0), .int a1, .int a2, .int a3]) ++ List.replicate (5 - (lg_sl ([.ref (ga G k0), .int a1, .int a2, .int a3])).length) Slot.unset).toArray = ls at hl ⊢
  have hl : lv_has ls 5 [(0, .ref (ga G k0)), (1, .int a1), (2, .int a2), (3, .int a3)] := hl
  unfold f_X10_trim at h
  refine lv_aload_n (pc := 0) hx hb dX10_trim_0 rfl (lv_at hl 0 rfl) ?_
  refine lv_iload_n (pc := 1) hx hb dX10_trim_1 rfl (lv_at hl 1 rfl) ?_
  obtain ⟨r3, σ1, e2, h⟩ := bnd2 h
  refine cl_X10_124 X hP hS hk0 (As := [.int a1]) (rest := []) (c_X10_isLot l G hk0 e2) ⟨rfl, rfl, Nat.le_of_ble_eq_true rfl, Nat.le_of_ble_eq_true rfl⟩ rfl hl.1 rfl (Nat.le_of_ble_eq_true rfl) ⟨Nat.zero_le _, Nat.zero_le _⟩ (pc := 2) dX10_trim_2 (fun H locs hP hS => ?_)
  change W p l e _ s m _ below meth c H locs _ _ _ (F0 m (2 + 3) ls (.int r3 :: []))
  refine lv_if_eq (pc := 5) (tgt := 36) hx hb dX10_trim_5 (by decide) (fun c4 => ?_) (fun c4 => ?_)
  · have h := ipos c4 h
    refine lv_iconst (pc := 36) (v := (-1)) hx hb dX10_trim_36 (by decide) ?_
    obtain ⟨rfl, rfl⟩ := inj2 h
    exact r_iret X hP hS dX10_trim_37
  · have h := ineg c4 h
    refine lv_iload_n (pc := 8) hx hb dX10_trim_8 rfl (lv_at hl 2 rfl) ?_
    obtain ⟨r7, σ5, e6, h⟩ := bnd2 h
    refine cl_X10_265 X hP hS (As := [.int a2]) (rest := []) (c_X10_isSide l G  e6) ⟨rfl, rfl, Nat.le_of_ble_eq_true rfl, Nat.le_of_ble_eq_true rfl⟩ rfl hl.1 rfl (Nat.le_of_ble_eq_true rfl) ⟨Nat.zero_le _, Nat.zero_le _⟩ (pc := 9) dX10_trim_9 (fun H locs hP hS => ?_)
    change W p l e _ s m _ below meth c H locs _ _ _ (F0 m (9 + 3) ls (.int r7 :: []))
    refine lv_if_eq (pc := 12) (tgt := 36) hx hb dX10_trim_12 (by decide) (fun c8 => ?_) (fun c8 => ?_)
    · have h := ipos c8 h
      refine lv_iconst (pc := 36) (v := (-1)) hx hb dX10_trim_36 (by decide) ?_
      obtain ⟨rfl, rfl⟩ := inj2 h
      exact r_iret X hP hS dX10_trim_37
    · have h := ineg c8 h
      refine lv_iload_n (pc := 15) hx hb dX10_trim_15 rfl (lv_at hl 2 rfl) ?_
      refine lv_if_ne (pc := 16) (tgt := 29) hx hb dX10_trim_16 (by decide) (fun c9 => ?_) (fun c9 => ?_)
      · have h := ineg c9 h
        refine lv_iload_n (pc := 29) hx hb dX10_trim_29 rfl (lv_at hl 3 rfl) ?_
        obtain ⟨r12, σ10, e11, h⟩ := bnd2 h
        refine cl_X10_262 X hP hS (As := [.int a3]) (rest := []) (c_X10_isWorth l G  e11) ⟨rfl, rfl, Nat.le_of_ble_eq_true rfl, Nat.le_of_ble_eq_true rfl⟩ rfl hl.1 rfl (Nat.le_of_ble_eq_true rfl) ⟨Nat.zero_le _, Nat.zero_le _⟩ (pc := 30) dX10_trim_30 (fun H locs hP hS => ?_)
        change W p l e _ s m _ below meth c H locs _ _ _ (F0 m (30 + 3) ls (.int r12 :: []))
        refine lv_if_ne (pc := 33) (tgt := 38) hx hb dX10_trim_33 (by decide) (fun c13 => ?_) (fun c13 => ?_)
        · have h := ineg c13 h
          exact w_X10_trim_38 X  hk0  _ _ _ _ _ _ _ hP hS (lv_sub hl [0, 1, 2, 3] rfl) h
        · have h := ipos c13 h
          refine lv_iconst (pc := 36) (v := (-1)) hx hb dX10_trim_36 (by decide) ?_
          obtain ⟨rfl, rfl⟩ := inj2 h
          exact r_iret X hP hS dX10_trim_37
      · have h := ipos c9 h
        refine lv_iload_n (pc := 19) hx hb dX10_trim_19 rfl (lv_at hl 3 rfl) ?_
        obtain ⟨r45, σ43, e44, h⟩ := bnd2 h
        refine cl_X10_259 X hP hS (As := [.int a3]) (rest := []) (c_X10_isWax l G  e44) ⟨rfl, rfl, Nat.le_of_ble_eq_true rfl, Nat.le_of_ble_eq_true rfl⟩ rfl hl.1 rfl (Nat.le_of_ble_eq_true rfl) ⟨Nat.zero_le _, Nat.zero_le _⟩ (pc := 20) dX10_trim_20 (fun H locs hP hS => ?_)
        change W p l e _ s m _ below meth c H locs _ _ _ (F0 m (20 + 3) ls (.int r45 :: []))
        refine lv_if_eq (pc := 23) (tgt := 36) hx hb dX10_trim_23 (by decide) (fun c46 => ?_) (fun c46 => ?_)
        · have h := ipos c46 h
          refine lv_iconst (pc := 36) (v := (-1)) hx hb dX10_trim_36 (by decide) ?_
          obtain ⟨rfl, rfl⟩ := inj2 h
          exact r_iret X hP hS dX10_trim_37
        · have h := ineg c46 h
          refine lv_goto (pc := 26) (tgt := 38) hx hb dX10_trim_26 (by decide) ?_
          exact w_X10_trim_38 X  hk0  _ _ _ _ _ _ _ hP hS (lv_sub hl [0, 1, 2, 3] rfl) h
def f_X10_draught (k0 : Nat) (a1 : Int32) (a2 : Int32) (σ : Mem) : Option (Int32 × Mem) :=
  bd2 (f_X10_isPlace a1 σ) fun r3 σ1 =>
  if r3 = (0 : Int32) then
    some ((-1 : Int32), σ1)
  else
    bd2 (f_X10_in a2 (0 : Int32) (3 : Int32) σ1) fun r7 σ5 =>
    if r7 = (0 : Int32) then
      some ((-1 : Int32), σ5)
    else
      bd1 (ixo (k0 + 6) a1) fun j9 =>
      bd1 (ixo (k0 + 6) a1) fun j11 =>
      bd1 (some (pI σ5 (k0 + 6) j11 a2)) fun σ13 =>
      some ((gI σ5 (k0 + 6) j9), σ13)
abbrev RM_X10_draught : Room := { frames := 2, cells := 0, slots := 0, locals := 42 }
set_option maxHeartbeats 4000000 in
set_option maxRecDepth 100000 in
theorem c_X10_draught (l : Launch) (G : Gh) {k0 : Nat} {a1 : Int32} {a2 : Int32} {σ : Mem} {rr : Int32} {σr : Mem} (hk0 : kd k0 = 10) (h : f_X10_draught k0 a1 a2 σ = some (rr, σr)) : Met l yX10_draught [Cond.code yX10_draught prog_12_method_33_code 4 (some .int)] RM_X10_draught (va_Pc [.ref (ga G k0), .int a1, .int a2] (Pre G σ)) (QG G (some (.int rr)) σr) 0 0 (AA G) := by
  refine ct_of (by decide) (fun p e s m below meth c X hP => ?_)
  have hx := X.hx
  have hb := X.hb
  have hS : va_S (AA G) s.heap s.heap [] := va_S.rf
  have hl := lv_entry ([.ref (ga G k0), .int a1, .int a2]) (n := 4) (Nat.le_of_ble_eq_true rfl)
  rw [lg_entry_eq]
  generalize (lg_sl ([.ref (ga G k0), .int a1, .int a2]) ++ List.replicate (4 - (lg_sl ([.ref (ga G k0), .int a1, .int a2])).length) Slot.unset).toArray = ls at hl ⊢
  have hl : lv_has ls 4 [(0, .ref (ga G k0)), (1, .int a1), (2, .int a2)] := hl
  unfold f_X10_draught at h
  refine lv_iload_n (pc := 0) hx hb dX10_draught_0 rfl (lv_at hl 1 rfl) ?_
  obtain ⟨r3, σ1, e2, h⟩ := bnd2 h
  refine cl_X10_268 X hP hS (As := [.int a1]) (rest := []) (c_X10_isPlace l G  e2) ⟨rfl, rfl, Nat.le_of_ble_eq_true rfl, Nat.le_of_ble_eq_true rfl⟩ rfl hl.1 rfl (Nat.le_of_ble_eq_true rfl) ⟨Nat.zero_le _, Nat.zero_le _⟩ (pc := 1) dX10_draught_1 (fun H locs hP hS => ?_)
  change W p l e _ s m _ below meth c H locs _ _ _ (F0 m (1 + 3) ls (.int r3 :: []))
  refine lv_if_eq (pc := 4) (tgt := 16) hx hb dX10_draught_4 (by decide) (fun c4 => ?_) (fun c4 => ?_)
  · have h := ipos c4 h
    refine lv_iconst (pc := 16) (v := (-1)) hx hb dX10_draught_16 (by decide) ?_
    obtain ⟨rfl, rfl⟩ := inj2 h
    exact r_iret X hP hS dX10_draught_17
  · have h := ineg c4 h
    refine lv_iload_n (pc := 7) hx hb dX10_draught_7 rfl (lv_at hl 2 rfl) ?_
    refine lv_iconst (pc := 8) (v := 0) hx hb dX10_draught_8 (by decide) ?_
    refine lv_iconst (pc := 9) (v := 3) hx hb dX10_draught_9 (by decide) ?_
    obtain ⟨r7, σ5, e6, h⟩ := bnd2 h
    refine cl_X10_120 X hP hS (As := [.int a2, .int (0 : Int32), .int (3 : Int32)]) (rest := []) (c_X10_in l G  e6) ⟨rfl, rfl, Nat.le_of_ble_eq_true rfl, Nat.le_of_ble_eq_true rfl⟩ rfl hl.1 rfl (Nat.le_of_ble_eq_true rfl) ⟨Nat.zero_le _, Nat.zero_le _⟩ (pc := 10) dX10_draught_10 (fun H locs hP hS => ?_)
    change W p l e _ s m _ below meth c H locs _ _ _ (F0 m (10 + 3) ls (.int r7 :: []))
    refine lv_if_ne (pc := 13) (tgt := 18) hx hb dX10_draught_13 (by decide) (fun c8 => ?_) (fun c8 => ?_)
    · have h := ineg c8 h
      refine lv_aload_n (pc := 18) hx hb dX10_draught_18 rfl (lv_at hl 0 rfl) ?_
      refine gt_X10_25 X hP hk0 dX10_draught_19 ?_
      refine lv_iload_n (pc := 22) hx hb dX10_draught_22 rfl (lv_at hl 1 rfl) ?_
      obtain ⟨j9, hj10, h⟩ := bnd1 h
      refine r_iald (pc := 23) X hP (kf_10_draughts hk0).1 hj10 dX10_draught_23 ?_
      refine lv_istore_n (pc := 24) (lv' := [(3, .int (gI σ5 (k0 + 6) j9)), (0, .ref (ga G k0)), (1, .int a1), (2, .int a2)]) hx hb dX10_draught_24 rfl hl (by decide) rfl (fun ls hl => ?_)
      refine lv_aload_n (pc := 25) hx hb dX10_draught_25 rfl (lv_at hl 1 rfl) ?_
      refine gt_X10_25 X hP hk0 dX10_draught_26 ?_
      refine lv_iload_n (pc := 29) hx hb dX10_draught_29 rfl (lv_at hl 2 rfl) ?_
      refine lv_iload_n (pc := 30) hx hb dX10_draught_30 rfl (lv_at hl 3 rfl) ?_
      obtain ⟨j11, hj12, h⟩ := bnd1 h
      obtain ⟨σ13, e14, h⟩ := bnd1 h
      refine r_iast (pc := 31) X hP hS (kf_10_draughts hk0).1 hj12 dX10_draught_31 (fun H locs hP hS => ?_)
      rw [Option.some.inj e14] at hP
      refine lv_iload_n (pc := 32) hx hb dX10_draught_32 rfl (lv_at hl 0 rfl) ?_
      obtain ⟨rfl, rfl⟩ := inj2 h
      exact r_iret X hP hS dX10_draught_33
    · have h := ipos c8 h
      refine lv_iconst (pc := 16) (v := (-1)) hx hb dX10_draught_16 (by decide) ?_
      obtain ⟨rfl, rfl⟩ := inj2 h
      exact r_iret X hP hS dX10_draught_17
def f_X10_step (k0 : Nat) (a1 : Int32) (σ : Mem) : Option (Int32 × Mem) :=
  bd2 (f_X10_in a1 (1 : Int32) (20 : Int32) σ) fun r3 σ1 =>
  if r3 = (0 : Int32) then
    some ((-1 : Int32), σ1)
  else
    bd1 (some (pI σ1 k0 7 a1)) fun σ5 =>
    some ((gI σ1 k0 7), σ5)
abbrev RM_X10_step : Room := { frames := 1, cells := 0, slots := 0, locals := 22 }
set_option maxHeartbeats 4000000 in
set_option maxRecDepth 100000 in
theorem c_X10_step (l : Launch) (G : Gh) {k0 : Nat} {a1 : Int32} {σ : Mem} {rr : Int32} {σr : Mem} (hk0 : kd k0 = 10) (h : f_X10_step k0 a1 σ = some (rr, σr)) : Met l yX10_step [Cond.code yX10_step prog_12_method_34_code 3 (some .int)] RM_X10_step (va_Pc [.ref (ga G k0), .int a1] (Pre G σ)) (QG G (some (.int rr)) σr) 0 0 (AA G) := by
  refine ct_of (by decide) (fun p e s m below meth c X hP => ?_)
  have hx := X.hx
  have hb := X.hb
  have hS : va_S (AA G) s.heap s.heap [] := va_S.rf
  have hl := lv_entry ([.ref (ga G k0), .int a1]) (n := 3) (Nat.le_of_ble_eq_true rfl)
  rw [lg_entry_eq]
  generalize (lg_sl ([.ref (ga G k0), .int a1]) ++ List.replicate (3 - (lg_sl ([.ref (ga G k0), .int a1])).length) Slot.unset).toArray = ls at hl ⊢
  have hl : lv_has ls 3 [(0, .ref (ga G k0)), (1, .int a1)] := hl
  unfold f_X10_step at h
  refine lv_iload_n (pc := 0) hx hb dX10_step_0 rfl (lv_at hl 1 rfl) ?_
  refine lv_iconst (pc := 1) (v := 1) hx hb dX10_step_1 (by decide) ?_
  refine lv_bipush (pc := 2) (v := (20)) hx hb dX10_step_2 (by decide) ?_
  obtain ⟨r3, σ1, e2, h⟩ := bnd2 h
  refine cl_X10_120 X hP hS (As := [.int a1, .int (1 : Int32), .int (20 : Int32)]) (rest := []) (c_X10_in l G  e2) ⟨rfl, rfl, Nat.le_of_ble_eq_true rfl, Nat.le_of_ble_eq_true rfl⟩ rfl hl.1 rfl (Nat.le_of_ble_eq_true rfl) ⟨Nat.zero_le _, Nat.zero_le _⟩ (pc := 4) dX10_step_4 (fun H locs hP hS => ?_)
  change W p l e _ s m _ below meth c H locs _ _ _ (F0 m (4 + 3) ls (.int r3 :: []))
  refine lv_if_ne (pc := 7) (tgt := 12) hx hb dX10_step_7 (by decide) (fun c4 => ?_) (fun c4 => ?_)
  · have h := ineg c4 h
    refine lv_aload_n (pc := 12) hx hb dX10_step_12 rfl (lv_at hl 0 rfl) ?_
    refine gt_X10_28 X hP hk0 dX10_step_13 ?_
    refine lv_istore_n (pc := 16) (lv' := [(2, .int (gI σ1 k0 7)), (0, .ref (ga G k0)), (1, .int a1)]) hx hb dX10_step_16 rfl hl (by decide) rfl (fun ls hl => ?_)
    refine lv_aload_n (pc := 17) hx hb dX10_step_17 rfl (lv_at hl 1 rfl) ?_
    refine lv_iload_n (pc := 18) hx hb dX10_step_18 rfl (lv_at hl 2 rfl) ?_
    obtain ⟨σ5, e6, h⟩ := bnd1 h
    refine pt_X10_28 X hP hS hk0 dX10_step_19 (fun H locs hP hS => ?_)
    rw [Option.some.inj e6] at hP
    refine lv_iload_n (pc := 22) hx hb dX10_step_22 rfl (lv_at hl 0 rfl) ?_
    obtain ⟨rfl, rfl⟩ := inj2 h
    exact r_iret X hP hS dX10_step_23
  · have h := ipos c4 h
    refine lv_iconst (pc := 10) (v := (-1)) hx hb dX10_step_10 (by decide) ?_
    obtain ⟨rfl, rfl⟩ := inj2 h
    exact r_iret X hP hS dX10_step_11
def f_X10_bidder (k0 : Nat) (a1 : Int32) (a2 : Int32) (a3 : Int32) (a4 : Int32) (σ : Mem) : Option (Int32 × Mem) :=
  bd2 (f_X10_in a1 (0 : Int32) (5 : Int32) σ) fun r3 σ1 =>
  if r3 = (0 : Int32) then
    some ((-1 : Int32), σ1)
  else
    bd2 (f_X10_in a2 (0 : Int32) (9 : Int32) σ1) fun r7 σ5 =>
    if r7 = (0 : Int32) then
      some ((-1 : Int32), σ5)
    else
      bd2 (f_X10_in a3 (0 : Int32) (999 : Int32) σ5) fun r11 σ9 =>
      if r11 = (0 : Int32) then
        some ((-1 : Int32), σ9)
      else
        bd2 (f_X10_in a4 (0 : Int32) (9999 : Int32) σ9) fun r15 σ13 =>
        if r15 = (0 : Int32) then
          some ((-1 : Int32), σ13)
        else
          if (gI σ13 k0 8) = (6 : Int32) then
            some ((-2 : Int32), σ13)
          else
            bd1 (ixo (k0 + 7) (gI σ13 k0 8)) fun j18 =>
            bd1 (some (pI σ13 (k0 + 7) j18 a1)) fun σ20 =>
            bd1 (ixo (k0 + 8) (gI σ20 k0 8)) fun j22 =>
            bd1 (some (pI σ20 (k0 + 8) j22 a2)) fun σ24 =>
            bd1 (ixo (k0 + 9) (gI σ24 k0 8)) fun j26 =>
            bd1 (some (pI σ24 (k0 + 9) j26 a3)) fun σ28 =>
            bd1 (ixo (k0 + 10) ((5 : Int32) + (gI σ28 k0 8))) fun j30 =>
            bd1 (some (pI σ28 (k0 + 10) j30 a4)) fun σ32 =>
            bd1 (some (pI σ32 k0 8 ((gI σ32 k0 8) + (1 : Int32)))) fun σ34 =>
            some (((gI σ34 k0 8) - (1 : Int32)), σ34)
abbrev RM_X10_bidder : Room := { frames := 1, cells := 0, slots := 0, locals := 22 }
set_option maxHeartbeats 4000000 in
set_option maxRecDepth 100000 in
theorem c_X10_bidder (l : Launch) (G : Gh) {k0 : Nat} {a1 : Int32} {a2 : Int32} {a3 : Int32} {a4 : Int32} {σ : Mem} {rr : Int32} {σr : Mem} (hk0 : kd k0 = 10) (h : f_X10_bidder k0 a1 a2 a3 a4 σ = some (rr, σr)) : Met l yX10_bidder [Cond.code yX10_bidder prog_12_method_35_code 5 (some .int)] RM_X10_bidder (va_Pc [.ref (ga G k0), .int a1, .int a2, .int a3, .int a4] (Pre G σ)) (QG G (some (.int rr)) σr) 0 0 (AA G) := by
  refine ct_of (by decide) (fun p e s m below meth c X hP => ?_)
  have hx := X.hx
  have hb := X.hb
  have hS : va_S (AA G) s.heap s.heap [] := va_S.rf
  have hl := lv_entry ([.ref (ga G k0), .int a1, .int a2, .int a3, .int a4]) (n := 5) (Nat.le_of_ble_eq_true rfl)
  rw [lg_entry_eq]
  generalize (lg_sl ([.ref (ga G k0), .int a1, .int a2, .int a3, .int a4]) ++ List.replicate (5 - (lg_sl ([.ref (ga G k0), .int a1, .int a2, .int a3, .int a4])).length) Slot.unset).toArray = ls at hl ⊢
  have hl : lv_has ls 5 [(0, .ref (ga G k0)), (1, .int a1), (2, .int a2), (3, .int a3), (4, .int a4)] := hl
  unfold f_X10_bidder at h
  refine lv_iload_n (pc := 0) hx hb dX10_bidder_0 rfl (lv_at hl 1 rfl) ?_
  refine lv_iconst (pc := 1) (v := 0) hx hb dX10_bidder_1 (by decide) ?_
  refine lv_iconst (pc := 2) (v := 5) hx hb dX10_bidder_2 (by decide) ?_
  obtain ⟨r3, σ1, e2, h⟩ := bnd2 h
  refine cl_X10_120 X hP hS (As := [.int a1, .int (0 : Int32), .int (5 : Int32)]) (rest := []) (c_X10_in l G  e2) ⟨rfl, rfl, Nat.le_of_ble_eq_true rfl, Nat.le_of_ble_eq_true rfl⟩ rfl hl.1 rfl (Nat.le_of_ble_eq_true rfl) ⟨Nat.zero_le _, Nat.zero_le _⟩ (pc := 3) dX10_bidder_3 (fun H locs hP hS => ?_)
  change W p l e _ s m _ below meth c H locs _ _ _ (F0 m (3 + 3) ls (.int r3 :: []))
  refine lv_if_eq (pc := 6) (tgt := 42) hx hb dX10_bidder_6 (by decide) (fun c4 => ?_) (fun c4 => ?_)
  · have h := ipos c4 h
    refine lv_iconst (pc := 42) (v := (-1)) hx hb dX10_bidder_42 (by decide) ?_
    obtain ⟨rfl, rfl⟩ := inj2 h
    exact r_iret X hP hS dX10_bidder_43
  · have h := ineg c4 h
    refine lv_iload_n (pc := 9) hx hb dX10_bidder_9 rfl (lv_at hl 2 rfl) ?_
    refine lv_iconst (pc := 10) (v := 0) hx hb dX10_bidder_10 (by decide) ?_
    refine lv_bipush (pc := 11) (v := (9)) hx hb dX10_bidder_11 (by decide) ?_
    obtain ⟨r7, σ5, e6, h⟩ := bnd2 h
    refine cl_X10_120 X hP hS (As := [.int a2, .int (0 : Int32), .int (9 : Int32)]) (rest := []) (c_X10_in l G  e6) ⟨rfl, rfl, Nat.le_of_ble_eq_true rfl, Nat.le_of_ble_eq_true rfl⟩ rfl hl.1 rfl (Nat.le_of_ble_eq_true rfl) ⟨Nat.zero_le _, Nat.zero_le _⟩ (pc := 13) dX10_bidder_13 (fun H locs hP hS => ?_)
    change W p l e _ s m _ below meth c H locs _ _ _ (F0 m (13 + 3) ls (.int r7 :: []))
    refine lv_if_eq (pc := 16) (tgt := 42) hx hb dX10_bidder_16 (by decide) (fun c8 => ?_) (fun c8 => ?_)
    · have h := ipos c8 h
      refine lv_iconst (pc := 42) (v := (-1)) hx hb dX10_bidder_42 (by decide) ?_
      obtain ⟨rfl, rfl⟩ := inj2 h
      exact r_iret X hP hS dX10_bidder_43
    · have h := ineg c8 h
      refine lv_iload_n (pc := 19) hx hb dX10_bidder_19 rfl (lv_at hl 3 rfl) ?_
      refine lv_iconst (pc := 20) (v := 0) hx hb dX10_bidder_20 (by decide) ?_
      refine lv_sipush (pc := 21) (v := (999)) hx hb dX10_bidder_21 (by decide) ?_
      obtain ⟨r11, σ9, e10, h⟩ := bnd2 h
      refine cl_X10_120 X hP hS (As := [.int a3, .int (0 : Int32), .int (999 : Int32)]) (rest := []) (c_X10_in l G  e10) ⟨rfl, rfl, Nat.le_of_ble_eq_true rfl, Nat.le_of_ble_eq_true rfl⟩ rfl hl.1 rfl (Nat.le_of_ble_eq_true rfl) ⟨Nat.zero_le _, Nat.zero_le _⟩ (pc := 24) dX10_bidder_24 (fun H locs hP hS => ?_)
      change W p l e _ s m _ below meth c H locs _ _ _ (F0 m (24 + 3) ls (.int r11 :: []))
      refine lv_if_eq (pc := 27) (tgt := 42) hx hb dX10_bidder_27 (by decide) (fun c12 => ?_) (fun c12 => ?_)
      · have h := ipos c12 h
        refine lv_iconst (pc := 42) (v := (-1)) hx hb dX10_bidder_42 (by decide) ?_
        obtain ⟨rfl, rfl⟩ := inj2 h
        exact r_iret X hP hS dX10_bidder_43
      · have h := ineg c12 h
        refine lv_iload (pc := 30) hx hb dX10_bidder_30 (lv_at hl 4 rfl) ?_
        refine lv_iconst (pc := 32) (v := 0) hx hb dX10_bidder_32 (by decide) ?_
        refine lv_sipush (pc := 33) (v := (9999)) hx hb dX10_bidder_33 (by decide) ?_
        obtain ⟨r15, σ13, e14, h⟩ := bnd2 h
        refine cl_X10_120 X hP hS (As := [.int a4, .int (0 : Int32), .int (9999 : Int32)]) (rest := []) (c_X10_in l G  e14) ⟨rfl, rfl, Nat.le_of_ble_eq_true rfl, Nat.le_of_ble_eq_true rfl⟩ rfl hl.1 rfl (Nat.le_of_ble_eq_true rfl) ⟨Nat.zero_le _, Nat.zero_le _⟩ (pc := 36) dX10_bidder_36 (fun H locs hP hS => ?_)
        change W p l e _ s m _ below meth c H locs _ _ _ (F0 m (36 + 3) ls (.int r15 :: []))
        refine lv_if_ne (pc := 39) (tgt := 44) hx hb dX10_bidder_39 (by decide) (fun c16 => ?_) (fun c16 => ?_)
        · have h := ineg c16 h
          refine lv_aload_n (pc := 44) hx hb dX10_bidder_44 rfl (lv_at hl 0 rfl) ?_
          refine gt_X10_128 X hP hk0 dX10_bidder_45 ?_
          refine lv_bipush (pc := 48) (v := (6)) hx hb dX10_bidder_48 (by decide) ?_
          refine lv_icmp_ne (pc := 50) (tgt := 56) hx hb dX10_bidder_50 (by decide) (fun c17 => ?_) (fun c17 => ?_)
          · have h := ineg c17 h
            refine lv_aload_n (pc := 56) hx hb dX10_bidder_56 rfl (lv_at hl 0 rfl) ?_
            refine gt_X10_32 X hP hk0 dX10_bidder_57 ?_
            refine lv_aload_n (pc := 60) hx hb dX10_bidder_60 rfl (lv_at hl 0 rfl) ?_
            refine gt_X10_128 X hP hk0 dX10_bidder_61 ?_
            refine lv_iload_n (pc := 64) hx hb dX10_bidder_64 rfl (lv_at hl 1 rfl) ?_
            obtain ⟨j18, hj19, h⟩ := bnd1 h
            obtain ⟨σ20, e21, h⟩ := bnd1 h
            refine r_iast (pc := 65) X hP hS (kf_10_kinds hk0).1 hj19 dX10_bidder_65 (fun H locs hP hS => ?_)
            rw [Option.some.inj e21] at hP
            refine lv_aload_n (pc := 66) hx hb dX10_bidder_66 rfl (lv_at hl 0 rfl) ?_
            refine gt_X10_35 X hP hk0 dX10_bidder_67 ?_
            refine lv_aload_n (pc := 70) hx hb dX10_bidder_70 rfl (lv_at hl 0 rfl) ?_
            refine gt_X10_128 X hP hk0 dX10_bidder_71 ?_
            refine lv_iload_n (pc := 74) hx hb dX10_bidder_74 rfl (lv_at hl 2 rfl) ?_
            obtain ⟨j22, hj23, h⟩ := bnd1 h
            obtain ⟨σ24, e25, h⟩ := bnd1 h
            refine r_iast (pc := 75) X hP hS (kf_10_own hk0).1 hj23 dX10_bidder_75 (fun H locs hP hS => ?_)
            rw [Option.some.inj e25] at hP
            refine lv_aload_n (pc := 76) hx hb dX10_bidder_76 rfl (lv_at hl 0 rfl) ?_
            refine gt_X10_38 X hP hk0 dX10_bidder_77 ?_
            refine lv_aload_n (pc := 80) hx hb dX10_bidder_80 rfl (lv_at hl 0 rfl) ?_
            refine gt_X10_128 X hP hk0 dX10_bidder_81 ?_
            refine lv_iload_n (pc := 84) hx hb dX10_bidder_84 rfl (lv_at hl 3 rfl) ?_
            obtain ⟨j26, hj27, h⟩ := bnd1 h
            obtain ⟨σ28, e29, h⟩ := bnd1 h
            refine r_iast (pc := 85) X hP hS (kf_10_values hk0).1 hj27 dX10_bidder_85 (fun H locs hP hS => ?_)
            rw [Option.some.inj e29] at hP
            refine lv_aload_n (pc := 86) hx hb dX10_bidder_86 rfl (lv_at hl 0 rfl) ?_
            refine gt_X10_41 X hP hk0 dX10_bidder_87 ?_
            refine lv_iconst (pc := 90) (v := 5) hx hb dX10_bidder_90 (by decide) ?_
            refine lv_aload_n (pc := 91) hx hb dX10_bidder_91 rfl (lv_at hl 0 rfl) ?_
            refine gt_X10_128 X hP hk0 dX10_bidder_92 ?_
            refine lv_iadd (pc := 95) hx hb dX10_bidder_95 ?_
            refine lv_iload (pc := 96) hx hb dX10_bidder_96 (lv_at hl 4 rfl) ?_
            obtain ⟨j30, hj31, h⟩ := bnd1 h
            obtain ⟨σ32, e33, h⟩ := bnd1 h
            refine r_iast (pc := 98) X hP hS (kf_10_row hk0).1 hj31 dX10_bidder_98 (fun H locs hP hS => ?_)
            rw [Option.some.inj e33] at hP
            refine lv_aload_n (pc := 99) hx hb dX10_bidder_99 rfl (lv_at hl 0 rfl) ?_
            refine lv_dup (pc := 100) hx hb dX10_bidder_100 rfl ?_
            refine gt_X10_128 X hP hk0 dX10_bidder_101 ?_
            refine lv_iconst (pc := 104) (v := 1) hx hb dX10_bidder_104 (by decide) ?_
            refine lv_iadd (pc := 105) hx hb dX10_bidder_105 ?_
            obtain ⟨σ34, e35, h⟩ := bnd1 h
            refine pt_X10_128 X hP hS hk0 dX10_bidder_106 (fun H locs hP hS => ?_)
            rw [Option.some.inj e35] at hP
            refine lv_aload_n (pc := 109) hx hb dX10_bidder_109 rfl (lv_at hl 0 rfl) ?_
            refine gt_X10_128 X hP hk0 dX10_bidder_110 ?_
            refine lv_iconst (pc := 113) (v := 1) hx hb dX10_bidder_113 (by decide) ?_
            refine lv_isub (pc := 114) hx hb dX10_bidder_114 ?_
            obtain ⟨rfl, rfl⟩ := inj2 h
            exact r_iret X hP hS dX10_bidder_115
          · have h := ipos c17 h
            refine lv_bipush (pc := 53) (v := (-2)) hx hb dX10_bidder_53 (by decide) ?_
            obtain ⟨rfl, rfl⟩ := inj2 h
            exact r_iret X hP hS dX10_bidder_55
        · have h := ipos c16 h
          refine lv_iconst (pc := 42) (v := (-1)) hx hb dX10_bidder_42 (by decide) ?_
          obtain ⟨rfl, rfl⟩ := inj2 h
          exact r_iret X hP hS dX10_bidder_43
def F_X10_lotsOf_4 (k0z : Nat) (p1 : Int32) (rec1 : Int32 → Int32 → Mem → Option (Int32 × Mem)) : Int32 → Int32 → Mem → Option (Int32 × Mem) := fun v2 v3 σ =>
  if (gI σ k0z 0) ≤ v3 then
    some (v2, σ)
  else
    bd1 (ixo (k0z + 3) v3) fun j2 =>
    if (gI σ (k0z + 3) j2) = (1 : Int32) then
      bd1 (ixo (k0z + 5) v3) fun j5 =>
      if (gI σ (k0z + 5) j5) = p1 then
        rec1 (v2 + (1 : Int32)) (v3 + (1 : Int32)) σ
      else
        rec1 (v2 + (0 : Int32)) (v3 + (1 : Int32)) σ
    else
      rec1 (v2 + (0 : Int32)) (v3 + (1 : Int32)) σ
def f_X10_lotsOf (k0 : Nat) (a1 : Int32) (σ : Mem) : Option (Int32 × Mem) :=
  iterF (F_X10_lotsOf_4 k0 a1) (fun _ _ _ => none) FU (0 : Int32) (0 : Int32) σ
abbrev RM_X10_lotsOf : Room := { frames := 0, cells := 0, slots := 0, locals := 0 }
set_option maxHeartbeats 4000000 in
set_option maxRecDepth 100000 in
theorem w_X10_lotsOf_4 {l : Launch} {G : Gh} {p : Program} {e : Env} {s : State} {m : MethodId} {args : Array Value} {below : List Frame} {meth : Method} {c : Code} (X : Cx G p s m args meth c prog_12_method_36_code RX10 4 (some .int)) {k0z : Nat} {p1 : Int32} (hz0 : kd k0z = 10) {rr : Int32} {σr : Mem} : ∀ (n : Nat) (v2 : Int32) (v3 : Int32) (σ : Mem) (H : Heap) (locs : List Loc) (ls : Array Slot), PW G σ H → va_S (AA G) s.heap H locs → lv_has ls 4 [(0, .ref (ga G k0z)), (1, .int p1), (2, .int v2), (3, .int v3)] → iterF (F_X10_lotsOf_4 k0z p1) (fun _ _ _ => none) n v2 v3 σ = some (rr, σr) → W p l e RM_X10_lotsOf s m args below meth c H locs 0 0 (MQ below (QG G (some (.int rr)) σr) args s 0 0 (AA G)) (F0 m 4 ls []) := by
  have hx := X.hx
  have hb := X.hb
  intro n
  induction n with
  | zero => intro v2 v3 σ H locs ls hP hS hl h; exact nnone (α := (Int32 × Mem)) h
  | succ n ih1 =>
    intro v2 v3 σ H locs ls hP hS hl h
    have h : F_X10_lotsOf_4 k0z p1 (iterF (F_X10_lotsOf_4 k0z p1) (fun _ _ _ => none) n) v2 v3 σ = some _ := h
    unfold F_X10_lotsOf_4 at h
    refine lv_iload_n (pc := 4) hx hb dX10_lotsOf_4 rfl (lv_at hl 3 rfl) ?_
    refine lv_aload_n (pc := 5) hx hb dX10_lotsOf_5 rfl (lv_at hl 0 rfl) ?_
    refine gt_X10_117 X hP hz0 dX10_lotsOf_6 ?_
    refine lv_icmp_ge (pc := 9) (tgt := 46) hx hb dX10_lotsOf_9 (by decide) (fun c1 => ?_) (fun c1 => ?_)
    · have h := ipos c1 h
      refine lv_iload_n (pc := 46) hx hb dX10_lotsOf_46 rfl (lv_at hl 2 rfl) ?_
      obtain ⟨rfl, rfl⟩ := inj2 h
      exact r_iret X hP hS dX10_lotsOf_47
    · have h := ineg c1 h
      refine lv_iload_n (pc := 12) hx hb dX10_lotsOf_12 rfl (lv_at hl 2 rfl) ?_
      refine lv_aload_n (pc := 13) hx hb dX10_lotsOf_13 rfl (lv_at hl 0 rfl) ?_
      refine gt_X10_16 X hP hz0 dX10_lotsOf_14 ?_
      refine lv_iload_n (pc := 17) hx hb dX10_lotsOf_17 rfl (lv_at hl 3 rfl) ?_
      obtain ⟨j2, hj3, h⟩ := bnd1 h
      refine r_iald (pc := 18) X hP (kf_10_sold hz0).1 hj3 dX10_lotsOf_18 ?_
      refine lv_iconst (pc := 19) (v := 1) hx hb dX10_lotsOf_19 (by decide) ?_
      refine lv_icmp_ne (pc := 20) (tgt := 37) hx hb dX10_lotsOf_20 (by decide) (fun c4 => ?_) (fun c4 => ?_)
      · have h := ineg c4 h
        refine lv_iconst (pc := 37) (v := 0) hx hb dX10_lotsOf_37 (by decide) ?_
        refine lv_iadd (pc := 38) hx hb dX10_lotsOf_38 ?_
        refine lv_istore_n (pc := 39) (lv' := [(2, .int (v2 + (0 : Int32))), (0, .ref (ga G k0z)), (1, .int p1), (3, .int v3)]) hx hb dX10_lotsOf_39 rfl hl (by decide) rfl (fun ls hl => ?_)
        refine lv_iinc (pc := 40) (v := (v3 + (1 : Int32))) (lv' := [(3, .int (v3 + (1 : Int32))), (2, .int (v2 + (0 : Int32))), (0, .ref (ga G k0z)), (1, .int p1)]) hx hb dX10_lotsOf_40 hl (k := 3) rfl (congrArg (fun z => v3 + z) (by decide)) (by decide) rfl (fun ls hl => ?_)
        refine lv_goto (pc := 43) (tgt := 4) hx hb dX10_lotsOf_43 (by decide) ?_
        exact ih1 _ _ _ _ _ _ hP hS (lv_sub hl [2, 3, 1, 0] rfl) h
      · have h := ipos c4 h
        refine lv_aload_n (pc := 23) hx hb dX10_lotsOf_23 rfl (lv_at hl 0 rfl) ?_
        refine gt_X10_22 X hP hz0 dX10_lotsOf_24 ?_
        refine lv_iload_n (pc := 27) hx hb dX10_lotsOf_27 rfl (lv_at hl 3 rfl) ?_
        obtain ⟨j5, hj6, h⟩ := bnd1 h
        refine r_iald (pc := 28) X hP (kf_10_owners hz0).1 hj6 dX10_lotsOf_28 ?_
        refine lv_iload_n (pc := 29) hx hb dX10_lotsOf_29 rfl (lv_at hl 1 rfl) ?_
        refine lv_icmp_ne (pc := 30) (tgt := 37) hx hb dX10_lotsOf_30 (by decide) (fun c7 => ?_) (fun c7 => ?_)
        · have h := ineg c7 h
          refine lv_iconst (pc := 37) (v := 0) hx hb dX10_lotsOf_37 (by decide) ?_
          refine lv_iadd (pc := 38) hx hb dX10_lotsOf_38 ?_
          refine lv_istore_n (pc := 39) (lv' := [(2, .int (v2 + (0 : Int32))), (0, .ref (ga G k0z)), (1, .int p1), (3, .int v3)]) hx hb dX10_lotsOf_39 rfl hl (by decide) rfl (fun ls hl => ?_)
          refine lv_iinc (pc := 40) (v := (v3 + (1 : Int32))) (lv' := [(3, .int (v3 + (1 : Int32))), (2, .int (v2 + (0 : Int32))), (0, .ref (ga G k0z)), (1, .int p1)]) hx hb dX10_lotsOf_40 hl (k := 3) rfl (congrArg (fun z => v3 + z) (by decide)) (by decide) rfl (fun ls hl => ?_)
          refine lv_goto (pc := 43) (tgt := 4) hx hb dX10_lotsOf_43 (by decide) ?_
          exact ih1 _ _ _ _ _ _ hP hS (lv_sub hl [2, 3, 1, 0] rfl) h
        · have h := ipos c7 h
          refine lv_iconst (pc := 33) (v := 1) hx hb dX10_lotsOf_33 (by decide) ?_
          refine lv_goto (pc := 34) (tgt := 38) hx hb dX10_lotsOf_34 (by decide) ?_
          refine lv_iadd (pc := 38) hx hb dX10_lotsOf_38 ?_
          refine lv_istore_n (pc := 39) (lv' := [(2, .int (v2 + (1 : Int32))), (0, .ref (ga G k0z)), (1, .int p1), (3, .int v3)]) hx hb dX10_lotsOf_39 rfl hl (by decide) rfl (fun ls hl => ?_)
          refine lv_iinc (pc := 40) (v := (v3 + (1 : Int32))) (lv' := [(3, .int (v3 + (1 : Int32))), (2, .int (v2 + (1 : Int32))), (0, .ref (ga G k0z)), (1, .int p1)]) hx hb dX10_lotsOf_40 hl (k := 3) rfl (congrArg (fun z => v3 + z) (by decide)) (by decide) rfl (fun ls hl => ?_)
          refine lv_goto (pc := 43) (tgt := 4) hx hb dX10_lotsOf_43 (by decide) ?_
          exact ih1 _ _ _ _ _ _ hP hS (lv_sub hl [2, 3, 1, 0] rfl) h
set_option maxHeartbeats 4000000 in
set_option maxRecDepth 100000 in
theorem c_X10_lotsOf (l : Launch) (G : Gh) {k0 : Nat} {a1 : Int32} {σ : Mem} {rr : Int32} {σr : Mem} (hk0 : kd k0 = 10) (h : f_X10_lotsOf k0 a1 σ = some (rr, σr)) : Met l yX10_lotsOf [Cond.code yX10_lotsOf prog_12_method_36_code 4 (some .int)] RM_X10_lotsOf (va_Pc [.ref (ga G k0), .int a1] (Pre G σ)) (QG G (some (.int rr)) σr) 0 0 (AA G) := by
  refine ct_of (by decide) (fun p e s m below meth c X hP => ?_)
  have hx := X.hx
  have hb := X.hb
  have hS : va_S (AA G) s.heap s.heap [] := va_S.rf
  have hl := lv_entry ([.ref (ga G k0), .int a1]) (n := 4) (Nat.le_of_ble_eq_true rfl)
  rw [lg_entry_eq]
  generalize (lg_sl ([.ref (ga G k0), .int a1]) ++ List.replicate (4 - (lg_sl ([.ref (ga G k0), .int a1])).length) Slot.unset).toArray = ls at hl ⊢
  have hl : lv_has ls 4 [(0, .ref (ga G k0)), (1, .int a1)] := hl
  unfold f_X10_lotsOf at h
  refine lv_iconst (pc := 0) (v := 0) hx hb dX10_lotsOf_0 (by decide) ?_
  refine lv_istore_n (pc := 1) (lv' := [(2, .int (0 : Int32)), (0, .ref (ga G k0)), (1, .int a1)]) hx hb dX10_lotsOf_1 rfl hl (by decide) rfl (fun ls hl => ?_)
  refine lv_iconst (pc := 2) (v := 0) hx hb dX10_lotsOf_2 (by decide) ?_
  refine lv_istore_n (pc := 3) (lv' := [(3, .int (0 : Int32)), (2, .int (0 : Int32)), (0, .ref (ga G k0)), (1, .int a1)]) hx hb dX10_lotsOf_3 rfl hl (by decide) rfl (fun ls hl => ?_)
  exact w_X10_lotsOf_4 X  hk0  FU _ _ _ _ _ _ hP hS (lv_sub hl [2, 3, 1, 0] rfl) h
def f_X10_bidderOf (k0 : Nat) (a1 : Int32) (a2 : Int32) (σ : Mem) : Option (Int32 × Mem) :=
  bd2 (f_X10_isBidder k0 a1 σ) fun r3 σ1 =>
  if r3 = (0 : Int32) then
    some ((-1 : Int32), σ1)
  else
    bd2 (f_X10_in a2 (0 : Int32) (4 : Int32) σ1) fun r7 σ5 =>
    if r7 = (0 : Int32) then
      some ((-1 : Int32), σ5)
    else
      if a2 = (0 : Int32) then
        bd1 (ixo (k0 + 7) a1) fun j10 =>
        some ((gI σ5 (k0 + 7) j10), σ5)
      else
      if a2 = (1 : Int32) then
        bd1 (ixo (k0 + 8) a1) fun j13 =>
        some ((gI σ5 (k0 + 8) j13), σ5)
      else
      if a2 = (2 : Int32) then
        bd1 (ixo (k0 + 9) a1) fun j16 =>
        some ((gI σ5 (k0 + 9) j16), σ5)
      else
      if a2 = (3 : Int32) then
        bd1 (ixo (k0 + 10) ((5 : Int32) + a1)) fun j19 =>
        some ((gI σ5 (k0 + 10) j19), σ5)
      else
      bd2 (f_X10_lotsOf k0 a1 σ5) fun r23 σ21 =>
      some (r23, σ21)
abbrev RM_X10_bidderOf : Room := { frames := 2, cells := 0, slots := 0, locals := 43 }
set_option maxHeartbeats 4000000 in
set_option maxRecDepth 100000 in
theorem c_X10_bidderOf (l : Launch) (G : Gh) {k0 : Nat} {a1 : Int32} {a2 : Int32} {σ : Mem} {rr : Int32} {σr : Mem} (hk0 : kd k0 = 10) (h : f_X10_bidderOf k0 a1 a2 σ = some (rr, σr)) : Met l yX10_bidderOf [Cond.code yX10_bidderOf prog_12_method_37_code 3 (some .int)] RM_X10_bidderOf (va_Pc [.ref (ga G k0), .int a1, .int a2] (Pre G σ)) (QG G (some (.int rr)) σr) 0 0 (AA G) := by
  refine ct_of (by decide) (fun p e s m below meth c X hP => ?_)
  have hx := X.hx
  have hb := X.hb
  have hS : va_S (AA G) s.heap s.heap [] := va_S.rf
  have hl := lv_entry ([.ref (ga G k0), .int a1, .int a2]) (n := 3) (Nat.le_of_ble_eq_true rfl)
  rw [lg_entry_eq]
  generalize (lg_sl ([.ref (ga G k0), .int a1, .int a2]) ++ List.replicate (3 - (lg_sl ([.ref (ga G k0), .int a1, .int a2])).length) Slot.unset).toArray = ls at hl ⊢
  have hl : lv_has ls 3 [(0, .ref (ga G k0)), (1, .int a1), (2, .int a2)] := hl
  unfold f_X10_bidderOf at h
  refine lv_aload_n (pc := 0) hx hb dX10_bidderOf_0 rfl (lv_at hl 0 rfl) ?_
  refine lv_iload_n (pc := 1) hx hb dX10_bidderOf_1 rfl (lv_at hl 1 rfl) ?_
  obtain ⟨r3, σ1, e2, h⟩ := bnd2 h
  refine cl_X10_271 X hP hS hk0 (As := [.int a1]) (rest := []) (c_X10_isBidder l G hk0 e2) ⟨rfl, rfl, Nat.le_of_ble_eq_true rfl, Nat.le_of_ble_eq_true rfl⟩ rfl hl.1 rfl (Nat.le_of_ble_eq_true rfl) ⟨Nat.zero_le _, Nat.zero_le _⟩ (pc := 2) dX10_bidderOf_2 (fun H locs hP hS => ?_)
  change W p l e _ s m _ below meth c H locs _ _ _ (F0 m (2 + 3) ls (.int r3 :: []))
  refine lv_if_eq (pc := 5) (tgt := 17) hx hb dX10_bidderOf_5 (by decide) (fun c4 => ?_) (fun c4 => ?_)
  · have h := ipos c4 h
    refine lv_iconst (pc := 17) (v := (-1)) hx hb dX10_bidderOf_17 (by decide) ?_
    obtain ⟨rfl, rfl⟩ := inj2 h
    exact r_iret X hP hS dX10_bidderOf_18
  · have h := ineg c4 h
    refine lv_iload_n (pc := 8) hx hb dX10_bidderOf_8 rfl (lv_at hl 2 rfl) ?_
    refine lv_iconst (pc := 9) (v := 0) hx hb dX10_bidderOf_9 (by decide) ?_
    refine lv_iconst (pc := 10) (v := 4) hx hb dX10_bidderOf_10 (by decide) ?_
    obtain ⟨r7, σ5, e6, h⟩ := bnd2 h
    refine cl_X10_120 X hP hS (As := [.int a2, .int (0 : Int32), .int (4 : Int32)]) (rest := []) (c_X10_in l G  e6) ⟨rfl, rfl, Nat.le_of_ble_eq_true rfl, Nat.le_of_ble_eq_true rfl⟩ rfl hl.1 rfl (Nat.le_of_ble_eq_true rfl) ⟨Nat.zero_le _, Nat.zero_le _⟩ (pc := 11) dX10_bidderOf_11 (fun H locs hP hS => ?_)
    change W p l e _ s m _ below meth c H locs _ _ _ (F0 m (11 + 3) ls (.int r7 :: []))
    refine lv_if_ne (pc := 14) (tgt := 19) hx hb dX10_bidderOf_14 (by decide) (fun c8 => ?_) (fun c8 => ?_)
    · have h := ineg c8 h
      refine lv_iload_n (pc := 19) hx hb dX10_bidderOf_19 rfl (lv_at hl 2 rfl) ?_
      by_cases c9 : a2 = (0 : Int32)
      · have h := ipos c9 h
        refine r_tabIn X (pc := 20) (tgt := 52) c9 dX10_bidderOf_20 (by decide) (by decide) rfl (by decide) ?_
        refine lv_aload_n (pc := 52) hx hb dX10_bidderOf_52 rfl (lv_at hl 0 rfl) ?_
        refine gt_X10_32 X hP hk0 dX10_bidderOf_53 ?_
        refine lv_iload_n (pc := 56) hx hb dX10_bidderOf_56 rfl (lv_at hl 1 rfl) ?_
        obtain ⟨j10, hj11, h⟩ := bnd1 h
        refine r_iald (pc := 57) X hP (kf_10_kinds hk0).1 hj11 dX10_bidderOf_57 ?_
        obtain ⟨rfl, rfl⟩ := inj2 h
        exact r_iret X hP hS dX10_bidderOf_58
      have h := ineg c9 h
      by_cases c12 : a2 = (1 : Int32)
      · have h := ipos c12 h
        refine r_tabIn X (pc := 20) (tgt := 59) c12 dX10_bidderOf_20 (by decide) (by decide) rfl (by decide) ?_
        refine lv_aload_n (pc := 59) hx hb dX10_bidderOf_59 rfl (lv_at hl 0 rfl) ?_
        refine gt_X10_35 X hP hk0 dX10_bidderOf_60 ?_
        refine lv_iload_n (pc := 63) hx hb dX10_bidderOf_63 rfl (lv_at hl 1 rfl) ?_
        obtain ⟨j13, hj14, h⟩ := bnd1 h
        refine r_iald (pc := 64) X hP (kf_10_own hk0).1 hj14 dX10_bidderOf_64 ?_
        obtain ⟨rfl, rfl⟩ := inj2 h
        exact r_iret X hP hS dX10_bidderOf_65
      have h := ineg c12 h
      by_cases c15 : a2 = (2 : Int32)
      · have h := ipos c15 h
        refine r_tabIn X (pc := 20) (tgt := 66) c15 dX10_bidderOf_20 (by decide) (by decide) rfl (by decide) ?_
        refine lv_aload_n (pc := 66) hx hb dX10_bidderOf_66 rfl (lv_at hl 0 rfl) ?_
        refine gt_X10_38 X hP hk0 dX10_bidderOf_67 ?_
        refine lv_iload_n (pc := 70) hx hb dX10_bidderOf_70 rfl (lv_at hl 1 rfl) ?_
        obtain ⟨j16, hj17, h⟩ := bnd1 h
        refine r_iald (pc := 71) X hP (kf_10_values hk0).1 hj17 dX10_bidderOf_71 ?_
        obtain ⟨rfl, rfl⟩ := inj2 h
        exact r_iret X hP hS dX10_bidderOf_72
      have h := ineg c15 h
      by_cases c18 : a2 = (3 : Int32)
      · have h := ipos c18 h
        refine r_tabIn X (pc := 20) (tgt := 73) c18 dX10_bidderOf_20 (by decide) (by decide) rfl (by decide) ?_
        refine lv_aload_n (pc := 73) hx hb dX10_bidderOf_73 rfl (lv_at hl 0 rfl) ?_
        refine gt_X10_41 X hP hk0 dX10_bidderOf_74 ?_
        refine lv_iconst (pc := 77) (v := 5) hx hb dX10_bidderOf_77 (by decide) ?_
        refine lv_iload_n (pc := 78) hx hb dX10_bidderOf_78 rfl (lv_at hl 1 rfl) ?_
        refine lv_iadd (pc := 79) hx hb dX10_bidderOf_79 ?_
        obtain ⟨j19, hj20, h⟩ := bnd1 h
        refine r_iald (pc := 80) X hP (kf_10_row hk0).1 hj20 dX10_bidderOf_80 ?_
        obtain ⟨rfl, rfl⟩ := inj2 h
        exact r_iret X hP hS dX10_bidderOf_81
      have h := ineg c18 h
      refine lv_tableOut (pc := 20) (tgt := 82) hx hb dX10_bidderOf_20 (by have := lv_neT c9 (a := 0) (by decide); have := lv_neT c12 (a := 1) (by decide); have := lv_neT c15 (a := 2) (by decide); have := lv_neT c18 (a := 3) (by decide); omega) (by decide) ?_
      refine lv_aload_n (pc := 82) hx hb dX10_bidderOf_82 rfl (lv_at hl 0 rfl) ?_
      refine lv_iload_n (pc := 83) hx hb dX10_bidderOf_83 rfl (lv_at hl 1 rfl) ?_
      obtain ⟨r23, σ21, e22, h⟩ := bnd2 h
      refine cl_X10_274 X hP hS hk0 (As := [.int a1]) (rest := []) (c_X10_lotsOf l G hk0 e22) ⟨rfl, rfl, Nat.le_of_ble_eq_true rfl, Nat.le_of_ble_eq_true rfl⟩ rfl hl.1 rfl (Nat.le_of_ble_eq_true rfl) ⟨Nat.zero_le _, Nat.zero_le _⟩ (pc := 84) dX10_bidderOf_84 (fun H locs hP hS => ?_)
      change W p l e _ s m _ below meth c H locs _ _ _ (F0 m (84 + 3) ls (.int r23 :: []))
      obtain ⟨rfl, rfl⟩ := inj2 h
      exact r_iret X hP hS dX10_bidderOf_87
    · have h := ipos c8 h
      refine lv_iconst (pc := 17) (v := (-1)) hx hb dX10_bidderOf_17 (by decide) ?_
      obtain ⟨rfl, rfl⟩ := inj2 h
      exact r_iret X hP hS dX10_bidderOf_18
def f_X10_mind (k0 : Nat) (a1 : Int32) (a2 : Int32) (a3 : Int32) (σ : Mem) : Option (Int32 × Mem) :=
  bd2 (f_X10_isBidder k0 a1 σ) fun r3 σ1 =>
  if r3 = (0 : Int32) then
    some ((-1 : Int32), σ1)
  else
    bd2 (f_X10_in a2 (0 : Int32) (5 : Int32) σ1) fun r7 σ5 =>
    if r7 = (0 : Int32) then
      some ((-1 : Int32), σ5)
    else
      bd2 (f_X10_in a3 (0 : Int32) (9 : Int32) σ5) fun r11 σ9 =>
      if r11 = (0 : Int32) then
        some ((-1 : Int32), σ9)
      else
        bd1 (ixo (k0 + 7) a1) fun j13 =>
        bd1 (ixo (k0 + 7) a1) fun j15 =>
        bd1 (some (pI σ9 (k0 + 7) j15 a2)) fun σ17 =>
        bd1 (ixo (k0 + 8) a1) fun j19 =>
        bd1 (some (pI σ17 (k0 + 8) j19 a3)) fun σ21 =>
        some ((gI σ9 (k0 + 7) j13), σ21)
abbrev RM_X10_mind : Room := { frames := 2, cells := 0, slots := 0, locals := 43 }
set_option maxHeartbeats 4000000 in
set_option maxRecDepth 100000 in
theorem c_X10_mind (l : Launch) (G : Gh) {k0 : Nat} {a1 : Int32} {a2 : Int32} {a3 : Int32} {σ : Mem} {rr : Int32} {σr : Mem} (hk0 : kd k0 = 10) (h : f_X10_mind k0 a1 a2 a3 σ = some (rr, σr)) : Met l yX10_mind [Cond.code yX10_mind prog_12_method_38_code 5 (some .int)] RM_X10_mind (va_Pc [.ref (ga G k0), .int a1, .int a2, .int a3] (Pre G σ)) (QG G (some (.int rr)) σr) 0 0 (AA G) := by
  refine ct_of (by decide) (fun p e s m below meth c X hP => ?_)
  have hx := X.hx
  have hb := X.hb
  have hS : va_S (AA G) s.heap s.heap [] := va_S.rf
  have hl := lv_entry ([.ref (ga G k0), .int a1, .int a2, .int a3]) (n := 5) (Nat.le_of_ble_eq_true rfl)
  rw [lg_entry_eq]
  generalize (lg_sl ([.ref (ga G k0), .int a1, .int a2, .int a3]) ++ List.replicate (5 - (lg_sl ([.ref (ga G k0), .int a1, .int a2, .int a3])).length) Slot.unset).toArray = ls at hl ⊢
  have hl : lv_has ls 5 [(0, .ref (ga G k0)), (1, .int a1), (2, .int a2), (3, .int a3)] := hl
  unfold f_X10_mind at h
  refine lv_aload_n (pc := 0) hx hb dX10_mind_0 rfl (lv_at hl 0 rfl) ?_
  refine lv_iload_n (pc := 1) hx hb dX10_mind_1 rfl (lv_at hl 1 rfl) ?_
  obtain ⟨r3, σ1, e2, h⟩ := bnd2 h
  refine cl_X10_271 X hP hS hk0 (As := [.int a1]) (rest := []) (c_X10_isBidder l G hk0 e2) ⟨rfl, rfl, Nat.le_of_ble_eq_true rfl, Nat.le_of_ble_eq_true rfl⟩ rfl hl.1 rfl (Nat.le_of_ble_eq_true rfl) ⟨Nat.zero_le _, Nat.zero_le _⟩ (pc := 2) dX10_mind_2 (fun H locs hP hS => ?_)
  change W p l e _ s m _ below meth c H locs _ _ _ (F0 m (2 + 3) ls (.int r3 :: []))
  refine lv_if_eq (pc := 5) (tgt := 27) hx hb dX10_mind_5 (by decide) (fun c4 => ?_) (fun c4 => ?_)
  · have h := ipos c4 h
    refine lv_iconst (pc := 27) (v := (-1)) hx hb dX10_mind_27 (by decide) ?_
    obtain ⟨rfl, rfl⟩ := inj2 h
    exact r_iret X hP hS dX10_mind_28
  · have h := ineg c4 h
    refine lv_iload_n (pc := 8) hx hb dX10_mind_8 rfl (lv_at hl 2 rfl) ?_
    refine lv_iconst (pc := 9) (v := 0) hx hb dX10_mind_9 (by decide) ?_
    refine lv_iconst (pc := 10) (v := 5) hx hb dX10_mind_10 (by decide) ?_
    obtain ⟨r7, σ5, e6, h⟩ := bnd2 h
    refine cl_X10_120 X hP hS (As := [.int a2, .int (0 : Int32), .int (5 : Int32)]) (rest := []) (c_X10_in l G  e6) ⟨rfl, rfl, Nat.le_of_ble_eq_true rfl, Nat.le_of_ble_eq_true rfl⟩ rfl hl.1 rfl (Nat.le_of_ble_eq_true rfl) ⟨Nat.zero_le _, Nat.zero_le _⟩ (pc := 11) dX10_mind_11 (fun H locs hP hS => ?_)
    change W p l e _ s m _ below meth c H locs _ _ _ (F0 m (11 + 3) ls (.int r7 :: []))
    refine lv_if_eq (pc := 14) (tgt := 27) hx hb dX10_mind_14 (by decide) (fun c8 => ?_) (fun c8 => ?_)
    · have h := ipos c8 h
      refine lv_iconst (pc := 27) (v := (-1)) hx hb dX10_mind_27 (by decide) ?_
      obtain ⟨rfl, rfl⟩ := inj2 h
      exact r_iret X hP hS dX10_mind_28
    · have h := ineg c8 h
      refine lv_iload_n (pc := 17) hx hb dX10_mind_17 rfl (lv_at hl 3 rfl) ?_
      refine lv_iconst (pc := 18) (v := 0) hx hb dX10_mind_18 (by decide) ?_
      refine lv_bipush (pc := 19) (v := (9)) hx hb dX10_mind_19 (by decide) ?_
      obtain ⟨r11, σ9, e10, h⟩ := bnd2 h
      refine cl_X10_120 X hP hS (As := [.int a3, .int (0 : Int32), .int (9 : Int32)]) (rest := []) (c_X10_in l G  e10) ⟨rfl, rfl, Nat.le_of_ble_eq_true rfl, Nat.le_of_ble_eq_true rfl⟩ rfl hl.1 rfl (Nat.le_of_ble_eq_true rfl) ⟨Nat.zero_le _, Nat.zero_le _⟩ (pc := 21) dX10_mind_21 (fun H locs hP hS => ?_)
      change W p l e _ s m _ below meth c H locs _ _ _ (F0 m (21 + 3) ls (.int r11 :: []))
      refine lv_if_ne (pc := 24) (tgt := 29) hx hb dX10_mind_24 (by decide) (fun c12 => ?_) (fun c12 => ?_)
      · have h := ineg c12 h
        refine lv_aload_n (pc := 29) hx hb dX10_mind_29 rfl (lv_at hl 0 rfl) ?_
        refine gt_X10_32 X hP hk0 dX10_mind_30 ?_
        refine lv_iload_n (pc := 33) hx hb dX10_mind_33 rfl (lv_at hl 1 rfl) ?_
        obtain ⟨j13, hj14, h⟩ := bnd1 h
        refine r_iald (pc := 34) X hP (kf_10_kinds hk0).1 hj14 dX10_mind_34 ?_
        refine lv_istore (pc := 35) (lv' := [(4, .int (gI σ9 (k0 + 7) j13)), (0, .ref (ga G k0)), (1, .int a1), (2, .int a2), (3, .int a3)]) hx hb dX10_mind_35 hl (by decide) rfl (fun ls hl => ?_)
        refine lv_aload_n (pc := 37) hx hb dX10_mind_37 rfl (lv_at hl 1 rfl) ?_
        refine gt_X10_32 X hP hk0 dX10_mind_38 ?_
        refine lv_iload_n (pc := 41) hx hb dX10_mind_41 rfl (lv_at hl 2 rfl) ?_
        refine lv_iload_n (pc := 42) hx hb dX10_mind_42 rfl (lv_at hl 3 rfl) ?_
        obtain ⟨j15, hj16, h⟩ := bnd1 h
        obtain ⟨σ17, e18, h⟩ := bnd1 h
        refine r_iast (pc := 43) X hP hS (kf_10_kinds hk0).1 hj16 dX10_mind_43 (fun H locs hP hS => ?_)
        rw [Option.some.inj e18] at hP
        refine lv_aload_n (pc := 44) hx hb dX10_mind_44 rfl (lv_at hl 1 rfl) ?_
        refine gt_X10_35 X hP hk0 dX10_mind_45 ?_
        refine lv_iload_n (pc := 48) hx hb dX10_mind_48 rfl (lv_at hl 2 rfl) ?_
        refine lv_iload_n (pc := 49) hx hb dX10_mind_49 rfl (lv_at hl 4 rfl) ?_
        obtain ⟨j19, hj20, h⟩ := bnd1 h
        obtain ⟨σ21, e22, h⟩ := bnd1 h
        refine r_iast (pc := 50) X hP hS (kf_10_own hk0).1 hj20 dX10_mind_50 (fun H locs hP hS => ?_)
        rw [Option.some.inj e22] at hP
        refine lv_iload (pc := 51) hx hb dX10_mind_51 (lv_at hl 0 rfl) ?_
        obtain ⟨rfl, rfl⟩ := inj2 h
        exact r_iret X hP hS dX10_mind_53
      · have h := ipos c12 h
        refine lv_iconst (pc := 27) (v := (-1)) hx hb dX10_mind_27 (by decide) ?_
        obtain ⟨rfl, rfl⟩ := inj2 h
        exact r_iret X hP hS dX10_mind_28
