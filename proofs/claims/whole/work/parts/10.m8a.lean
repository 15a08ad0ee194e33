def f_X8_setStage (k0 : Nat) (a1 : Nat) (a2 : Int32) (σ : Mem) : Option Mem :=
  bd1 (f_X2_copy (k0 + 1) a1 σ) fun σ1 =>
  bd1 (f_X2_setAlight (k0 + 1) a2 σ1) fun σ3 =>
  some σ3
abbrev RM_X8_setStage : Room := { frames := 3, cells := 0, slots := 0, locals := 82 }
set_option maxHeartbeats 4000000 in
set_option maxRecDepth 100000 in
theorem c_X8_setStage (l : Launch) (G : Gh) {k0 : Nat} {a1 : Nat} {a2 : Int32} {σ : Mem} {σr : Mem} (hk0 : kd k0 = 8) (hk1 : kd a1 = 2) (h : f_X8_setStage k0 a1 a2 σ = some σr) : Met l yX8_setStage [Cond.code yX8_setStage prog_10_method_3_code 3 none] RM_X8_setStage (va_Pc [.ref (ga G k0), .ref (ga G a1), .int a2] (Pre G σ)) (QG G none σr) 0 0 (AA G) := by
  refine ct_of (by decide) (fun p e s m below meth c X hP => ?_)
  have hx := X.hx
  have hb := X.hb
  have hS : va_S (AA G) s.heap s.heap [] := va_S.rf
  have hl := lv_entry ([.ref (ga G k0), .ref (ga G a1), .int a2]) (n := 3) (Nat.le_of_ble_eq_true rfl)
  rw [lg_entry_eq]
  generalize (lg_sl ([.ref (ga G k0), .ref (ga G a1), .int a2]) ++ List.replicate (3 - (lg_sl ([.ref (ga G k0), .ref (ga G a1), .int a2])).length) Slot.unset).toArray = ls at hl ⊢
  have hl : lv_has ls 3 [(0, .ref (ga G k0)), (1, .ref (ga G a1)), (2, .int a2)] := hl
  unfold f_X8_setStage at h
  refine lv_aload_n (pc := 0) hx hb dX8_setStage_0 rfl (lv_at hl 0 rfl) ?_
  refine gt_X8_12 X hP hk0 dX8_setStage_1 ?_
  refine lv_aload_n (pc := 4) hx hb dX8_setStage_4 rfl (lv_at hl 1 rfl) ?_
  obtain ⟨σ1, e2, h⟩ := bnd1 h
  refine cl_X8_48 X hP hS (kf_8_stage hk0).1 (As := [.ref (ga G a1)]) (rest := []) (c_X2_copy l G (kf_8_stage hk0).1 hk1 e2) ⟨rfl, rfl, Nat.le_of_ble_eq_true rfl, Nat.le_of_ble_eq_true rfl⟩ rfl hl.1 rfl (Nat.le_of_ble_eq_true rfl) ⟨Nat.zero_le _, Nat.zero_le _⟩ (pc := 5) dX8_setStage_5 (fun H locs hP hS => ?_)
  change W p l e _ s m _ below meth c H locs _ _ _ (F0 m (5 + 3) ls [])
  refine lv_aload_n (pc := 8) hx hb dX8_setStage_8 rfl (lv_at hl 0 rfl) ?_
  refine gt_X8_12 X hP hk0 dX8_setStage_9 ?_
  refine lv_iload_n (pc := 12) hx hb dX8_setStage_12 rfl (lv_at hl 2 rfl) ?_
  obtain ⟨σ3, e4, h⟩ := bnd1 h
  refine cl_X8_52 X hP hS (kf_8_stage hk0).1 (As := [.int a2]) (rest := []) (c_X2_setAlight l G (kf_8_stage hk0).1 e4) ⟨rfl, rfl, Nat.le_of_ble_eq_true rfl, Nat.le_of_ble_eq_true rfl⟩ rfl hl.1 rfl (Nat.le_of_ble_eq_true rfl) ⟨Nat.zero_le _, Nat.zero_le _⟩ (pc := 13) dX8_setStage_13 (fun H locs hP hS => ?_)
  change W p l e _ s m _ below meth c H locs _ _ _ (F0 m (13 + 3) ls [])
  obtain rfl := Option.some.inj h
  exact r_vret X hP hS dX8_setStage_16
def f_X8_burnAnew (k0 : Nat) (a1 : Nat) (a2 : Int32) (a3 : Nat) (σ : Mem) : Option (Int32 × Mem) :=
  bd1 (f_X8_setStage k0 a1 a2 σ) fun σ1 =>
  bd2 (f_X2_goTicks (k0 + 1) (60 : Int32) a3 σ1) fun r5 σ3 =>
  some (r5, σ3)
abbrev RM_X8_burnAnew : Room := { frames := 5, cells := 0, slots := 0, locals := 114 }
set_option maxHeartbeats 4000000 in
set_option maxRecDepth 100000 in
theorem c_X8_burnAnew (l : Launch) (G : Gh) {k0 : Nat} {a1 : Nat} {a2 : Int32} {a3 : Nat} {σ : Mem} {rr : Int32} {σr : Mem} (hk0 : kd k0 = 8) (hk1 : kd a1 = 2) (hk3 : kd a3 = 4) (h : f_X8_burnAnew k0 a1 a2 a3 σ = some (rr, σr)) : Met l yX8_burnAnew [Cond.code yX8_burnAnew prog_10_method_2_code 4 (some .int)] RM_X8_burnAnew (va_Pc [.ref (ga G k0), .ref (ga G a1), .int a2, .ref (ga G a3)] (Pre G σ)) (QG G (some (.int rr)) σr) 0 0 (AA G) := by
  refine ct_of (by decide) (fun p e s m below meth c X hP => ?_)
  have hx := X.hx
  have hb := X.hb
  have hS : va_S (AA G) s.heap s.heap [] := va_S.rf
  have hl := lv_entry ([.ref (ga G k0), .ref (ga G a1), .int a2, .ref (ga G a3)]) (n := 4) (Nat.le_of_ble_eq_true rfl)
  rw [lg_entry_eq]
  generalize (lg_sl ([.ref (ga G k0), .ref (ga G a1), .int a2, .ref (ga G a3)]) ++ List.replicate (4 - (lg_sl ([.ref (ga G k0), .ref (ga G a1), .int a2, .ref (ga G a3)])).length) Slot.unset).toArray = ls at hl ⊢
  have hl : lv_has ls 4 [(0, .ref (ga G k0)), (1, .ref (ga G a1)), (2, .int a2), (3, .ref (ga G a3))] := hl
  unfold f_X8_burnAnew at h
  refine lv_aload_n (pc := 0) hx hb dX8_burnAnew_0 rfl (lv_at hl 0 rfl) ?_
  refine lv_aload_n (pc := 1) hx hb dX8_burnAnew_1 rfl (lv_at hl 1 rfl) ?_
  refine lv_iload_n (pc := 2) hx hb dX8_burnAnew_2 rfl (lv_at hl 2 rfl) ?_
  obtain ⟨σ1, e2, h⟩ := bnd1 h
  refine cl_X8_40 X hP hS hk0 (As := [.ref (ga G a1), .int a2]) (rest := []) (c_X8_setStage l G hk0 hk1 e2) ⟨rfl, rfl, Nat.le_of_ble_eq_true rfl, Nat.le_of_ble_eq_true rfl⟩ rfl hl.1 rfl (Nat.le_of_ble_eq_true rfl) ⟨Nat.zero_le _, Nat.zero_le _⟩ (pc := 3) dX8_burnAnew_3 (fun H locs hP hS => ?_)
  change W p l e _ s m _ below meth c H locs _ _ _ (F0 m (3 + 3) ls [])
  refine lv_aload_n (pc := 6) hx hb dX8_burnAnew_6 rfl (lv_at hl 0 rfl) ?_
  refine gt_X8_12 X hP hk0 dX8_burnAnew_7 ?_
  refine lv_bipush (pc := 10) (v := (60)) hx hb dX8_burnAnew_10 (by decide) ?_
  refine lv_aload_n (pc := 12) hx hb dX8_burnAnew_12 rfl (lv_at hl 3 rfl) ?_
  obtain ⟨r5, σ3, e4, h⟩ := bnd2 h
  refine cl_X8_44 X hP hS (kf_8_stage hk0).1 (As := [.int (60 : Int32), .ref (ga G a3)]) (rest := []) (c_X2_goTicks l G (kf_8_stage hk0).1 hk3 e4) ⟨rfl, rfl, Nat.le_of_ble_eq_true rfl, Nat.le_of_ble_eq_true rfl⟩ rfl hl.1 rfl (Nat.le_of_ble_eq_true rfl) ⟨Nat.zero_le _, Nat.zero_le _⟩ (pc := 13) dX8_burnAnew_13 (fun H locs hP hS => ?_)
  change W p l e _ s m _ below meth c H locs _ _ _ (F0 m (13 + 3) ls (.int r5 :: []))
  obtain ⟨rfl, rfl⟩ := inj2 h
  exact r_iret X hP hS dX8_burnAnew_16
def f_X8_price (k0 : Nat) (a1 : Int32) (σ : Mem) : Option (Int32 × Mem) :=
  bd2 (f_X2_lotAt (k0 + 1) a1 σ) fun r3 σ1 =>
  onr r3 (
    some ((0 : Int32), σ1)
    ) fun q4 => grd (kd q4 = 3) <|
    some ((gI σ1 q4 3), σ1)
abbrev RM_X8_price : Room := { frames := 1, cells := 0, slots := 0, locals := 21 }
set_option maxHeartbeats 4000000 in
set_option maxRecDepth 100000 in
theorem c_X8_price (l : Launch) (G : Gh) {k0 : Nat} {a1 : Int32} {σ : Mem} {rr : Int32} {σr : Mem} (hk0 : kd k0 = 8) (h : f_X8_price k0 a1 σ = some (rr, σr)) : Met l yX8_price [Cond.code yX8_price prog_10_method_4_code 3 (some .int)] RM_X8_price (va_Pc [.ref (ga G k0), .int a1] (Pre G σ)) (QG G (some (.int rr)) σr) 0 0 (AA G) := by
  refine ct_of (by decide) (fun p e s m below meth c X hP => ?_)
  have hx := X.hx
  have hb := X.hb
  have hS : va_S (AA G) s.heap s.heap [] := va_S.rf
  have hl := lv_entry ([.ref (ga G k0), .int a1]) (n := 3) (Nat.le_of_ble_eq_true rfl)
  rw [lg_entry_eq]
  generalize (lg_sl ([.ref (ga G k0), .int a1]) ++ List.replicate (3 - (lg_sl ([.ref (ga G k0), .int a1])).length) Slot.unset).toArray = ls at hl ⊢
  have hl : lv_has ls 3 [(0, .ref (ga G k0)), (1, .int a1)] := hl
  unfold f_X8_price at h
  refine lv_aload_n (pc := 0) hx hb dX8_price_0 rfl (lv_at hl 0 rfl) ?_
  refine gt_X8_12 X hP hk0 dX8_price_1 ?_
  refine lv_iload_n (pc := 4) hx hb dX8_price_4 rfl (lv_at hl 1 rfl) ?_
  obtain ⟨r3, σ1, e2, h⟩ := bnd2 h
  rcases r3 with _ | q4
  · have h := onr_n h
    refine cl_X8_56 X hP hS (kf_8_stage hk0).1 (As := [.int a1]) (rest := []) (c_X2_lotAt l G (kf_8_stage hk0).1 e2) ⟨rfl, rfl, Nat.le_of_ble_eq_true rfl, Nat.le_of_ble_eq_true rfl⟩ rfl hl.1 rfl (Nat.le_of_ble_eq_true rfl) ⟨Nat.zero_le _, Nat.zero_le _⟩ (pc := 5) dX8_price_5 (fun H locs hP hS => ?_)
    change W p l e _ s m _ below meth c H locs _ _ _ (F0 m (5 + 3) ls (.null :: []))
    refine lv_astore_nN (pc := 8) (lv' := [(2, .null), (0, .ref (ga G k0)), (1, .int a1)]) hx hb dX8_price_8 rfl hl (by decide) rfl (fun ls hl => ?_)
    refine lv_aload_nN (pc := 9) hx hb dX8_price_9 rfl (lv_at hl 0 rfl) ?_
    refine lv_ifnonnullN (pc := 10) hx hb dX8_price_10 ?_
    refine lv_iconst (pc := 13) (v := 0) hx hb dX8_price_13 (by decide) ?_
    refine lv_goto (pc := 14) (tgt := 21) hx hb dX8_price_14 (by decide) ?_
    obtain ⟨rfl, rfl⟩ := inj2 h
    exact r_iret X hP hS dX8_price_21
  · have h := onr_s h
    obtain ⟨hq5, h⟩ := grd_inv h
    refine cl_X8_56 X hP hS (kf_8_stage hk0).1 (As := [.int a1]) (rest := []) (c_X2_lotAt l G (kf_8_stage hk0).1 e2) ⟨rfl, rfl, Nat.le_of_ble_eq_true rfl, Nat.le_of_ble_eq_true rfl⟩ rfl hl.1 rfl (Nat.le_of_ble_eq_true rfl) ⟨Nat.zero_le _, Nat.zero_le _⟩ (pc := 5) dX8_price_5 (fun H locs hP hS => ?_)
    change W p l e _ s m _ below meth c H locs _ _ _ (F0 m (5 + 3) ls (.ref (ga G q4) :: []))
    refine lv_astore_n (pc := 8) (lv' := [(2, .ref (ga G q4)), (0, .ref (ga G k0)), (1, .int a1)]) hx hb dX8_price_8 rfl hl (by decide) rfl (fun ls hl => ?_)
    refine lv_aload_n (pc := 9) hx hb dX8_price_9 rfl (lv_at hl 0 rfl) ?_
    refine lv_ifnonnull (pc := 10) (tgt := 17) hx hb dX8_price_10 (by decide) ?_
    refine lv_aload_n (pc := 17) hx hb dX8_price_17 rfl (lv_at hl 0 rfl) ?_
    refine gt_X8_60 X hP hq5 dX8_price_18 ?_
    obtain ⟨rfl, rfl⟩ := inj2 h
    exact r_iret X hP hS dX8_price_21
def f_X8_winner (k0 : Nat) (a1 : Int32) (σ : Mem) : Option (Int32 × Mem) :=
  bd2 (f_X2_lotAt (k0 + 1) a1 σ) fun r3 σ1 =>
  onr r3 (
    some ((-9 : Int32), σ1)
    ) fun q4 => grd (kd q4 = 3) <|
    some ((gI σ1 q4 4), σ1)
abbrev RM_X8_winner : Room := { frames := 1, cells := 0, slots := 0, locals := 21 }
set_option maxHeartbeats 4000000 in
set_option maxRecDepth 100000 in
theorem c_X8_winner (l : Launch) (G : Gh) {k0 : Nat} {a1 : Int32} {σ : Mem} {rr : Int32} {σr : Mem} (hk0 : kd k0 = 8) (h : f_X8_winner k0 a1 σ = some (rr, σr)) : Met l yX8_winner [Cond.code yX8_winner prog_10_method_5_code 3 (some .int)] RM_X8_winner (va_Pc [.ref (ga G k0), .int a1] (Pre G σ)) (QG G (some (.int rr)) σr) 0 0 (AA G) := by
  refine ct_of (by decide) (fun p e s m below meth c X hP => ?_)
  have hx := X.hx
  have hb := X.hb
  have hS : va_S (AA G) s.heap s.heap [] := va_S.rf
  have hl := lv_entry ([.ref (ga G k0), .int a1]) (n := 3) (Nat.le_of_ble_eq_true rfl)
  rw [lg_entry_eq]
  generalize (lg_sl ([.ref (ga G k0), .int a1]) ++ List.replicate (3 - (lg_sl ([.ref (ga G k0), .int a1])).length) Slot.unset).toArray = ls at hl ⊢
  have hl : lv_has ls 3 [(0, .ref (ga G k0)), (1, .int a1)] := hl
  unfold f_X8_winner at h
  refine lv_aload_n (pc := 0) hx hb dX8_winner_0 rfl (lv_at hl 0 rfl) ?_
  refine gt_X8_12 X hP hk0 dX8_winner_1 ?_
  refine lv_iload_n (pc := 4) hx hb dX8_winner_4 rfl (lv_at hl 1 rfl) ?_
  obtain ⟨r3, σ1, e2, h⟩ := bnd2 h
  rcases r3 with _ | q4
  · have h := onr_n h
    refine cl_X8_56 X hP hS (kf_8_stage hk0).1 (As := [.int a1]) (rest := []) (c_X2_lotAt l G (kf_8_stage hk0).1 e2) ⟨rfl, rfl, Nat.le_of_ble_eq_true rfl, Nat.le_of_ble_eq_true rfl⟩ rfl hl.1 rfl (Nat.le_of_ble_eq_true rfl) ⟨Nat.zero_le _, Nat.zero_le _⟩ (pc := 5) dX8_winner_5 (fun H locs hP hS => ?_)
    change W p l e _ s m _ below meth c H locs _ _ _ (F0 m (5 + 3) ls (.null :: []))
    refine lv_astore_nN (pc := 8) (lv' := [(2, .null), (0, .ref (ga G k0)), (1, .int a1)]) hx hb dX8_winner_8 rfl hl (by decide) rfl (fun ls hl => ?_)
    refine lv_aload_nN (pc := 9) hx hb dX8_winner_9 rfl (lv_at hl 0 rfl) ?_
    refine lv_ifnonnullN (pc := 10) hx hb dX8_winner_10 ?_
    refine lv_bipush (pc := 13) (v := (-9)) hx hb dX8_winner_13 (by decide) ?_
    refine lv_goto (pc := 15) (tgt := 22) hx hb dX8_winner_15 (by decide) ?_
    obtain ⟨rfl, rfl⟩ := inj2 h
    exact r_iret X hP hS dX8_winner_22
  · have h := onr_s h
    obtain ⟨hq5, h⟩ := grd_inv h
    refine cl_X8_56 X hP hS (kf_8_stage hk0).1 (As := [.int a1]) (rest := []) (c_X2_lotAt l G (kf_8_stage hk0).1 e2) ⟨rfl, rfl, Nat.le_of_ble_eq_true rfl, Nat.le_of_ble_eq_true rfl⟩ rfl hl.1 rfl (Nat.le_of_ble_eq_true rfl) ⟨Nat.zero_le _, Nat.zero_le _⟩ (pc := 5) dX8_winner_5 (fun H locs hP hS => ?_)
    change W p l e _ s m _ below meth c H locs _ _ _ (F0 m (5 + 3) ls (.ref (ga G q4) :: []))
    refine lv_astore_n (pc := 8) (lv' := [(2, .ref (ga G q4)), (0, .ref (ga G k0)), (1, .int a1)]) hx hb dX8_winner_8 rfl hl (by decide) rfl (fun ls hl => ?_)
    refine lv_aload_n (pc := 9) hx hb dX8_winner_9 rfl (lv_at hl 0 rfl) ?_
    refine lv_ifnonnull (pc := 10) (tgt := 18) hx hb dX8_winner_10 (by decide) ?_
    refine lv_aload_n (pc := 18) hx hb dX8_winner_18 rfl (lv_at hl 0 rfl) ?_
    refine gt_X8_65 X hP hq5 dX8_winner_19 ?_
    obtain ⟨rfl, rfl⟩ := inj2 h
    exact r_iret X hP hS dX8_winner_22
def f_X8_forgetBest (k0 : Nat) (σ : Mem) : Option Mem :=
  bd1 (some (pI σ k0 1 (-3 : Int32))) fun σ1 =>
  bd1 (some (pI σ1 k0 2 (0 : Int32))) fun σ3 =>
  some σ3
abbrev RM_X8_forgetBest : Room := { frames := 0, cells := 0, slots := 0, locals := 0 }
set_option maxHeartbeats 4000000 in
set_option maxRecDepth 100000 in
theorem c_X8_forgetBest (l : Launch) (G : Gh) {k0 : Nat} {σ : Mem} {σr : Mem} (hk0 : kd k0 = 8) (h : f_X8_forgetBest k0 σ = some σr) : Met l yX8_forgetBest [Cond.code yX8_forgetBest prog_10_method_6_code 1 none] RM_X8_forgetBest (va_Pc [.ref (ga G k0)] (Pre G σ)) (QG G none σr) 0 0 (AA G) := by
  refine ct_of (by decide) (fun p e s m below meth c X hP => ?_)
  have hx := X.hx
  have hb := X.hb
  have hS : va_S (AA G) s.heap s.heap [] := va_S.rf
  have hl := lv_entry ([.ref (ga G k0)]) (n := 1) (Nat.le_of_ble_eq_true rfl)
  rw [lg_entry_eq]
  generalize (lg_sl ([.ref (ga G k0)]) ++ List.replicate (1 - (lg_sl ([.ref (ga G k0)])).length) Slot.unset).toArray = ls at hl ⊢
  have hl : lv_has ls 1 [(0, .ref (ga G k0))] := hl
  unfold f_X8_forgetBest at h
  refine lv_aload_n (pc := 0) hx hb dX8_forgetBest_0 rfl (lv_at hl 0 rfl) ?_
  refine lv_bipush (pc := 1) (v := (-3)) hx hb dX8_forgetBest_1 (by decide) ?_
  obtain ⟨σ1, e2, h⟩ := bnd1 h
  refine pt_X8_18 X hP hS hk0 dX8_forgetBest_3 (fun H locs hP hS => ?_)
  rw [Option.some.inj e2] at hP
  refine lv_aload_n (pc := 6) hx hb dX8_forgetBest_6 rfl (lv_at hl 0 rfl) ?_
  refine lv_iconst (pc := 7) (v := 0) hx hb dX8_forgetBest_7 (by decide) ?_
  obtain ⟨σ3, e4, h⟩ := bnd1 h
  refine pt_X8_22 X hP hS hk0 dX8_forgetBest_8 (fun H locs hP hS => ?_)
  rw [Option.some.inj e4] at hP
  obtain rfl := Option.some.inj h
  exact r_vret X hP hS dX8_forgetBest_11
def f_X8_weighLeast (k0 : Nat) (a1 : Int32) (a2 : Int32) (σ : Mem) : Option Mem :=
  if (gI σ k0 1) = (-3 : Int32) then
    bd1 (some (pI σ k0 1 a1)) fun σ2 =>
    bd1 (some (pI σ2 k0 2 a2)) fun σ4 =>
    some σ4
  else
    if (gI σ k0 2) ≤ a2 then
      some σ
    else
      bd1 (some (pI σ k0 1 a1)) fun σ7 =>
      bd1 (some (pI σ7 k0 2 a2)) fun σ9 =>
      some σ9
abbrev RM_X8_weighLeast : Room := { frames := 0, cells := 0, slots := 0, locals := 0 }
set_option maxHeartbeats 4000000 in
set_option maxRecDepth 100000 in
theorem c_X8_weighLeast (l : Launch) (G : Gh) {k0 : Nat} {a1 : Int32} {a2 : Int32} {σ : Mem} {σr : Mem} (hk0 : kd k0 = 8) (h : f_X8_weighLeast k0 a1 a2 σ = some σr) : Met l yX8_weighLeast [Cond.code yX8_weighLeast prog_10_method_7_code 3 none] RM_X8_weighLeast (va_Pc [.ref (ga G k0), .int a1, .int a2] (Pre G σ)) (QG G none σr) 0 0 (AA G) := by
  refine ct_of (by decide) (fun p e s m below meth c X hP => ?_)
  have hx := X.hx
  have hb := X.hb
  have hS : va_S (AA G) s.heap s.heap [] := va_S.rf
  have hl := lv_entry ([.ref (ga G k0), .int a1, .int a2]) (n := 3) (Nat.le_of_ble_eq_true rfl)
  rw [lg_entry_eq]
  generalize (lg_sl ([.ref (ga G k0), .int a1, .int a2]) ++ List.replicate (3 - (lg_sl ([.ref (ga G k0), .int a1, .int a2])).length) Slot.unset).toArray = ls at hl ⊢
  have hl : lv_has ls 3 [(0, .ref (ga G k0)), (1, .int a1), (2, .int a2)] := hl
  unfold f_X8_weighLeast at h
  refine lv_aload_n (pc := 0) hx hb dX8_weighLeast_0 rfl (lv_at hl 0 rfl) ?_
  refine gt_X8_18 X hP hk0 dX8_weighLeast_1 ?_
  refine lv_bipush (pc := 4) (v := (-3)) hx hb dX8_weighLeast_4 (by decide) ?_
  refine lv_icmp_eq (pc := 6) (tgt := 17) hx hb dX8_weighLeast_6 (by decide) (fun c1 => ?_) (fun c1 => ?_)
  · have h := ipos c1 h
    refine lv_aload_n (pc := 17) hx hb dX8_weighLeast_17 rfl (lv_at hl 0 rfl) ?_
    refine lv_iload_n (pc := 18) hx hb dX8_weighLeast_18 rfl (lv_at hl 1 rfl) ?_
    obtain ⟨σ2, e3, h⟩ := bnd1 h
    refine pt_X8_18 X hP hS hk0 dX8_weighLeast_19 (fun H locs hP hS => ?_)
    rw [Option.some.inj e3] at hP
    refine lv_aload_n (pc := 22) hx hb dX8_weighLeast_22 rfl (lv_at hl 0 rfl) ?_
    refine lv_iload_n (pc := 23) hx hb dX8_weighLeast_23 rfl (lv_at hl 2 rfl) ?_
    obtain ⟨σ4, e5, h⟩ := bnd1 h
    refine pt_X8_22 X hP hS hk0 dX8_weighLeast_24 (fun H locs hP hS => ?_)
    rw [Option.some.inj e5] at hP
    obtain rfl := Option.some.inj h
    exact r_vret X hP hS dX8_weighLeast_27
  · have h := ineg c1 h
    refine lv_iload_n (pc := 9) hx hb dX8_weighLeast_9 rfl (lv_at hl 2 rfl) ?_
    refine lv_aload_n (pc := 10) hx hb dX8_weighLeast_10 rfl (lv_at hl 0 rfl) ?_
    refine gt_X8_22 X hP hk0 dX8_weighLeast_11 ?_
    refine lv_icmp_ge (pc := 14) (tgt := 27) hx hb dX8_weighLeast_14 (by decide) (fun c6 => ?_) (fun c6 => ?_)
    · have h := ipos c6 h
      obtain rfl := Option.some.inj h
      exact r_vret X hP hS dX8_weighLeast_27
    · have h := ineg c6 h
      refine lv_aload_n (pc := 17) hx hb dX8_weighLeast_17 rfl (lv_at hl 0 rfl) ?_
      refine lv_iload_n (pc := 18) hx hb dX8_weighLeast_18 rfl (lv_at hl 1 rfl) ?_
      obtain ⟨σ7, e8, h⟩ := bnd1 h
      refine pt_X8_18 X hP hS hk0 dX8_weighLeast_19 (fun H locs hP hS => ?_)
      rw [Option.some.inj e8] at hP
      refine lv_aload_n (pc := 22) hx hb dX8_weighLeast_22 rfl (lv_at hl 0 rfl) ?_
      refine lv_iload_n (pc := 23) hx hb dX8_weighLeast_23 rfl (lv_at hl 2 rfl) ?_
      obtain ⟨σ9, e10, h⟩ := bnd1 h
      refine pt_X8_22 X hP hS hk0 dX8_weighLeast_24 (fun H locs hP hS => ?_)
      rw [Option.some.inj e10] at hP
      obtain rfl := Option.some.inj h
      exact r_vret X hP hS dX8_weighLeast_27
def f_X8_weighGreatest (k0 : Nat) (a1 : Int32) (a2 : Int32) (σ : Mem) : Option Mem :=
  if (gI σ k0 1) = (-3 : Int32) then
    bd1 (some (pI σ k0 1 a1)) fun σ2 =>
    bd1 (some (pI σ2 k0 2 a2)) fun σ4 =>
    some σ4
  else
    if a2 ≤ (gI σ k0 2) then
      some σ
    else
      bd1 (some (pI σ k0 1 a1)) fun σ7 =>
      bd1 (some (pI σ7 k0 2 a2)) fun σ9 =>
      some σ9
abbrev RM_X8_weighGreatest : Room := { frames := 0, cells := 0, slots := 0, locals := 0 }
set_option maxHeartbeats 4000000 in
set_option maxRecDepth 100000 in
theorem c_X8_weighGreatest (l : Launch) (G : Gh) {k0 : Nat} {a1 : Int32} {a2 : Int32} {σ : Mem} {σr : Mem} (hk0 : kd k0 = 8) (h : f_X8_weighGreatest k0 a1 a2 σ = some σr) : Met l yX8_weighGreatest [Cond.code yX8_weighGreatest prog_10_method_8_code 3 none] RM_X8_weighGreatest (va_Pc [.ref (ga G k0), .int a1, .int a2] (Pre G σ)) (QG G none σr) 0 0 (AA G) := by
  refine ct_of (by decide) (fun p e s m below meth c X hP => ?_)
  have hx := X.hx
  have hb := X.hb
  have hS : va_S (AA G) s.heap s.heap [] := va_S.rf
  have hl := lv_entry ([.ref (ga G k0), .int a1, .int a2]) (n := 3) (Nat.le_of_ble_eq_true rfl)
  rw [lg_entry_eq]
  generalize (lg_sl ([.ref (ga G k0), .int a1, .int a2]) ++ List.replicate (3 - (lg_sl ([.ref (ga G k0), .int a1, .int a2])).length) Slot.unset).toArray = ls at hl ⊢
  have hl : lv_has ls 3 [(0, .ref (ga G k0)), (1, .int a1), (2, .int a2)] := hl
  unfold f_X8_weighGreatest at h
  refine lv_aload_n (pc := 0) hx hb dX8_weighGreatest_0 rfl (lv_at hl 0 rfl) ?_
  refine gt_X8_18 X hP hk0 dX8_weighGreatest_1 ?_
  refine lv_bipush (pc := 4) (v := (-3)) hx hb dX8_weighGreatest_4 (by decide) ?_
  refine lv_icmp_eq (pc := 6) (tgt := 17) hx hb dX8_weighGreatest_6 (by decide) (fun c1 => ?_) (fun c1 => ?_)
  · have h := ipos c1 h
    refine lv_aload_n (pc := 17) hx hb dX8_weighGreatest_17 rfl (lv_at hl 0 rfl) ?_
    refine lv_iload_n (pc := 18) hx hb dX8_weighGreatest_18 rfl (lv_at hl 1 rfl) ?_
    obtain ⟨σ2, e3, h⟩ := bnd1 h
    refine pt_X8_18 X hP hS hk0 dX8_weighGreatest_19 (fun H locs hP hS => ?_)
    rw [Option.some.inj e3] at hP
    refine lv_aload_n (pc := 22) hx hb dX8_weighGreatest_22 rfl (lv_at hl 0 rfl) ?_
    refine lv_iload_n (pc := 23) hx hb dX8_weighGreatest_23 rfl (lv_at hl 2 rfl) ?_
    obtain ⟨σ4, e5, h⟩ := bnd1 h
    refine pt_X8_22 X hP hS hk0 dX8_weighGreatest_24 (fun H locs hP hS => ?_)
    rw [Option.some.inj e5] at hP
    obtain rfl := Option.some.inj h
    exact r_vret X hP hS dX8_weighGreatest_27
  · have h := ineg c1 h
    refine lv_iload_n (pc := 9) hx hb dX8_weighGreatest_9 rfl (lv_at hl 2 rfl) ?_
    refine lv_aload_n (pc := 10) hx hb dX8_weighGreatest_10 rfl (lv_at hl 0 rfl) ?_
    refine gt_X8_22 X hP hk0 dX8_weighGreatest_11 ?_
    refine lv_icmp_le (pc := 14) (tgt := 27) hx hb dX8_weighGreatest_14 (by decide) (fun c6 => ?_) (fun c6 => ?_)
    · have h := ipos c6 h
      obtain rfl := Option.some.inj h
      exact r_vret X hP hS dX8_weighGreatest_27
    · have h := ineg c6 h
      refine lv_aload_n (pc := 17) hx hb dX8_weighGreatest_17 rfl (lv_at hl 0 rfl) ?_
      refine lv_iload_n (pc := 18) hx hb dX8_weighGreatest_18 rfl (lv_at hl 1 rfl) ?_
      obtain ⟨σ7, e8, h⟩ := bnd1 h
      refine pt_X8_18 X hP hS hk0 dX8_weighGreatest_19 (fun H locs hP hS => ?_)
      rw [Option.some.inj e8] at hP
      refine lv_aload_n (pc := 22) hx hb dX8_weighGreatest_22 rfl (lv_at hl 0 rfl) ?_
      refine lv_iload_n (pc := 23) hx hb dX8_weighGreatest_23 rfl (lv_at hl 2 rfl) ?_
      obtain ⟨σ9, e10, h⟩ := bnd1 h
      refine pt_X8_22 X hP hS hk0 dX8_weighGreatest_24 (fun H locs hP hS => ?_)
      rw [Option.some.inj e10] at hP
      obtain rfl := Option.some.inj h
      exact r_vret X hP hS dX8_weighGreatest_27
def f_X2_takeCall_IIN (k0 : Nat) (a1 : Int32) (a2 : Int32) (σ : Mem) : Option Mem :=
  bd1 (some (pI σ k0 10 a2)) fun σ1 =>
  bd1 (some (pI σ1 k0 11 a1)) fun σ3 =>
  some σ3
abbrev RM_X2_takeCall_IIN : Room := { frames := 0, cells := 0, slots := 0, locals := 0 }
set_option maxHeartbeats 4000000 in
set_option maxRecDepth 100000 in
theorem c_X2_takeCall_IIN (l : Launch) (G : Gh) {k0 : Nat} {a1 : Int32} {a2 : Int32} {σ : Mem} {σr : Mem} (hk0 : kd k0 = 2) (h : f_X2_takeCall_IIN k0 a1 a2 σ = some σr) : Met l yX2_takeCall [Cond.code yX2_takeCall prog_4_method_13_code 4 none] RM_X2_takeCall_IIN (va_Pc [.ref (ga G k0), .int a1, .int a2, .null] (Pre G σ)) (QG G none σr) 0 0 (AA G) := by
  refine ct_of (by decide) (fun p e s m below meth c X hP => ?_)
  have hx := X.hx
  have hb := X.hb
  have hS : va_S (AA G) s.heap s.heap [] := va_S.rf
  have hl := lv_entry ([.ref (ga G k0), .int a1, .int a2, .null]) (n := 4) (Nat.le_of_ble_eq_true rfl)
  rw [lg_entry_eq]
  generalize (lg_sl ([.ref (ga G k0), .int a1, .int a2, .null]) ++ List.replicate (4 - (lg_sl ([.ref (ga G k0), .int a1, .int a2, .null])).length) Slot.unset).toArray = ls at hl ⊢
  have hl : lv_has ls 4 [(0, .ref (ga G k0)), (1, .int a1), (2, .int a2), (3, .null)] := hl
  unfold f_X2_takeCall_IIN at h
  refine lv_aload_n (pc := 0) hx hb dX2_takeCall_0 rfl (lv_at hl 0 rfl) ?_
  refine lv_iload_n (pc := 1) hx hb dX2_takeCall_1 rfl (lv_at hl 2 rfl) ?_
  obtain ⟨σ1, e2, h⟩ := bnd1 h
  refine pt_X2_49 X hP hS hk0 dX2_takeCall_2 (fun H locs hP hS => ?_)
  rw [Option.some.inj e2] at hP
  refine lv_aload_n (pc := 5) hx hb dX2_takeCall_5 rfl (lv_at hl 0 rfl) ?_
  refine lv_iload_n (pc := 6) hx hb dX2_takeCall_6 rfl (lv_at hl 1 rfl) ?_
  obtain ⟨σ3, e4, h⟩ := bnd1 h
  refine pt_X2_52 X hP hS hk0 dX2_takeCall_7 (fun H locs hP hS => ?_)
  rw [Option.some.inj e4] at hP
  refine lv_aload_nN (pc := 10) hx hb dX2_takeCall_10 rfl (lv_at hl 3 rfl) ?_
  refine lv_ifnullN (pc := 11) (tgt := 24) hx hb dX2_takeCall_11 (by decide) ?_
  obtain rfl := Option.some.inj h
  exact r_vret X hP hS dX2_takeCall_24
def F_X2_goOneTick_N_2 (k0z : Nat) (rec1 : Int32 → Mem → Option Mem) : Int32 → Mem → Option Mem := fun v2 σ =>
  if (gI σ k0z 3) ≤ v2 then
    bd2 (f_X2_burnsNow k0z σ) fun r4 σ2 =>
    bd1 (some (pI σ2 k0z 9 ((gI σ k0z 9) + r4))) fun σ5 =>
    bd1 (some (pI σ5 k0z 8 ((gI σ5 k0z 8) + (1 : Int32)))) fun σ7 =>
    bd2 (f_X2_burning k0z σ7) fun r11 σ9 =>
    onr r11 (
      some σ9
      ) fun q12 => grd (kd q12 = 3) <|
      if (gI σ9 k0z 9) < (gI σ9 q12 0) then
        some σ9
      else
        bd1 (f_X2_putOut k0z σ9) fun σ15 =>
        some σ15
  else
    bd2 (f_X2_callOf k0z v2 σ) fun r19 σ17 =>
    if r19 ≤ (0 : Int32) then
      rec1 (v2 + (1 : Int32)) σ17
    else
      bd1 (f_X2_takeCall_IIN k0z v2 r19 σ17) fun σ21 =>
      rec1 (v2 + (1 : Int32)) σ21
def f_X2_goOneTick_N (k0 : Nat) (σ : Mem) : Option Mem :=
  iterF (F_X2_goOneTick_N_2 k0) (fun _ _ => none) FU (0 : Int32) σ
abbrev RM_X2_goOneTick_N : Room := { frames := 3, cells := 0, slots := 0, locals := 67 }
set_option maxHeartbeats 4000000 in
set_option maxRecDepth 100000 in
theorem w_X2_goOneTick_N_2 {l : Launch} {G : Gh} {p : Program} {e : Env} {s : State} {m : MethodId} {args : Array Value} {below : List Frame} {meth : Method} {c : Code} (X : Cx G p s m args meth c prog_4_method_15_code RX2 4 none) {k0z : Nat} (hz0 : kd k0z = 2) {σr : Mem} : ∀ (n : Nat) (v2 : Int32) (σ : Mem) (H : Heap) (locs : List Loc) (ls : Array Slot), PW G σ H → va_S (AA G) s.heap H locs → lv_has ls 4 [(0, .ref (ga G k0z)), (1, .null), (2, .int v2)] → iterF (F_X2_goOneTick_N_2 k0z) (fun _ _ => none) n v2 σ = some σr → W p l e RM_X2_goOneTick_N s m args below meth c H locs 0 0 (MQ below (QG G none σr) args s 0 0 (AA G)) (F0 m 2 ls []) := by
  have hx := X.hx
  have hb := X.hb
  intro n
  induction n with
  | zero => intro v2 σ H locs ls hP hS hl h; exact nnone (α := Mem) h
  | succ n ih1 =>
    intro v2 σ H locs ls hP hS hl h
    have h : F_X2_goOneTick_N_2 k0z (iterF (F_X2_goOneTick_N_2 k0z) (fun _ _ => none) n) v2 σ = some _ := h
    unfold F_X2_goOneTick_N_2 at h
    refine lv_iload_n (pc := 2) hx hb dX2_goOneTick_2 rfl (lv_at hl 2 rfl) ?_
    refine lv_aload_n (pc := 3) hx hb dX2_goOneTick_3 rfl (lv_at hl 0 rfl) ?_
    refine gt_X2_27 X hP hz0 dX2_goOneTick_4 ?_
    refine lv_icmp_ge (pc := 7) (tgt := 33) hx hb dX2_goOneTick_7 (by decide) (fun c1 => ?_) (fun c1 => ?_)
    · have h := ipos c1 h
      refine lv_aload_n (pc := 33) hx hb dX2_goOneTick_33 rfl (lv_at hl 0 rfl) ?_
      refine lv_dup (pc := 34) hx hb dX2_goOneTick_34 rfl ?_
      refine gt_X2_46 X hP hz0 dX2_goOneTick_35 ?_
      refine lv_aload_n (pc := 38) hx hb dX2_goOneTick_38 rfl (lv_at hl 0 rfl) ?_
      obtain ⟨r4, σ2, e3, h⟩ := bnd2 h
      refine cl_X2_102 X hP hS hz0 (As := []) (rest := [.int (gI σ k0z 9), .ref (ga G k0z)]) (c_X2_burnsNow l G hz0 e3) ⟨rfl, rfl, Nat.le_of_ble_eq_true rfl, Nat.le_of_ble_eq_true rfl⟩ rfl hl.1 rfl (Nat.le_of_ble_eq_true rfl) ⟨Nat.zero_le _, Nat.zero_le _⟩ (pc := 39) dX2_goOneTick_39 (fun H locs hP hS => ?_)
      change W p l e _ s m _ below meth c H locs _ _ _ (F0 m (39 + 3) ls (.int r4 :: [.int (gI σ k0z 9), .ref (ga G k0z)]))
      refine lv_iadd (pc := 42) hx hb dX2_goOneTick_42 ?_
      obtain ⟨σ5, e6, h⟩ := bnd1 h
      refine pt_X2_46 X hP hS hz0 dX2_goOneTick_43 (fun H locs hP hS => ?_)
      rw [Option.some.inj e6] at hP
      refine lv_aload_n (pc := 46) hx hb dX2_goOneTick_46 rfl (lv_at hl 0 rfl) ?_
      refine lv_dup (pc := 47) hx hb dX2_goOneTick_47 rfl ?_
      refine gt_X2_43 X hP hz0 dX2_goOneTick_48 ?_
      refine lv_iconst (pc := 51) (v := 1) hx hb dX2_goOneTick_51 (by decide) ?_
      refine lv_iadd (pc := 52) hx hb dX2_goOneTick_52 ?_
      obtain ⟨σ7, e8, h⟩ := bnd1 h
      refine pt_X2_43 X hP hS hz0 dX2_goOneTick_53 (fun H locs hP hS => ?_)
      rw [Option.some.inj e8] at hP
      refine lv_aload_n (pc := 56) hx hb dX2_goOneTick_56 rfl (lv_at hl 0 rfl) ?_
      obtain ⟨r11, σ9, e10, h⟩ := bnd2 h
      rcases r11 with _ | q12
      · have h := onr_n h
        refine cl_X2_91 X hP hS hz0 (As := []) (rest := []) (c_X2_burning l G hz0 e10) ⟨rfl, rfl, Nat.le_of_ble_eq_true rfl, Nat.le_of_ble_eq_true rfl⟩ rfl hl.1 rfl (Nat.le_of_ble_eq_true rfl) ⟨Nat.zero_le _, Nat.zero_le _⟩ (pc := 57) dX2_goOneTick_57 (fun H locs hP hS => ?_)
        change W p l e _ s m _ below meth c H locs _ _ _ (F0 m (57 + 3) ls (.null :: []))
        refine lv_astore_nN (pc := 60) (lv' := [(2, .null), (0, .ref (ga G k0z)), (1, .null)]) hx hb dX2_goOneTick_60 rfl hl (by decide) rfl (fun ls hl => ?_)
        refine lv_aload_nN (pc := 61) hx hb dX2_goOneTick_61 rfl (lv_at hl 0 rfl) ?_
        refine lv_ifnullN (pc := 62) (tgt := 80) hx hb dX2_goOneTick_62 (by decide) ?_
        obtain rfl := Option.some.inj h
        exact r_vret X hP hS dX2_goOneTick_80
      · have h := onr_s h
        obtain ⟨hq13, h⟩ := grd_inv h
        refine cl_X2_91 X hP hS hz0 (As := []) (rest := []) (c_X2_burning l G hz0 e10) ⟨rfl, rfl, Nat.le_of_ble_eq_true rfl, Nat.le_of_ble_eq_true rfl⟩ rfl hl.1 rfl (Nat.le_of_ble_eq_true rfl) ⟨Nat.zero_le _, Nat.zero_le _⟩ (pc := 57) dX2_goOneTick_57 (fun H locs hP hS => ?_)
        change W p l e _ s m _ below meth c H locs _ _ _ (F0 m (57 + 3) ls (.ref (ga G q12) :: []))
        refine lv_astore_n (pc := 60) (lv' := [(2, .ref (ga G q12)), (0, .ref (ga G k0z)), (1, .null)]) hx hb dX2_goOneTick_60 rfl hl (by decide) rfl (fun ls hl => ?_)
        refine lv_aload_n (pc := 61) hx hb dX2_goOneTick_61 rfl (lv_at hl 0 rfl) ?_
        refine lv_ifnull (pc := 62) hx hb dX2_goOneTick_62 ?_
        refine lv_aload_n (pc := 65) hx hb dX2_goOneTick_65 rfl (lv_at hl 1 rfl) ?_
        refine gt_X2_46 X hP hz0 dX2_goOneTick_66 ?_
        refine lv_aload_n (pc := 69) hx hb dX2_goOneTick_69 rfl (lv_at hl 0 rfl) ?_
        refine gt_X2_99 X hP hq13 dX2_goOneTick_70 ?_
        refine lv_icmp_lt (pc := 73) (tgt := 80) hx hb dX2_goOneTick_73 (by decide) (fun c14 => ?_) (fun c14 => ?_)
        · have h := ipos c14 h
          obtain rfl := Option.some.inj h
          exact r_vret X hP hS dX2_goOneTick_80
        · have h := ineg c14 h
          refine lv_aload_n (pc := 76) hx hb dX2_goOneTick_76 rfl (lv_at hl 1 rfl) ?_
          obtain ⟨σ15, e16, h⟩ := bnd1 h
          refine cl_X2_137 X hP hS hz0 (As := []) (rest := []) (c_X2_putOut l G hz0 e16) ⟨rfl, rfl, Nat.le_of_ble_eq_true rfl, Nat.le_of_ble_eq_true rfl⟩ rfl hl.1 rfl (Nat.le_of_ble_eq_true rfl) ⟨Nat.zero_le _, Nat.zero_le _⟩ (pc := 77) dX2_goOneTick_77 (fun H locs hP hS => ?_)
          change W p l e _ s m _ below meth c H locs _ _ _ (F0 m (77 + 3) ls [])
          obtain rfl := Option.some.inj h
          exact r_vret X hP hS dX2_goOneTick_80
    · have h := ineg c1 h
      refine lv_aload_n (pc := 10) hx hb dX2_goOneTick_10 rfl (lv_at hl 0 rfl) ?_
      refine lv_iload_n (pc := 11) hx hb dX2_goOneTick_11 rfl (lv_at hl 2 rfl) ?_
      obtain ⟨r19, σ17, e18, h⟩ := bnd2 h
      refine cl_X2_130 X hP hS hz0 (As := [.int v2]) (rest := []) (c_X2_callOf l G hz0 e18) ⟨rfl, rfl, Nat.le_of_ble_eq_true rfl, Nat.le_of_ble_eq_true rfl⟩ rfl hl.1 rfl (Nat.le_of_ble_eq_true rfl) ⟨Nat.zero_le _, Nat.zero_le _⟩ (pc := 12) dX2_goOneTick_12 (fun H locs hP hS => ?_)
      change W p l e _ s m _ below meth c H locs _ _ _ (F0 m (12 + 3) ls (.int r19 :: []))
      refine lv_istore_n (pc := 15) (lv' := [(3, .int r19), (0, .ref (ga G k0z)), (1, .null), (2, .int v2)]) hx hb dX2_goOneTick_15 rfl hl (by decide) rfl (fun ls hl => ?_)
      refine lv_iload_n (pc := 16) hx hb dX2_goOneTick_16 rfl (lv_at hl 0 rfl) ?_
      refine lv_if_le (pc := 17) (tgt := 27) hx hb dX2_goOneTick_17 (by decide) (fun c20 => ?_) (fun c20 => ?_)
      · have h := ipos c20 h
        refine lv_iinc (pc := 27) (v := (v2 + (1 : Int32))) (lv' := [(2, .int (v2 + (1 : Int32))), (3, .int r19), (0, .ref (ga G k0z)), (1, .null)]) hx hb dX2_goOneTick_27 hl (k := 3) rfl (congrArg (fun z => v2 + z) (by decide)) (by decide) rfl (fun ls hl => ?_)
        refine lv_goto (pc := 30) (tgt := 2) hx hb dX2_goOneTick_30 (by decide) ?_
        exact ih1 _ _ _ _ _ hP hS (lv_sub hl [2, 3, 0] rfl) h
      · have h := ineg c20 h
        refine lv_aload_n (pc := 20) hx hb dX2_goOneTick_20 rfl (lv_at hl 1 rfl) ?_
        refine lv_iload_n (pc := 21) hx hb dX2_goOneTick_21 rfl (lv_at hl 3 rfl) ?_
        refine lv_iload_n (pc := 22) hx hb dX2_goOneTick_22 rfl (lv_at hl 0 rfl) ?_
        refine lv_aload_nN (pc := 23) hx hb dX2_goOneTick_23 rfl (lv_at hl 2 rfl) ?_
        obtain ⟨σ21, e22, h⟩ := bnd1 h
        refine cl_X2_133 X hP hS hz0 (As := [.int v2, .int r19, .null]) (rest := []) (c_X2_takeCall_IIN l G hz0 e22) ⟨rfl, rfl, Nat.le_of_ble_eq_true rfl, Nat.le_of_ble_eq_true rfl⟩ rfl hl.1 rfl (Nat.le_of_ble_eq_true rfl) ⟨Nat.zero_le _, Nat.zero_le _⟩ (pc := 24) dX2_goOneTick_24 (fun H locs hP hS => ?_)
        change W p l e _ s m _ below meth c H locs _ _ _ (F0 m (24 + 3) ls [])
        refine lv_iinc (pc := 27) (v := (v2 + (1 : Int32))) (lv' := [(2, .int (v2 + (1 : Int32))), (3, .int r19), (0, .ref (ga G k0z)), (1, .null)]) hx hb dX2_goOneTick_27 hl (k := 3) rfl (congrArg (fun z => v2 + z) (by decide)) (by decide) rfl (fun ls hl => ?_)
        refine lv_goto (pc := 30) (tgt := 2) hx hb dX2_goOneTick_30 (by decide) ?_
        exact ih1 _ _ _ _ _ hP hS (lv_sub hl [2, 3, 0] rfl) h
set_option maxHeartbeats 4000000 in
set_option maxRecDepth 100000 in
theorem c_X2_goOneTick_N (l : Launch) (G : Gh) {k0 : Nat} {σ : Mem} {σr : Mem} (hk0 : kd k0 = 2) (h : f_X2_goOneTick_N k0 σ = some σr) : Met l yX2_goOneTick [Cond.code yX2_goOneTick prog_4_method_15_code 4 none] RM_X2_goOneTick_N (va_Pc [.ref (ga G k0), .null] (Pre G σ)) (QG G none σr) 0 0 (AA G) := by
  refine ct_of (by decide) (fun p e s m below meth c X hP => ?_)
  have hx := X.hx
  have hb := X.hb
  have hS : va_S (AA G) s.heap s.heap [] := va_S.rf
  have hl := lv_entry ([.ref (ga G k0), .null]) (n := 4) (Nat.le_of_ble_eq_true rfl)
  rw [lg_entry_eq]
  generalize (lg_sl ([.ref (ga G k0), .null]) ++ List.replicate (4 - (lg_sl ([.ref (ga G k0), .null])).length) Slot.unset).toArray = ls at hl ⊢
  have hl : lv_has ls 4 [(0, .ref (ga G k0)), (1, .null)] := hl
  unfold f_X2_goOneTick_N at h
  refine lv_iconst (pc := 0) (v := 0) hx hb dX2_goOneTick_0 (by decide) ?_
  refine lv_istore_n (pc := 1) (lv' := [(2, .int (0 : Int32)), (0, .ref (ga G k0)), (1, .null)]) hx hb dX2_goOneTick_1 rfl hl (by decide) rfl (fun ls hl => ?_)
  exact w_X2_goOneTick_N_2 X  hk0  FU _ _ _ _ _ hP hS (lv_sub hl [1, 2, 0] rfl) h
def F_X2_goTicks_IN_5 (k0z : Nat) (p1 : Int32) (rec1 : Int32 → Int32 → Mem → Option (Int32 × Mem)) : Int32 → Int32 → Mem → Option (Int32 × Mem) := fun v3 v4 σ =>
  if p1 ≤ v4 then
    some (v3, σ)
  else
    bd2 (f_X2_burning k0z σ) fun r4 σ2 =>
    onr r4 (
      some (v3, σ2)
      ) fun q5 => grd (kd q5 = 3) <|
      bd1 (f_X2_goOneTick_N k0z σ2) fun σ7 =>
      rec1 (v3 + (1 : Int32)) (v4 + (1 : Int32)) σ7
def f_X2_goTicks_IN (k0 : Nat) (a1 : Int32) (σ : Mem) : Option (Int32 × Mem) :=
  iterF (F_X2_goTicks_IN_5 k0 a1) (fun _ _ _ => none) FU (0 : Int32) (0 : Int32) σ
abbrev RM_X2_goTicks_IN : Room := { frames := 4, cells := 0, slots := 0, locals := 90 }
set_option maxHeartbeats 4000000 in
set_option maxRecDepth 100000 in
theorem w_X2_goTicks_IN_5 {l : Launch} {G : Gh} {p : Program} {e : Env} {s : State} {m : MethodId} {args : Array Value} {below : List Frame} {meth : Method} {c : Code} (X : Cx G p s m args meth c prog_4_method_14_code RX2 5 (some .int)) {k0z : Nat} {p1 : Int32} (hz0 : kd k0z = 2) {rr : Int32} {σr : Mem} : ∀ (n : Nat) (v3 : Int32) (v4 : Int32) (σ : Mem) (H : Heap) (locs : List Loc) (ls : Array Slot), PW G σ H → va_S (AA G) s.heap H locs → lv_has ls 5 [(0, .ref (ga G k0z)), (1, .int p1), (2, .null), (3, .int v3), (4, .int v4)] → iterF (F_X2_goTicks_IN_5 k0z p1) (fun _ _ _ => none) n v3 v4 σ = some (rr, σr) → W p l e RM_X2_goTicks_IN s m args below meth c H locs 0 0 (MQ below (QG G (some (.int rr)) σr) args s 0 0 (AA G)) (F0 m 5 ls []) := by
  have hx := X.hx
  have hb := X.hb
  intro n
  induction n with
  | zero => intro v3 v4 σ H locs ls hP hS hl h; exact nnone (α := (Int32 × Mem)) h
  | succ n ih1 =>
    intro v3 v4 σ H locs ls hP hS hl h
    have h : F_X2_goTicks_IN_5 k0z p1 (iterF (F_X2_goTicks_IN_5 k0z p1) (fun _ _ _ => none) n) v3 v4 σ = some _ := h
    unfold F_X2_goTicks_IN_5 at h
    refine lv_iload (pc := 5) hx hb dX2_goTicks_5 (lv_at hl 4 rfl) ?_
    refine lv_iload_n (pc := 7) hx hb dX2_goTicks_7 rfl (lv_at hl 1 rfl) ?_
    refine lv_icmp_ge (pc := 8) (tgt := 32) hx hb dX2_goTicks_8 (by decide) (fun c1 => ?_) (fun c1 => ?_)
    · have h := ipos c1 h
      refine lv_iload_n (pc := 32) hx hb dX2_goTicks_32 rfl (lv_at hl 3 rfl) ?_
      obtain ⟨rfl, rfl⟩ := inj2 h
      exact r_iret X hP hS dX2_goTicks_33
    · have h := ineg c1 h
      refine lv_aload_n (pc := 11) hx hb dX2_goTicks_11 rfl (lv_at hl 0 rfl) ?_
      obtain ⟨r4, σ2, e3, h⟩ := bnd2 h
      rcases r4 with _ | q5
      · have h := onr_n h
        refine cl_X2_91 X hP hS hz0 (As := []) (rest := []) (c_X2_burning l G hz0 e3) ⟨rfl, rfl, Nat.le_of_ble_eq_true rfl, Nat.le_of_ble_eq_true rfl⟩ rfl hl.1 rfl (Nat.le_of_ble_eq_true rfl) ⟨Nat.zero_le _, Nat.zero_le _⟩ (pc := 12) dX2_goTicks_12 (fun H locs hP hS => ?_)
        change W p l e _ s m _ below meth c H locs _ _ _ (F0 m (12 + 3) ls (.null :: []))
        refine lv_ifnullN (pc := 15) (tgt := 32) hx hb dX2_goTicks_15 (by decide) ?_
        refine lv_iload_n (pc := 32) hx hb dX2_goTicks_32 rfl (lv_at hl 3 rfl) ?_
        obtain ⟨rfl, rfl⟩ := inj2 h
        exact r_iret X hP hS dX2_goTicks_33
      · have h := onr_s h
        obtain ⟨hq6, h⟩ := grd_inv h
        refine cl_X2_91 X hP hS hz0 (As := []) (rest := []) (c_X2_burning l G hz0 e3) ⟨rfl, rfl, Nat.le_of_ble_eq_true rfl, Nat.le_of_ble_eq_true rfl⟩ rfl hl.1 rfl (Nat.le_of_ble_eq_true rfl) ⟨Nat.zero_le _, Nat.zero_le _⟩ (pc := 12) dX2_goTicks_12 (fun H locs hP hS => ?_)
        change W p l e _ s m _ below meth c H locs _ _ _ (F0 m (12 + 3) ls (.ref (ga G q5) :: []))
        refine lv_ifnull (pc := 15) hx hb dX2_goTicks_15 ?_
        refine lv_aload_n (pc := 18) hx hb dX2_goTicks_18 rfl (lv_at hl 0 rfl) ?_
        refine lv_aload_nN (pc := 19) hx hb dX2_goTicks_19 rfl (lv_at hl 2 rfl) ?_
        obtain ⟨σ7, e8, h⟩ := bnd1 h
        refine cl_X2_126 X hP hS hz0 (As := [.null]) (rest := []) (c_X2_goOneTick_N l G hz0 e8) ⟨rfl, rfl, Nat.le_of_ble_eq_true rfl, Nat.le_of_ble_eq_true rfl⟩ rfl hl.1 rfl (Nat.le_of_ble_eq_true rfl) ⟨Nat.zero_le _, Nat.zero_le _⟩ (pc := 20) dX2_goTicks_20 (fun H locs hP hS => ?_)
        change W p l e _ s m _ below meth c H locs _ _ _ (F0 m (20 + 3) ls [])
        refine lv_iinc (pc := 23) (v := (v3 + (1 : Int32))) (lv' := [(3, .int (v3 + (1 : Int32))), (0, .ref (ga G k0z)), (1, .int p1), (2, .null), (4, .int v4)]) hx hb dX2_goTicks_23 hl (k := 3) rfl (congrArg (fun z => v3 + z) (by decide)) (by decide) rfl (fun ls hl => ?_)
        refine lv_iinc (pc := 26) (v := (v4 + (1 : Int32))) (lv' := [(4, .int (v4 + (1 : Int32))), (3, .int (v3 + (1 : Int32))), (0, .ref (ga G k0z)), (1, .int p1), (2, .null)]) hx hb dX2_goTicks_26 hl (k := 4) rfl (congrArg (fun z => v4 + z) (by decide)) (by decide) rfl (fun ls hl => ?_)
        refine lv_goto (pc := 29) (tgt := 5) hx hb dX2_goTicks_29 (by decide) ?_
        exact ih1 _ _ _ _ _ _ hP hS (lv_sub hl [2, 3, 4, 1, 0] rfl) h
set_option maxHeartbeats 4000000 in
set_option maxRecDepth 100000 in
theorem c_X2_goTicks_IN (l : Launch) (G : Gh) {k0 : Nat} {a1 : Int32} {σ : Mem} {rr : Int32} {σr : Mem} (hk0 : kd k0 = 2) (h : f_X2_goTicks_IN k0 a1 σ = some (rr, σr)) : Met l yX2_goTicks [Cond.code yX2_goTicks prog_4_method_14_code 5 (some .int)] RM_X2_goTicks_IN (va_Pc [.ref (ga G k0), .int a1, .null] (Pre G σ)) (QG G (some (.int rr)) σr) 0 0 (AA G) := by
  refine ct_of (by decide) (fun p e s m below meth c X hP => ?_)
  have hx := X.hx
  have hb := X.hb
  have hS : va_S (AA G) s.heap s.heap [] := va_S.rf
  have hl := lv_entry ([.ref (ga G k0), .int a1, .null]) (n := 5) (Nat.le_of_ble_eq_true rfl)
  rw [lg_entry_eq]
  generalize (lg_sl ([.ref (ga G k0), .int a1, .null]) ++ List.replicate (5 - (lg_sl ([.ref (ga G k0), .int a1, .null])).length) Slot.unset).toArray = ls at hl ⊢
  have hl : lv_has ls 5 [(0, .ref (ga G k0)), (1, .int a1), (2, .null)] := hl
  unfold f_X2_goTicks_IN at h
  refine lv_iconst (pc := 0) (v := 0) hx hb dX2_goTicks_0 (by decide) ?_
  refine lv_istore_n (pc := 1) (lv' := [(3, .int (0 : Int32)), (0, .ref (ga G k0)), (1, .int a1), (2, .null)]) hx hb dX2_goTicks_1 rfl hl (by decide) rfl (fun ls hl => ?_)
  refine lv_iconst (pc := 2) (v := 0) hx hb dX2_goTicks_2 (by decide) ?_
  refine lv_istore (pc := 3) (lv' := [(4, .int (0 : Int32)), (3, .int (0 : Int32)), (0, .ref (ga G k0)), (1, .int a1), (2, .null)]) hx hb dX2_goTicks_3 hl (by decide) rfl (fun ls hl => ?_)
  exact w_X2_goTicks_IN_5 X  hk0  FU _ _ _ _ _ _ hP hS (lv_sub hl [2, 3, 4, 1, 0] rfl) h
def F_X8_bestPatience_7 (k0z : Nat) (k1z : Nat) (p2 : Int32) (p3 : Int32) (rec1 : Int32 → Mem → Option (Int32 × Mem)) : Int32 → Mem → Option (Int32 × Mem) := fun v4 σ =>
  if (9 : Int32) < v4 then
    some ((gI σ k0z 1), σ)
  else
    bd1 (f_X8_setStage k0z k1z p3 σ) fun σ4 =>
    bd2 (f_X2_bidderAt (k0z + 1) p2 σ4) fun r8 σ6 =>
    onr r8 (
      bd2 (f_X2_goTicks_IN (k0z + 1) (60 : Int32) σ6) fun r13 σ11 =>
      bd2 (f_X8_winner k0z p3 σ11) fun r16 σ14 =>
      if r16 = p2 then
        bd2 (f_X8_price k0z p3 σ14) fun r20 σ18 =>
        bd1 (f_X8_weighLeast k0z v4 r20 σ18) fun σ21 =>
        rec1 (v4 + (1 : Int32)) σ21
      else
        rec1 (v4 + (1 : Int32)) σ14
      ) fun q9 => grd (kd q9 = 0) <|
      bd1 (some (pI σ6 q9 1 v4)) fun σ23 =>
      bd2 (f_X2_goTicks_IN (k0z + 1) (60 : Int32) σ23) fun r27 σ25 =>
      bd2 (f_X8_winner k0z p3 σ25) fun r30 σ28 =>
      if r30 = p2 then
        bd2 (f_X8_price k0z p3 σ28) fun r34 σ32 =>
        bd1 (f_X8_weighLeast k0z v4 r34 σ32) fun σ35 =>
        rec1 (v4 + (1 : Int32)) σ35
      else
        rec1 (v4 + (1 : Int32)) σ28
def f_X8_bestPatience (k0 : Nat) (a1 : Nat) (a2 : Int32) (a3 : Int32) (σ : Mem) : Option (Int32 × Mem) :=
  bd1 (f_X8_forgetBest k0 σ) fun σ1 =>
  iterF (F_X8_bestPatience_7 k0 a1 a2 a3) (fun _ _ => none) FU (0 : Int32) σ1
abbrev RM_X8_bestPatience : Room := { frames := 5, cells := 0, slots := 0, locals := 114 }
set_option maxHeartbeats 4000000 in
set_option maxRecDepth 100000 in
theorem w_X8_bestPatience_7 {l : Launch} {G : Gh} {p : Program} {e : Env} {s : State} {m : MethodId} {args : Array Value} {below : List Frame} {meth : Method} {c : Code} (X : Cx G p s m args meth c prog_10_method_9_code RX8 6 (some .int)) {k0z : Nat} {k1z : Nat} {p2 : Int32} {p3 : Int32} (hz0 : kd k0z = 8) (hz1 : kd k1z = 2) {rr : Int32} {σr : Mem} : ∀ (n : Nat) (v4 : Int32) (σ : Mem) (H : Heap) (locs : List Loc) (ls : Array Slot), PW G σ H → va_S (AA G) s.heap H locs → lv_has ls 6 [(0, .ref (ga G k0z)), (1, .ref (ga G k1z)), (2, .int p2), (3, .int p3), (4, .int v4)] → iterF (F_X8_bestPatience_7 k0z k1z p2 p3) (fun _ _ => none) n v4 σ = some (rr, σr) → W p l e RM_X8_bestPatience s m args below meth c H locs 0 0 (MQ below (QG G (some (.int rr)) σr) args s 0 0 (AA G)) (F0 m 7 ls []) := by
  have hx := X.hx
  have hb := X.hb
  intro n
  induction n with
  | zero => intro v4 σ H locs ls hP hS hl h; exact nnone (α := (Int32 × Mem)) h
  | succ n ih1 =>
    intro v4 σ H locs ls hP hS hl h
    have h : F_X8_bestPatience_7 k0z k1z p2 p3 (iterF (F_X8_bestPatience_7 k0z k1z p2 p3) (fun _ _ => none) n) v4 σ = some _ := h
    unfold F_X8_bestPatience_7 at h
    refine lv_iload (pc := 7) hx hb dX8_bestPatience_7 (lv_at hl 4 rfl) ?_
    refine lv_bipush (pc := 9) (v := (9)) hx hb dX8_bestPatience_9 (by decide) ?_
    refine lv_icmp_gt (pc := 11) (tgt := 79) hx hb dX8_bestPatience_11 (by decide) (fun c3 => ?_) (fun c3 => ?_)
    · have h := ipos c3 h
      refine lv_aload_n (pc := 79) hx hb dX8_bestPatience_79 rfl (lv_at hl 0 rfl) ?_
      refine gt_X8_18 X hP hz0 dX8_bestPatience_80 ?_
      obtain ⟨rfl, rfl⟩ := inj2 h
      exact r_iret X hP hS dX8_bestPatience_83
    · have h := ineg c3 h
      refine lv_aload_n (pc := 14) hx hb dX8_bestPatience_14 rfl (lv_at hl 0 rfl) ?_
      refine lv_aload_n (pc := 15) hx hb dX8_bestPatience_15 rfl (lv_at hl 1 rfl) ?_
      refine lv_iload_n (pc := 16) hx hb dX8_bestPatience_16 rfl (lv_at hl 3 rfl) ?_
      obtain ⟨σ4, e5, h⟩ := bnd1 h
      refine cl_X8_40 X hP hS hz0 (As := [.ref (ga G k1z), .int p3]) (rest := []) (c_X8_setStage l G hz0 hz1 e5) ⟨rfl, rfl, Nat.le_of_ble_eq_true rfl, Nat.le_of_ble_eq_true rfl⟩ rfl hl.1 rfl (Nat.le_of_ble_eq_true rfl) ⟨Nat.zero_le _, Nat.zero_le _⟩ (pc := 17) dX8_bestPatience_17 (fun H locs hP hS => ?_)
      change W p l e _ s m _ below meth c H locs _ _ _ (F0 m (17 + 3) ls [])
      refine lv_aload_n (pc := 20) hx hb dX8_bestPatience_20 rfl (lv_at hl 0 rfl) ?_
      refine gt_X8_12 X hP hz0 dX8_bestPatience_21 ?_
      refine lv_iload_n (pc := 24) hx hb dX8_bestPatience_24 rfl (lv_at hl 2 rfl) ?_
      obtain ⟨r8, σ6, e7, h⟩ := bnd2 h
      rcases r8 with _ | q9
      · have h := onr_n h
        refine cl_X8_71 X hP hS (kf_8_stage hz0).1 (As := [.int p2]) (rest := []) (c_X2_bidderAt l G (kf_8_stage hz0).1 e7) ⟨rfl, rfl, Nat.le_of_ble_eq_true rfl, Nat.le_of_ble_eq_true rfl⟩ rfl hl.1 rfl (Nat.le_of_ble_eq_true rfl) ⟨Nat.zero_le _, Nat.zero_le _⟩ (pc := 25) dX8_bestPatience_25 (fun H locs hP hS => ?_)
        change W p l e _ s m _ below meth c H locs _ _ _ (F0 m (25 + 3) ls (.null :: []))
        refine lv_astoreN (pc := 28) (lv' := [(5, .null), (0, .ref (ga G k0z)), (1, .ref (ga G k1z)), (2, .int p2), (3, .int p3), (4, .int v4)]) hx hb dX8_bestPatience_28 hl (by decide) rfl (fun ls hl => ?_)
        refine lv_aloadN (pc := 30) hx hb dX8_bestPatience_30 (lv_at hl 0 rfl) ?_
        refine lv_ifnullN (pc := 32) (tgt := 42) hx hb dX8_bestPatience_32 (by decide) ?_
        refine lv_aload_n (pc := 42) hx hb dX8_bestPatience_42 rfl (lv_at hl 1 rfl) ?_
        refine gt_X8_12 X hP hz0 dX8_bestPatience_43 ?_
        refine lv_bipush (pc := 46) (v := (60)) hx hb dX8_bestPatience_46 (by decide) ?_
        refine lv_null (pc := 48) hx hb dX8_bestPatience_48 ?_
        obtain ⟨r13, σ11, e12, h⟩ := bnd2 h
        refine cl_X8_44 X hP hS (kf_8_stage hz0).1 (As := [.int (60 : Int32), .null]) (rest := []) (c_X2_goTicks_IN l G (kf_8_stage hz0).1 e12) ⟨rfl, rfl, Nat.le_of_ble_eq_true rfl, Nat.le_of_ble_eq_true rfl⟩ rfl hl.1 rfl (Nat.le_of_ble_eq_true rfl) ⟨Nat.zero_le _, Nat.zero_le _⟩ (pc := 49) dX8_bestPatience_49 (fun H locs hP hS => ?_)
        change W p l e _ s m _ below meth c H locs _ _ _ (F0 m (49 + 3) ls (.int r13 :: []))
        refine lv_pop (pc := 52) hx hb dX8_bestPatience_52 rfl ?_
        refine lv_aload_n (pc := 53) hx hb dX8_bestPatience_53 rfl (lv_at hl 1 rfl) ?_
        refine lv_iload_n (pc := 54) hx hb dX8_bestPatience_54 rfl (lv_at hl 4 rfl) ?_
        obtain ⟨r16, σ14, e15, h⟩ := bnd2 h
        refine cl_X8_80 X hP hS hz0 (As := [.int p3]) (rest := []) (c_X8_winner l G hz0 e15) ⟨rfl, rfl, Nat.le_of_ble_eq_true rfl, Nat.le_of_ble_eq_true rfl⟩ rfl hl.1 rfl (Nat.le_of_ble_eq_true rfl) ⟨Nat.zero_le _, Nat.zero_le _⟩ (pc := 55) dX8_bestPatience_55 (fun H locs hP hS => ?_)
        change W p l e _ s m _ below meth c H locs _ _ _ (F0 m (55 + 3) ls (.int r16 :: []))
        refine lv_iload_n (pc := 58) hx hb dX8_bestPatience_58 rfl (lv_at hl 3 rfl) ?_
        refine lv_icmp_ne (pc := 59) (tgt := 73) hx hb dX8_bestPatience_59 (by decide) (fun c17 => ?_) (fun c17 => ?_)
        · have h := ineg c17 h
          refine lv_iinc (pc := 73) (v := (v4 + (1 : Int32))) (lv' := [(4, .int (v4 + (1 : Int32))), (5, .null), (0, .ref (ga G k0z)), (1, .ref (ga G k1z)), (2, .int p2), (3, .int p3)]) hx hb dX8_bestPatience_73 hl (k := 5) rfl (congrArg (fun z => v4 + z) (by decide)) (by decide) rfl (fun ls hl => ?_)
          refine lv_goto (pc := 76) (tgt := 7) hx hb dX8_bestPatience_76 (by decide) ?_
          exact ih1 _ _ _ _ _ hP hS (lv_sub hl [2, 3, 4, 5, 0] rfl) h
        · have h := ipos c17 h
          refine lv_aload_n (pc := 62) hx hb dX8_bestPatience_62 rfl (lv_at hl 1 rfl) ?_
          refine lv_iload (pc := 63) hx hb dX8_bestPatience_63 (lv_at hl 5 rfl) ?_
          refine lv_aload_n (pc := 65) hx hb dX8_bestPatience_65 rfl (lv_at hl 1 rfl) ?_
          refine lv_iload_n (pc := 66) hx hb dX8_bestPatience_66 rfl (lv_at hl 4 rfl) ?_
          obtain ⟨r20, σ18, e19, h⟩ := bnd2 h
          refine cl_X8_84 X hP hS hz0 (As := [.int p3]) (rest := [.int v4, .ref (ga G k0z)]) (c_X8_price l G hz0 e19) ⟨rfl, rfl, Nat.le_of_ble_eq_true rfl, Nat.le_of_ble_eq_true rfl⟩ rfl hl.1 rfl (Nat.le_of_ble_eq_true rfl) ⟨Nat.zero_le _, Nat.zero_le _⟩ (pc := 67) dX8_bestPatience_67 (fun H locs hP hS => ?_)
          change W p l e _ s m _ below meth c H locs _ _ _ (F0 m (67 + 3) ls (.int r20 :: [.int v4, .ref (ga G k0z)]))
          obtain ⟨σ21, e22, h⟩ := bnd1 h
          refine cl_X8_86 X hP hS hz0 (As := [.int v4, .int r20]) (rest := []) (c_X8_weighLeast l G hz0 e22) ⟨rfl, rfl, Nat.le_of_ble_eq_true rfl, Nat.le_of_ble_eq_true rfl⟩ rfl hl.1 rfl (Nat.le_of_ble_eq_true rfl) ⟨Nat.zero_le _, Nat.zero_le _⟩ (pc := 70) dX8_bestPatience_70 (fun H locs hP hS => ?_)
          change W p l e _ s m _ below meth c H locs _ _ _ (F0 m (70 + 3) ls [])
          refine lv_iinc (pc := 73) (v := (v4 + (1 : Int32))) (lv' := [(4, .int (v4 + (1 : Int32))), (5, .null), (0, .ref (ga G k0z)), (1, .ref (ga G k1z)), (2, .int p2), (3, .int p3)]) hx hb dX8_bestPatience_73 hl (k := 5) rfl (congrArg (fun z => v4 + z) (by decide)) (by decide) rfl (fun ls hl => ?_)
          refine lv_goto (pc := 76) (tgt := 7) hx hb dX8_bestPatience_76 (by decide) ?_
          exact ih1 _ _ _ _ _ hP hS (lv_sub hl [2, 3, 4, 5, 0] rfl) h
      · have h := onr_s h
        obtain ⟨hq10, h⟩ := grd_inv h
        refine cl_X8_71 X hP hS (kf_8_stage hz0).1 (As := [.int p2]) (rest := []) (c_X2_bidderAt l G (kf_8_stage hz0).1 e7) ⟨rfl, rfl, Nat.le_of_ble_eq_true rfl, Nat.le_of_ble_eq_true rfl⟩ rfl hl.1 rfl (Nat.le_of_ble_eq_true rfl) ⟨Nat.zero_le _, Nat.zero_le _⟩ (pc := 25) dX8_bestPatience_25 (fun H locs hP hS => ?_)
        change W p l e _ s m _ below meth c H locs _ _ _ (F0 m (25 + 3) ls (.ref (ga G q9) :: []))
        refine lv_astore (pc := 28) (lv' := [(5, .ref (ga G q9)), (0, .ref (ga G k0z)), (1, .ref (ga G k1z)), (2, .int p2), (3, .int p3), (4, .int v4)]) hx hb dX8_bestPatience_28 hl (by decide) rfl (fun ls hl => ?_)
        refine lv_aload (pc := 30) hx hb dX8_bestPatience_30 (lv_at hl 0 rfl) ?_
        refine lv_ifnull (pc := 32) hx hb dX8_bestPatience_32 ?_
        refine lv_aload (pc := 35) hx hb dX8_bestPatience_35 (lv_at hl 0 rfl) ?_
        refine lv_iload (pc := 37) hx hb dX8_bestPatience_37 (lv_at hl 5 rfl) ?_
        obtain ⟨σ23, e24, h⟩ := bnd1 h
        refine pt_X8_75 X hP hS hq10 dX8_bestPatience_39 (fun H locs hP hS => ?_)
        rw [Option.some.inj e24] at hP
        refine lv_aload_n (pc := 42) hx hb dX8_bestPatience_42 rfl (lv_at hl 1 rfl) ?_
        refine gt_X8_12 X hP hz0 dX8_bestPatience_43 ?_
        refine lv_bipush (pc := 46) (v := (60)) hx hb dX8_bestPatience_46 (by decide) ?_
        refine lv_null (pc := 48) hx hb dX8_bestPatience_48 ?_
        obtain ⟨r27, σ25, e26, h⟩ := bnd2 h
        refine cl_X8_44 X hP hS (kf_8_stage hz0).1 (As := [.int (60 : Int32), .null]) (rest := []) (c_X2_goTicks_IN l G (kf_8_stage hz0).1 e26) ⟨rfl, rfl, Nat.le_of_ble_eq_true rfl, Nat.le_of_ble_eq_true rfl⟩ rfl hl.1 rfl (Nat.le_of_ble_eq_true rfl) ⟨Nat.zero_le _, Nat.zero_le _⟩ (pc := 49) dX8_bestPatience_49 (fun H locs hP hS => ?_)
        change W p l e _ s m _ below meth c H locs _ _ _ (F0 m (49 + 3) ls (.int r27 :: []))
        refine lv_pop (pc := 52) hx hb dX8_bestPatience_52 rfl ?_
        refine lv_aload_n (pc := 53) hx hb dX8_bestPatience_53 rfl (lv_at hl 1 rfl) ?_
        refine lv_iload_n (pc := 54) hx hb dX8_bestPatience_54 rfl (lv_at hl 4 rfl) ?_
        obtain ⟨r30, σ28, e29, h⟩ := bnd2 h
        refine cl_X8_80 X hP hS hz0 (As := [.int p3]) (rest := []) (c_X8_winner l G hz0 e29) ⟨rfl, rfl, Nat.le_of_ble_eq_true rfl, Nat.le_of_ble_eq_true rfl⟩ rfl hl.1 rfl (Nat.le_of_ble_eq_true rfl) ⟨Nat.zero_le _, Nat.zero_le _⟩ (pc := 55) dX8_bestPatience_55 (fun H locs hP hS => ?_)
        change W p l e _ s m _ below meth c H locs _ _ _ (F0 m (55 + 3) ls (.int r30 :: []))
        refine lv_iload_n (pc := 58) hx hb dX8_bestPatience_58 rfl (lv_at hl 3 rfl) ?_
        refine lv_icmp_ne (pc := 59) (tgt := 73) hx hb dX8_bestPatience_59 (by decide) (fun c31 => ?_) (fun c31 => ?_)
        · have h := ineg c31 h
          refine lv_iinc (pc := 73) (v := (v4 + (1 : Int32))) (lv' := [(4, .int (v4 + (1 : Int32))), (5, .ref (ga G q9)), (0, .ref (ga G k0z)), (1, .ref (ga G k1z)), (2, .int p2), (3, .int p3)]) hx hb dX8_bestPatience_73 hl (k := 5) rfl (congrArg (fun z => v4 + z) (by decide)) (by decide) rfl (fun ls hl => ?_)
          refine lv_goto (pc := 76) (tgt := 7) hx hb dX8_bestPatience_76 (by decide) ?_
          exact ih1 _ _ _ _ _ hP hS (lv_sub hl [2, 3, 4, 5, 0] rfl) h
        · have h := ipos c31 h
          refine lv_aload_n (pc := 62) hx hb dX8_bestPatience_62 rfl (lv_at hl 1 rfl) ?_
          refine lv_iload (pc := 63) hx hb dX8_bestPatience_63 (lv_at hl 5 rfl) ?_
          refine lv_aload_n (pc := 65) hx hb dX8_bestPatience_65 rfl (lv_at hl 1 rfl) ?_
          refine lv_iload_n (pc := 66) hx hb dX8_bestPatience_66 rfl (lv_at hl 4 rfl) ?_
          obtain ⟨r34, σ32, e33, h⟩ := bnd2 h
          refine cl_X8_84 X hP hS hz0 (As := [.int p3]) (rest := [.int v4, .ref (ga G k0z)]) (c_X8_price l G hz0 e33) ⟨rfl, rfl, Nat.le_of_ble_eq_true rfl, Nat.le_of_ble_eq_true rfl⟩ rfl hl.1 rfl (Nat.le_of_ble_eq_true rfl) ⟨Nat.zero_le _, Nat.zero_le _⟩ (pc := 67) dX8_bestPatience_67 (fun H locs hP hS => ?_)
          change W p l e _ s m _ below meth c H locs _ _ _ (F0 m (67 + 3) ls (.int r34 :: [.int v4, .ref (ga G k0z)]))
          obtain ⟨σ35, e36, h⟩ := bnd1 h
          refine cl_X8_86 X hP hS hz0 (As := [.int v4, .int r34]) (rest := []) (c_X8_weighLeast l G hz0 e36) ⟨rfl, rfl, Nat.le_of_ble_eq_true rfl, Nat.le_of_ble_eq_true rfl⟩ rfl hl.1 rfl (Nat.le_of_ble_eq_true rfl) ⟨Nat.zero_le _, Nat.zero_le _⟩ (pc := 70) dX8_bestPatience_70 (fun H locs hP hS => ?_)
          change W p l e _ s m _ below meth c H locs _ _ _ (F0 m (70 + 3) ls [])
          refine lv_iinc (pc := 73) (v := (v4 + (1 : Int32))) (lv' := [(4, .int (v4 + (1 : Int32))), (5, .ref (ga G q9)), (0, .ref (ga G k0z)), (1, .ref (ga G k1z)), (2, .int p2), (3, .int p3)]) hx hb dX8_bestPatience_73 hl (k := 5) rfl (congrArg (fun z => v4 + z) (by decide)) (by decide) rfl (fun ls hl => ?_)
          refine lv_goto (pc := 76) (tgt := 7) hx hb dX8_bestPatience_76 (by decide) ?_
          exact ih1 _ _ _ _ _ hP hS (lv_sub hl [2, 3, 4, 5, 0] rfl) h
set_option maxHeartbeats 4000000 in
set_option maxRecDepth 100000 in
theorem c_X8_bestPatience (l : Launch) (G : Gh) {k0 : Nat} {a1 : Nat} {a2 : Int32} {a3 : Int32} {σ : Mem} {rr : Int32} {σr : Mem} (hk0 : kd k0 = 8) (hk1 : kd a1 = 2) (h : f_X8_bestPatience k0 a1 a2 a3 σ = some (rr, σr)) : Met l yX8_bestPatience [Cond.code yX8_bestPatience prog_10_method_9_code 6 (some .int)] RM_X8_bestPatience (va_Pc [.ref (ga G k0), .ref (ga G a1), .int a2, .int a3] (Pre G σ)) (QG G (some (.int rr)) σr) 0 0 (AA G) := by
  refine ct_of (by decide) (fun p e s m below meth c X hP => ?_)
  have hx := X.hx
  have hb := X.hb
  have hS : va_S (AA G) s.heap s.heap [] := va_S.rf
  have hl := lv_entry ([.ref (ga G k0), .ref (ga G a1), .int a2, .int a3]) (n := 6) (Nat.le_of_ble_eq_true rfl)
  rw [lg_entry_eq]
  generalize (lg_sl ([.ref (ga G k0), .ref (ga G a1), .int a2, .int a3]) ++ List.replicate (6 - (lg_sl ([.ref (ga G k0), .ref (ga G a1), .int a2, .int a3])).length) Slot.unset).toArray = ls at hl ⊢
  have hl : lv_has ls 6 [(0, .ref (ga G k0)), (1, .ref (ga G a1)), (2, .int a2), (3, .int a3)] := hl
  unfold f_X8_bestPatience at h
  refine lv_aload_n (pc := 0) hx hb dX8_bestPatience_0 rfl (lv_at hl 0 rfl) ?_
  obtain ⟨σ1, e2, h⟩ := bnd1 h
  refine cl_X8_68 X hP hS hk0 (As := []) (rest := []) (c_X8_forgetBest l G hk0 e2) ⟨rfl, rfl, Nat.le_of_ble_eq_true rfl, Nat.le_of_ble_eq_true rfl⟩ rfl hl.1 rfl (Nat.le_of_ble_eq_true rfl) ⟨Nat.zero_le _, Nat.zero_le _⟩ (pc := 1) dX8_bestPatience_1 (fun H locs hP hS => ?_)
  change W p l e _ s m _ below meth c H locs _ _ _ (F0 m (1 + 3) ls [])
  refine lv_iconst (pc := 4) (v := 0) hx hb dX8_bestPatience_4 (by decide) ?_
  refine lv_istore (pc := 5) (lv' := [(4, .int (0 : Int32)), (0, .ref (ga G k0)), (1, .ref (ga G a1)), (2, .int a2), (3, .int a3)]) hx hb dX8_bestPatience_5 hl (by decide) rfl (fun ls hl => ?_)
  exact w_X8_bestPatience_7 X  hk0 hk1  FU _ _ _ _ _ hP hS (lv_sub hl [1, 2, 3, 4, 0] rfl) h
def F_X8_bestGust_17 (k0z : Nat) (k1z : Nat) (p2 : Int32) (p3 : Int32) (p4 : Int32) (rec1 : Int32 → Mem → Option (Int32 × Mem)) (rec2 : Int32 → Mem → Option (Int32 × Mem)) : Int32 → Mem → Option (Int32 × Mem) := fun v5 σ =>
  if (3 : Int32) < v5 then
    rec1 (p4 + (1 : Int32)) σ
  else
    bd1 (f_X8_setStage k0z k1z p3 σ) fun σ5 =>
    bd1 (ixo ((k0z + 1) + 3) p4) fun j7 =>
    bd1 (some (pI σ5 ((k0z + 1) + 3) j7 v5)) fun σ9 =>
    bd2 (f_X2_goTicks_IN (k0z + 1) (60 : Int32) σ9) fun r13 σ11 =>
    bd2 (f_X8_winner k0z p3 σ11) fun r16 σ14 =>
    if r16 = p2 then
      bd2 (f_X8_price k0z p3 σ14) fun r20 σ18 =>
      bd1 (f_X8_weighLeast k0z (((10 : Int32) * p4) + v5) r20 σ18) fun σ21 =>
      rec2 (v5 + (1 : Int32)) σ21
    else
      rec2 (v5 + (1 : Int32)) σ14
def F_X8_bestGust_7 (k0z : Nat) (k1z : Nat) (p2 : Int32) (p3 : Int32) (rec1 : Int32 → Mem → Option (Int32 × Mem)) : Int32 → Mem → Option (Int32 × Mem) := fun v4 σ =>
  if (12 : Int32) ≤ v4 then
    some ((gI σ k0z 1), σ)
  else
    iterF (F_X8_bestGust_17 k0z k1z p2 p3 v4 rec1) (fun _ _ => none) FU (0 : Int32) σ
def f_X8_bestGust (k0 : Nat) (a1 : Nat) (a2 : Int32) (a3 : Int32) (σ : Mem) : Option (Int32 × Mem) :=
  bd1 (f_X8_forgetBest k0 σ) fun σ1 =>
  iterF (F_X8_bestGust_7 k0 a1 a2 a3) (fun _ _ => none) FU (0 : Int32) σ1
abbrev RM_X8_bestGust : Room := { frames := 5, cells := 0, slots := 0, locals := 114 }
set_option maxHeartbeats 4000000 in
set_option maxRecDepth 100000 in
theorem w_X8_bestGust_17 {l : Launch} {G : Gh} {p : Program} {e : Env} {s : State} {m : MethodId} {args : Array Value} {below : List Frame} {meth : Method} {c : Code} (X : Cx G p s m args meth c prog_10_method_10_code RX8 6 (some .int)) {k0z : Nat} {k1z : Nat} {p2 : Int32} {p3 : Int32} {p4 : Int32} (hz0 : kd k0z = 8) (hz1 : kd k1z = 2) {rr : Int32} {σr : Mem} {rec1 : Int32 → Mem → Option (Int32 × Mem)} (ih1 : ∀ (v4 : Int32) (σ : Mem) (H : Heap) (locs : List Loc) (ls : Array Slot), PW G σ H → va_S (AA G) s.heap H locs → lv_has ls 6 [(0, .ref (ga G k0z)), (1, .ref (ga G k1z)), (2, .int p2), (3, .int p3), (4, .int v4)] → rec1 v4 σ = some (rr, σr) → W p l e RM_X8_bestGust s m args below meth c H locs 0 0 (MQ below (QG G (some (.int rr)) σr) args s 0 0 (AA G)) (F0 m 7 ls [])) : ∀ (n : Nat) (v5 : Int32) (σ : Mem) (H : Heap) (locs : List Loc) (ls : Array Slot), PW G σ H → va_S (AA G) s.heap H locs → lv_has ls 6 [(0, .ref (ga G k0z)), (1, .ref (ga G k1z)), (2, .int p2), (3, .int p3), (4, .int p4), (5, .int v5)] → iterF (F_X8_bestGust_17 k0z k1z p2 p3 p4 rec1) (fun _ _ => none) n v5 σ = some (rr, σr) → W p l e RM_X8_bestGust s m args below meth c H locs 0 0 (MQ below (QG G (some (.int rr)) σr) args s 0 0 (AA G)) (F0 m 17 ls []) := by
  have hx := X.hx
  have hb := X.hb
  intro n
  induction n with
  | zero => intro v5 σ H locs ls hP hS hl h; exact nnone (α := (Int32 × Mem)) h
  | succ n ih2 =>
    intro v5 σ H locs ls hP hS hl h
    have h : F_X8_bestGust_17 k0z k1z p2 p3 p4 rec1 (iterF (F_X8_bestGust_17 k0z k1z p2 p3 p4 rec1) (fun _ _ => none) n) v5 σ = some _ := h
    unfold F_X8_bestGust_17 at h
    refine lv_iload (pc := 17) hx hb dX8_bestGust_17 (lv_at hl 5 rfl) ?_
    refine lv_iconst (pc := 19) (v := 3) hx hb dX8_bestGust_19 (by decide) ?_
    refine lv_icmp_gt (pc := 20) (tgt := 84) hx hb dX8_bestGust_20 (by decide) (fun c4 => ?_) (fun c4 => ?_)
    · have h := ipos c4 h
      refine lv_iinc (pc := 84) (v := (p4 + (1 : Int32))) (lv' := [(4, .int (p4 + (1 : Int32))), (0, .ref (ga G k0z)), (1, .ref (ga G k1z)), (2, .int p2), (3, .int p3), (5, .int v5)]) hx hb dX8_bestGust_84 hl (k := 4) rfl (congrArg (fun z => p4 + z) (by decide)) (by decide) rfl (fun ls hl => ?_)
      refine lv_goto (pc := 87) (tgt := 7) hx hb dX8_bestGust_87 (by decide) ?_
      exact ih1 _ _ _ _ _ hP hS (lv_sub hl [1, 2, 3, 4, 0] rfl) h
    · have h := ineg c4 h
      refine lv_aload_n (pc := 23) hx hb dX8_bestGust_23 rfl (lv_at hl 0 rfl) ?_
      refine lv_aload_n (pc := 24) hx hb dX8_bestGust_24 rfl (lv_at hl 1 rfl) ?_
      refine lv_iload_n (pc := 25) hx hb dX8_bestGust_25 rfl (lv_at hl 3 rfl) ?_
      obtain ⟨σ5, e6, h⟩ := bnd1 h
      refine cl_X8_40 X hP hS hz0 (As := [.ref (ga G k1z), .int p3]) (rest := []) (c_X8_setStage l G hz0 hz1 e6) ⟨rfl, rfl, Nat.le_of_ble_eq_true rfl, Nat.le_of_ble_eq_true rfl⟩ rfl hl.1 rfl (Nat.le_of_ble_eq_true rfl) ⟨Nat.zero_le _, Nat.zero_le _⟩ (pc := 26) dX8_bestGust_26 (fun H locs hP hS => ?_)
      change W p l e _ s m _ below meth c H locs _ _ _ (F0 m (26 + 3) ls [])
      refine lv_aload_n (pc := 29) hx hb dX8_bestGust_29 rfl (lv_at hl 0 rfl) ?_
      refine gt_X8_12 X hP hz0 dX8_bestGust_30 ?_
      refine gt_X8_90 X hP (kf_8_stage hz0).1 dX8_bestGust_33 ?_
      refine lv_iload (pc := 36) hx hb dX8_bestGust_36 (lv_at hl 4 rfl) ?_
      refine lv_iload (pc := 38) hx hb dX8_bestGust_38 (lv_at hl 5 rfl) ?_
      obtain ⟨j7, hj8, h⟩ := bnd1 h
      obtain ⟨σ9, e10, h⟩ := bnd1 h
      refine r_iast (pc := 40) X hP hS (kf_2_draughts (kf_8_stage hz0).1).1 hj8 dX8_bestGust_40 (fun H locs hP hS => ?_)
      rw [Option.some.inj e10] at hP
      refine lv_aload_n (pc := 41) hx hb dX8_bestGust_41 rfl (lv_at hl 0 rfl) ?_
      refine gt_X8_12 X hP hz0 dX8_bestGust_42 ?_
      refine lv_bipush (pc := 45) (v := (60)) hx hb dX8_bestGust_45 (by decide) ?_
      refine lv_null (pc := 47) hx hb dX8_bestGust_47 ?_
      obtain ⟨r13, σ11, e12, h⟩ := bnd2 h
      refine cl_X8_44 X hP hS (kf_8_stage hz0).1 (As := [.int (60 : Int32), .null]) (rest := []) (c_X2_goTicks_IN l G (kf_8_stage hz0).1 e12) ⟨rfl, rfl, Nat.le_of_ble_eq_true rfl, Nat.le_of_ble_eq_true rfl⟩ rfl hl.1 rfl (Nat.le_of_ble_eq_true rfl) ⟨Nat.zero_le _, Nat.zero_le _⟩ (pc := 48) dX8_bestGust_48 (fun H locs hP hS => ?_)
      change W p l e _ s m _ below meth c H locs _ _ _ (F0 m (48 + 3) ls (.int r13 :: []))
      refine lv_pop (pc := 51) hx hb dX8_bestGust_51 rfl ?_
      refine lv_aload_n (pc := 52) hx hb dX8_bestGust_52 rfl (lv_at hl 0 rfl) ?_
      refine lv_iload_n (pc := 53) hx hb dX8_bestGust_53 rfl (lv_at hl 3 rfl) ?_
      obtain ⟨r16, σ14, e15, h⟩ := bnd2 h
      refine cl_X8_80 X hP hS hz0 (As := [.int p3]) (rest := []) (c_X8_winner l G hz0 e15) ⟨rfl, rfl, Nat.le_of_ble_eq_true rfl, Nat.le_of_ble_eq_true rfl⟩ rfl hl.1 rfl (Nat.le_of_ble_eq_true rfl) ⟨Nat.zero_le _, Nat.zero_le _⟩ (pc := 54) dX8_bestGust_54 (fun H locs hP hS => ?_)
      change W p l e _ s m _ below meth c H locs _ _ _ (F0 m (54 + 3) ls (.int r16 :: []))
      refine lv_iload_n (pc := 57) hx hb dX8_bestGust_57 rfl (lv_at hl 2 rfl) ?_
      refine lv_icmp_ne (pc := 58) (tgt := 78) hx hb dX8_bestGust_58 (by decide) (fun c17 => ?_) (fun c17 => ?_)
      · have h := ineg c17 h
        refine lv_iinc (pc := 78) (v := (v5 + (1 : Int32))) (lv' := [(5, .int (v5 + (1 : Int32))), (0, .ref (ga G k0z)), (1, .ref (ga G k1z)), (2, .int p2), (3, .int p3), (4, .int p4)]) hx hb dX8_bestGust_78 hl (k := 5) rfl (congrArg (fun z => v5 + z) (by decide)) (by decide) rfl (fun ls hl => ?_)
        refine lv_goto (pc := 81) (tgt := 17) hx hb dX8_bestGust_81 (by decide) ?_
        exact ih2 _ _ _ _ _ hP hS (lv_sub hl [1, 2, 3, 4, 5, 0] rfl) h
      · have h := ipos c17 h
        refine lv_aload_n (pc := 61) hx hb dX8_bestGust_61 rfl (lv_at hl 0 rfl) ?_
        refine lv_bipush (pc := 62) (v := (10)) hx hb dX8_bestGust_62 (by decide) ?_
        refine lv_iload (pc := 64) hx hb dX8_bestGust_64 (lv_at hl 4 rfl) ?_
        refine lv_imul (pc := 66) hx hb dX8_bestGust_66 ?_
        refine lv_iload (pc := 67) hx hb dX8_bestGust_67 (lv_at hl 5 rfl) ?_
        refine lv_iadd (pc := 69) hx hb dX8_bestGust_69 ?_
        refine lv_aload_n (pc := 70) hx hb dX8_bestGust_70 rfl (lv_at hl 0 rfl) ?_
        refine lv_iload_n (pc := 71) hx hb dX8_bestGust_71 rfl (lv_at hl 3 rfl) ?_
        obtain ⟨r20, σ18, e19, h⟩ := bnd2 h
        refine cl_X8_84 X hP hS hz0 (As := [.int p3]) (rest := [.int (((10 : Int32) * p4) + v5), .ref (ga G k0z)]) (c_X8_price l G hz0 e19) ⟨rfl, rfl, Nat.le_of_ble_eq_true rfl, Nat.le_of_ble_eq_true rfl⟩ rfl hl.1 rfl (Nat.le_of_ble_eq_true rfl) ⟨Nat.zero_le _, Nat.zero_le _⟩ (pc := 72) dX8_bestGust_72 (fun H locs hP hS => ?_)
        change W p l e _ s m _ below meth c H locs _ _ _ (F0 m (72 + 3) ls (.int r20 :: [.int (((10 : Int32) * p4) + v5), .ref (ga G k0z)]))
        obtain ⟨σ21, e22, h⟩ := bnd1 h
        refine cl_X8_86 X hP hS hz0 (As := [.int (((10 : Int32) * p4) + v5), .int r20]) (rest := []) (c_X8_weighLeast l G hz0 e22) ⟨rfl, rfl, Nat.le_of_ble_eq_true rfl, Nat.le_of_ble_eq_true rfl⟩ rfl hl.1 rfl (Nat.le_of_ble_eq_true rfl) ⟨Nat.zero_le _, Nat.zero_le _⟩ (pc := 75) dX8_bestGust_75 (fun H locs hP hS => ?_)
        change W p l e _ s m _ below meth c H locs _ _ _ (F0 m (75 + 3) ls [])
        refine lv_iinc (pc := 78) (v := (v5 + (1 : Int32))) (lv' := [(5, .int (v5 + (1 : Int32))), (0, .ref (ga G k0z)), (1, .ref (ga G k1z)), (2, .int p2), (3, .int p3), (4, .int p4)]) hx hb dX8_bestGust_78 hl (k := 5) rfl (congrArg (fun z => v5 + z) (by decide)) (by decide) rfl (fun ls hl => ?_)
        refine lv_goto (pc := 81) (tgt := 17) hx hb dX8_bestGust_81 (by decide) ?_
        exact ih2 _ _ _ _ _ hP hS (lv_sub hl [1, 2, 3, 4, 5, 0] rfl) h
set_option maxHeartbeats 4000000 in
set_option maxRecDepth 100000 in
theorem w_X8_bestGust_7 {l : Launch} {G : Gh} {p : Program} {e : Env} {s : State} {m : MethodId} {args : Array Value} {below : List Frame} {meth : Method} {c : Code} (X : Cx G p s m args meth c prog_10_method_10_code RX8 6 (some .int)) {k0z : Nat} {k1z : Nat} {p2 : Int32} {p3 : Int32} (hz0 : kd k0z = 8) (hz1 : kd k1z = 2) {rr : Int32} {σr : Mem} : ∀ (n : Nat) (v4 : Int32) (σ : Mem) (H : Heap) (locs : List Loc) (ls : Array Slot), PW G σ H → va_S (AA G) s.heap H locs → lv_has ls 6 [(0, .ref (ga G k0z)), (1, .ref (ga G k1z)), (2, .int p2), (3, .int p3), (4, .int v4)] → iterF (F_X8_bestGust_7 k0z k1z p2 p3) (fun _ _ => none) n v4 σ = some (rr, σr) → W p l e RM_X8_bestGust s m args below meth c H locs 0 0 (MQ below (QG G (some (.int rr)) σr) args s 0 0 (AA G)) (F0 m 7 ls []) := by
  have hx := X.hx
  have hb := X.hb
  intro n
  induction n with
  | zero => intro v4 σ H locs ls hP hS hl h; exact nnone (α := (Int32 × Mem)) h
  | succ n ih1 =>
    intro v4 σ H locs ls hP hS hl h
    have h : F_X8_bestGust_7 k0z k1z p2 p3 (iterF (F_X8_bestGust_7 k0z k1z p2 p3) (fun _ _ => none) n) v4 σ = some _ := h
    unfold F_X8_bestGust_7 at h
    refine lv_iload (pc := 7) hx hb dX8_bestGust_7 (lv_at hl 4 rfl) ?_
    refine lv_bipush (pc := 9) (v := (12)) hx hb dX8_bestGust_9 (by decide) ?_
    refine lv_icmp_ge (pc := 11) (tgt := 90) hx hb dX8_bestGust_11 (by decide) (fun c3 => ?_) (fun c3 => ?_)
    · have h := ipos c3 h
      refine lv_aload_n (pc := 90) hx hb dX8_bestGust_90 rfl (lv_at hl 0 rfl) ?_
      refine gt_X8_18 X hP hz0 dX8_bestGust_91 ?_
      obtain ⟨rfl, rfl⟩ := inj2 h
      exact r_iret X hP hS dX8_bestGust_94
    · have h := ineg c3 h
      refine lv_iconst (pc := 14) (v := 0) hx hb dX8_bestGust_14 (by decide) ?_
      refine lv_istore (pc := 15) (lv' := [(5, .int (0 : Int32)), (0, .ref (ga G k0z)), (1, .ref (ga G k1z)), (2, .int p2), (3, .int p3), (4, .int v4)]) hx hb dX8_bestGust_15 hl (by decide) rfl (fun ls hl => ?_)
      exact w_X8_bestGust_17 X  hz0 hz1 ih1 FU _ _ _ _ _ hP hS (lv_sub hl [1, 2, 3, 4, 5, 0] rfl) h
set_option maxHeartbeats 4000000 in
set_option maxRecDepth 100000 in
theorem c_X8_bestGust (l : Launch) (G : Gh) {k0 : Nat} {a1 : Nat} {a2 : Int32} {a3 : Int32} {σ : Mem} {rr : Int32} {σr : Mem} (hk0 : kd k0 = 8) (hk1 : kd a1 = 2) (h : f_X8_bestGust k0 a1 a2 a3 σ = some (rr, σr)) : Met l yX8_bestGust [Cond.code yX8_bestGust prog_10_method_10_code 6 (some .int)] RM_X8_bestGust (va_Pc [.ref (ga G k0), .ref (ga G a1), .int a2, .int a3] (Pre G σ)) (QG G (some (.int rr)) σr) 0 0 (AA G) := by
  refine ct_of (by decide) (fun p e s m below meth c X hP => ?_)
  have hx := X.hx
  have hb := X.hb
  have hS : va_S (AA G) s.heap s.heap [] := va_S.rf
  have hl := lv_entry ([.ref (ga G k0), .ref (ga G a1), .int a2, .int a3]) (n := 6) (Nat.le_of_ble_eq_true rfl)
  rw [lg_entry_eq]
  generalize (lg_sl ([.ref (ga G k0), .ref (ga G a1), .int a2, .int a3]) ++ List.replicate (6 - (lg_sl ([.ref (ga G k0), .ref (ga G a1), .int a2, .int a3])).length) Slot.unset).toArray = ls at hl ⊢
  have hl : lv_has ls 6 [(0, .ref (ga G k0)), (1, .ref (ga G a1)), (2, .int a2), (3, .int a3)] := hl
  unfold f_X8_bestGust at h
  refine lv_aload_n (pc := 0) hx hb dX8_bestGust_0 rfl (lv_at hl 0 rfl) ?_
  obtain ⟨σ1, e2, h⟩ := bnd1 h
  refine cl_X8_68 X hP hS hk0 (As := []) (rest := []) (c_X8_forgetBest l G hk0 e2) ⟨rfl, rfl, Nat.le_of_ble_eq_true rfl, Nat.le_of_ble_eq_true rfl⟩ rfl hl.1 rfl (Nat.le_of_ble_eq_true rfl) ⟨Nat.zero_le _, Nat.zero_le _⟩ (pc := 1) dX8_bestGust_1 (fun H locs hP hS => ?_)
  change W p l e _ s m _ below meth c H locs _ _ _ (F0 m (1 + 3) ls [])
  refine lv_iconst (pc := 4) (v := 0) hx hb dX8_bestGust_4 (by decide) ?_
  refine lv_istore (pc := 5) (lv' := [(4, .int (0 : Int32)), (0, .ref (ga G k0)), (1, .ref (ga G a1)), (2, .int a2), (3, .int a3)]) hx hb dX8_bestGust_5 hl (by decide) rfl (fun ls hl => ?_)
  exact w_X8_bestGust_7 X  hk0 hk1  FU _ _ _ _ _ hP hS (lv_sub hl [1, 2, 3, 4, 0] rfl) h
def F_X8_bestWax_6 (k0z : Nat) (k1z : Nat) (p2 : Int32) (rec1 : Int32 → Mem → Option (Int32 × Mem)) : Int32 → Mem → Option (Int32 × Mem) := fun v3 σ =>
  if (60 : Int32) < v3 then
    some ((gI σ k0z 1), σ)
  else
    bd1 (f_X8_setStage k0z k1z p2 σ) fun σ4 =>
    bd2 (f_X2_lotAt (k0z + 1) p2 σ4) fun r8 σ6 =>
    onr r8 (
      bd2 (f_X2_goTicks_IN (k0z + 1) (60 : Int32) σ6) fun r13 σ11 =>
      bd2 (f_X8_price k0z p2 σ11) fun r16 σ14 =>
      bd1 (f_X8_weighGreatest k0z v3 r16 σ14) fun σ17 =>
      rec1 (v3 + (1 : Int32)) σ17
      ) fun q9 => grd (kd q9 = 3) <|
      bd1 (some (pI σ6 q9 0 v3)) fun σ19 =>
      bd2 (f_X2_goTicks_IN (k0z + 1) (60 : Int32) σ19) fun r23 σ21 =>
      bd2 (f_X8_price k0z p2 σ21) fun r26 σ24 =>
      bd1 (f_X8_weighGreatest k0z v3 r26 σ24) fun σ27 =>
      rec1 (v3 + (1 : Int32)) σ27
def f_X8_bestWax (k0 : Nat) (a1 : Nat) (a2 : Int32) (σ : Mem) : Option (Int32 × Mem) :=
  bd1 (f_X8_forgetBest k0 σ) fun σ1 =>
  iterF (F_X8_bestWax_6 k0 a1 a2) (fun _ _ => none) FU (1 : Int32) σ1
abbrev RM_X8_bestWax : Room := { frames := 5, cells := 0, slots := 0, locals := 114 }
set_option maxHeartbeats 4000000 in
set_option maxRecDepth 100000 in
theorem w_X8_bestWax_6 {l : Launch} {G : Gh} {p : Program} {e : Env} {s : State} {m : MethodId} {args : Array Value} {below : List Frame} {meth : Method} {c : Code} (X : Cx G p s m args meth c prog_10_method_11_code RX8 5 (some .int)) {k0z : Nat} {k1z : Nat} {p2 : Int32} (hz0 : kd k0z = 8) (hz1 : kd k1z = 2) {rr : Int32} {σr : Mem} : ∀ (n : Nat) (v3 : Int32) (σ : Mem) (H : Heap) (locs : List Loc) (ls : Array Slot), PW G σ H → va_S (AA G) s.heap H locs → lv_has ls 5 [(0, .ref (ga G k0z)), (1, .ref (ga G k1z)), (2, .int p2), (3, .int v3)] → iterF (F_X8_bestWax_6 k0z k1z p2) (fun _ _ => none) n v3 σ = some (rr, σr) → W p l e RM_X8_bestWax s m args below meth c H locs 0 0 (MQ below (QG G (some (.int rr)) σr) args s 0 0 (AA G)) (F0 m 6 ls []) := by
  have hx := X.hx
  have hb := X.hb
  intro n
  induction n with
  | zero => intro v3 σ H locs ls hP hS hl h; exact nnone (α := (Int32 × Mem)) h
  | succ n ih1 =>
    intro v3 σ H locs ls hP hS hl h
    have h : F_X8_bestWax_6 k0z k1z p2 (iterF (F_X8_bestWax_6 k0z k1z p2) (fun _ _ => none) n) v3 σ = some _ := h
    unfold F_X8_bestWax_6 at h
    refine lv_iload_n (pc := 6) hx hb dX8_bestWax_6 rfl (lv_at hl 3 rfl) ?_
    refine lv_bipush (pc := 7) (v := (60)) hx hb dX8_bestWax_7 (by decide) ?_
    refine lv_icmp_gt (pc := 9) (tgt := 66) hx hb dX8_bestWax_9 (by decide) (fun c3 => ?_) (fun c3 => ?_)
    · have h := ipos c3 h
      refine lv_aload_n (pc := 66) hx hb dX8_bestWax_66 rfl (lv_at hl 0 rfl) ?_
      refine gt_X8_18 X hP hz0 dX8_bestWax_67 ?_
      obtain ⟨rfl, rfl⟩ := inj2 h
      exact r_iret X hP hS dX8_bestWax_70
    · have h := ineg c3 h
      refine lv_aload_n (pc := 12) hx hb dX8_bestWax_12 rfl (lv_at hl 0 rfl) ?_
      refine lv_aload_n (pc := 13) hx hb dX8_bestWax_13 rfl (lv_at hl 1 rfl) ?_
      refine lv_iload_n (pc := 14) hx hb dX8_bestWax_14 rfl (lv_at hl 2 rfl) ?_
      obtain ⟨σ4, e5, h⟩ := bnd1 h
      refine cl_X8_40 X hP hS hz0 (As := [.ref (ga G k1z), .int p2]) (rest := []) (c_X8_setStage l G hz0 hz1 e5) ⟨rfl, rfl, Nat.le_of_ble_eq_true rfl, Nat.le_of_ble_eq_true rfl⟩ rfl hl.1 rfl (Nat.le_of_ble_eq_true rfl) ⟨Nat.zero_le _, Nat.zero_le _⟩ (pc := 15) dX8_bestWax_15 (fun H locs hP hS => ?_)
      change W p l e _ s m _ below meth c H locs _ _ _ (F0 m (15 + 3) ls [])
      refine lv_aload_n (pc := 18) hx hb dX8_bestWax_18 rfl (lv_at hl 0 rfl) ?_
      refine gt_X8_12 X hP hz0 dX8_bestWax_19 ?_
      refine lv_iload_n (pc := 22) hx hb dX8_bestWax_22 rfl (lv_at hl 2 rfl) ?_
      obtain ⟨r8, σ6, e7, h⟩ := bnd2 h
      rcases r8 with _ | q9
      · have h := onr_n h
        refine cl_X8_56 X hP hS (kf_8_stage hz0).1 (As := [.int p2]) (rest := []) (c_X2_lotAt l G (kf_8_stage hz0).1 e7) ⟨rfl, rfl, Nat.le_of_ble_eq_true rfl, Nat.le_of_ble_eq_true rfl⟩ rfl hl.1 rfl (Nat.le_of_ble_eq_true rfl) ⟨Nat.zero_le _, Nat.zero_le _⟩ (pc := 23) dX8_bestWax_23 (fun H locs hP hS => ?_)
        change W p l e _ s m _ below meth c H locs _ _ _ (F0 m (23 + 3) ls (.null :: []))
        refine lv_astoreN (pc := 26) (lv' := [(4, .null), (0, .ref (ga G k0z)), (1, .ref (ga G k1z)), (2, .int p2), (3, .int v3)]) hx hb dX8_bestWax_26 hl (by decide) rfl (fun ls hl => ?_)
        refine lv_aloadN (pc := 28) hx hb dX8_bestWax_28 (lv_at hl 0 rfl) ?_
        refine lv_ifnullN (pc := 30) (tgt := 39) hx hb dX8_bestWax_30 (by decide) ?_
        refine lv_aload_n (pc := 39) hx hb dX8_bestWax_39 rfl (lv_at hl 1 rfl) ?_
        refine gt_X8_12 X hP hz0 dX8_bestWax_40 ?_
        refine lv_bipush (pc := 43) (v := (60)) hx hb dX8_bestWax_43 (by decide) ?_
        refine lv_null (pc := 45) hx hb dX8_bestWax_45 ?_
        obtain ⟨r13, σ11, e12, h⟩ := bnd2 h
        refine cl_X8_44 X hP hS (kf_8_stage hz0).1 (As := [.int (60 : Int32), .null]) (rest := []) (c_X2_goTicks_IN l G (kf_8_stage hz0).1 e12) ⟨rfl, rfl, Nat.le_of_ble_eq_true rfl, Nat.le_of_ble_eq_true rfl⟩ rfl hl.1 rfl (Nat.le_of_ble_eq_true rfl) ⟨Nat.zero_le _, Nat.zero_le _⟩ (pc := 46) dX8_bestWax_46 (fun H locs hP hS => ?_)
        change W p l e _ s m _ below meth c H locs _ _ _ (F0 m (46 + 3) ls (.int r13 :: []))
        refine lv_pop (pc := 49) hx hb dX8_bestWax_49 rfl ?_
        refine lv_aload_n (pc := 50) hx hb dX8_bestWax_50 rfl (lv_at hl 1 rfl) ?_
        refine lv_iload_n (pc := 51) hx hb dX8_bestWax_51 rfl (lv_at hl 4 rfl) ?_
        refine lv_aload_n (pc := 52) hx hb dX8_bestWax_52 rfl (lv_at hl 1 rfl) ?_
        refine lv_iload_n (pc := 53) hx hb dX8_bestWax_53 rfl (lv_at hl 3 rfl) ?_
        obtain ⟨r16, σ14, e15, h⟩ := bnd2 h
        refine cl_X8_84 X hP hS hz0 (As := [.int p2]) (rest := [.int v3, .ref (ga G k0z)]) (c_X8_price l G hz0 e15) ⟨rfl, rfl, Nat.le_of_ble_eq_true rfl, Nat.le_of_ble_eq_true rfl⟩ rfl hl.1 rfl (Nat.le_of_ble_eq_true rfl) ⟨Nat.zero_le _, Nat.zero_le _⟩ (pc := 54) dX8_bestWax_54 (fun H locs hP hS => ?_)
        change W p l e _ s m _ below meth c H locs _ _ _ (F0 m (54 + 3) ls (.int r16 :: [.int v3, .ref (ga G k0z)]))
        obtain ⟨σ17, e18, h⟩ := bnd1 h
        refine cl_X8_96 X hP hS hz0 (As := [.int v3, .int r16]) (rest := []) (c_X8_weighGreatest l G hz0 e18) ⟨rfl, rfl, Nat.le_of_ble_eq_true rfl, Nat.le_of_ble_eq_true rfl⟩ rfl hl.1 rfl (Nat.le_of_ble_eq_true rfl) ⟨Nat.zero_le _, Nat.zero_le _⟩ (pc := 57) dX8_bestWax_57 (fun H locs hP hS => ?_)
        change W p l e _ s m _ below meth c H locs _ _ _ (F0 m (57 + 3) ls [])
        refine lv_iinc (pc := 60) (v := (v3 + (1 : Int32))) (lv' := [(3, .int (v3 + (1 : Int32))), (4, .null), (0, .ref (ga G k0z)), (1, .ref (ga G k1z)), (2, .int p2)]) hx hb dX8_bestWax_60 hl (k := 4) rfl (congrArg (fun z => v3 + z) (by decide)) (by decide) rfl (fun ls hl => ?_)
        refine lv_goto (pc := 63) (tgt := 6) hx hb dX8_bestWax_63 (by decide) ?_
        exact ih1 _ _ _ _ _ hP hS (lv_sub hl [2, 3, 4, 0] rfl) h
      · have h := onr_s h
        obtain ⟨hq10, h⟩ := grd_inv h
        refine cl_X8_56 X hP hS (kf_8_stage hz0).1 (As := [.int p2]) (rest := []) (c_X2_lotAt l G (kf_8_stage hz0).1 e7) ⟨rfl, rfl, Nat.le_of_ble_eq_true rfl, Nat.le_of_ble_eq_true rfl⟩ rfl hl.1 rfl (Nat.le_of_ble_eq_true rfl) ⟨Nat.zero_le _, Nat.zero_le _⟩ (pc := 23) dX8_bestWax_23 (fun H locs hP hS => ?_)
        change W p l e _ s m _ below meth c H locs _ _ _ (F0 m (23 + 3) ls (.ref (ga G q9) :: []))
        refine lv_astore (pc := 26) (lv' := [(4, .ref (ga G q9)), (0, .ref (ga G k0z)), (1, .ref (ga G k1z)), (2, .int p2), (3, .int v3)]) hx hb dX8_bestWax_26 hl (by decide) rfl (fun ls hl => ?_)
        refine lv_aload (pc := 28) hx hb dX8_bestWax_28 (lv_at hl 0 rfl) ?_
        refine lv_ifnull (pc := 30) hx hb dX8_bestWax_30 ?_
        refine lv_aload (pc := 33) hx hb dX8_bestWax_33 (lv_at hl 0 rfl) ?_
        refine lv_iload_n (pc := 35) hx hb dX8_bestWax_35 rfl (lv_at hl 4 rfl) ?_
        obtain ⟨σ19, e20, h⟩ := bnd1 h
        refine pt_X8_93 X hP hS hq10 dX8_bestWax_36 (fun H locs hP hS => ?_)
        rw [Option.some.inj e20] at hP
        refine lv_aload_n (pc := 39) hx hb dX8_bestWax_39 rfl (lv_at hl 1 rfl) ?_
        refine gt_X8_12 X hP hz0 dX8_bestWax_40 ?_
        refine lv_bipush (pc := 43) (v := (60)) hx hb dX8_bestWax_43 (by decide) ?_
        refine lv_null (pc := 45) hx hb dX8_bestWax_45 ?_
        obtain ⟨r23, σ21, e22, h⟩ := bnd2 h
        refine cl_X8_44 X hP hS (kf_8_stage hz0).1 (As := [.int (60 : Int32), .null]) (rest := []) (c_X2_goTicks_IN l G (kf_8_stage hz0).1 e22) ⟨rfl, rfl, Nat.le_of_ble_eq_true rfl, Nat.le_of_ble_eq_true rfl⟩ rfl hl.1 rfl (Nat.le_of_ble_eq_true rfl) ⟨Nat.zero_le _, Nat.zero_le _⟩ (pc := 46) dX8_bestWax_46 (fun H locs hP hS => ?_)
        change W p l e _ s m _ below meth c H locs _ _ _ (F0 m (46 + 3) ls (.int r23 :: []))
        refine lv_pop (pc := 49) hx hb dX8_bestWax_49 rfl ?_
        refine lv_aload_n (pc := 50) hx hb dX8_bestWax_50 rfl (lv_at hl 1 rfl) ?_
        refine lv_iload_n (pc := 51) hx hb dX8_bestWax_51 rfl (lv_at hl 4 rfl) ?_
        refine lv_aload_n (pc := 52) hx hb dX8_bestWax_52 rfl (lv_at hl 1 rfl) ?_
        refine lv_iload_n (pc := 53) hx hb dX8_bestWax_53 rfl (lv_at hl 3 rfl) ?_
        obtain ⟨r26, σ24, e25, h⟩ := bnd2 h
        refine cl_X8_84 X hP hS hz0 (As := [.int p2]) (rest := [.int v3, .ref (ga G k0z)]) (c_X8_price l G hz0 e25) ⟨rfl, rfl, Nat.le_of_ble_eq_true rfl, Nat.le_of_ble_eq_true rfl⟩ rfl hl.1 rfl (Nat.le_of_ble_eq_true rfl) ⟨Nat.zero_le _, Nat.zero_le _⟩ (pc := 54) dX8_bestWax_54 (fun H locs hP hS => ?_)
        change W p l e _ s m _ below meth c H locs _ _ _ (F0 m (54 + 3) ls (.int r26 :: [.int v3, .ref (ga G k0z)]))
        obtain ⟨σ27, e28, h⟩ := bnd1 h
        refine cl_X8_96 X hP hS hz0 (As := [.int v3, .int r26]) (rest := []) (c_X8_weighGreatest l G hz0 e28) ⟨rfl, rfl, Nat.le_of_ble_eq_true rfl, Nat.le_of_ble_eq_true rfl⟩ rfl hl.1 rfl (Nat.le_of_ble_eq_true rfl) ⟨Nat.zero_le _, Nat.zero_le _⟩ (pc := 57) dX8_bestWax_57 (fun H locs hP hS => ?_)
        change W p l e _ s m _ below meth c H locs _ _ _ (F0 m (57 + 3) ls [])
        refine lv_iinc (pc := 60) (v := (v3 + (1 : Int32))) (lv' := [(3, .int (v3 + (1 : Int32))), (4, .ref (ga G q9)), (0, .ref (ga G k0z)), (1, .ref (ga G k1z)), (2, .int p2)]) hx hb dX8_bestWax_60 hl (k := 4) rfl (congrArg (fun z => v3 + z) (by decide)) (by decide) rfl (fun ls hl => ?_)
        refine lv_goto (pc := 63) (tgt := 6) hx hb dX8_bestWax_63 (by decide) ?_
        exact ih1 _ _ _ _ _ hP hS (lv_sub hl [2, 3, 4, 0] rfl) h
set_option maxHeartbeats 4000000 in
set_option maxRecDepth 100000 in
theorem c_X8_bestWax (l : Launch) (G : Gh) {k0 : Nat} {a1 : Nat} {a2 : Int32} {σ : Mem} {rr : Int32} {σr : Mem} (hk0 : kd k0 = 8) (hk1 : kd a1 = 2) (h : f_X8_bestWax k0 a1 a2 σ = some (rr, σr)) : Met l yX8_bestWax [Cond.code yX8_bestWax prog_10_method_11_code 5 (some .int)] RM_X8_bestWax (va_Pc [.ref (ga G k0), .ref (ga G a1), .int a2] (Pre G σ)) (QG G (some (.int rr)) σr) 0 0 (AA G) := by
  refine ct_of (by decide) (fun p e s m below meth c X hP => ?_)
  have hx := X.hx
  have hb := X.hb
  have hS : va_S (AA G) s.heap s.heap [] := va_S.rf
  have hl := lv_entry ([.ref (ga G k0), .ref (ga G a1), .int a2]) (n := 5) (Nat.le_of_ble_eq_true rfl)
  rw [lg_entry_eq]
  generalize (lg_sl ([.ref (ga G k0), .ref (ga G a1), .int a2]) ++ List.replicate (5 - (lg_sl ([.ref (ga G k0), .ref (ga G a1), .int a2])).length) Slot.unset).toArray = ls at hl ⊢
  have hl : lv_has ls 5 [(0, .ref (ga G k0)), (1, .ref (ga G a1)), (2, .int a2)] := hl
  unfold f_X8_bestWax at h
  refine lv_aload_n (pc := 0) hx hb dX8_bestWax_0 rfl (lv_at hl 0 rfl) ?_
  obtain ⟨σ1, e2, h⟩ := bnd1 h
  refine cl_X8_68 X hP hS hk0 (As := []) (rest := []) (c_X8_forgetBest l G hk0 e2) ⟨rfl, rfl, Nat.le_of_ble_eq_true rfl, Nat.le_of_ble_eq_true rfl⟩ rfl hl.1 rfl (Nat.le_of_ble_eq_true rfl) ⟨Nat.zero_le _, Nat.zero_le _⟩ (pc := 1) dX8_bestWax_1 (fun H locs hP hS => ?_)
  change W p l e _ s m _ below meth c H locs _ _ _ (F0 m (1 + 3) ls [])
  refine lv_iconst (pc := 4) (v := 1) hx hb dX8_bestWax_4 (by decide) ?_
  refine lv_istore_n (pc := 5) (lv' := [(3, .int (1 : Int32)), (0, .ref (ga G k0)), (1, .ref (ga G a1)), (2, .int a2)]) hx hb dX8_bestWax_5 rfl hl (by decide) rfl (fun ls hl => ?_)
  exact w_X8_bestWax_6 X  hk0 hk1  FU _ _ _ _ _ hP hS (lv_sub hl [1, 2, 3, 0] rfl) h
def F_X8_bestSilent_6 (k0z : Nat) (k1z : Nat) (p2 : Int32) (rec1 : Int32 → Mem → Option (Int32 × Mem)) : Int32 → Mem → Option (Int32 × Mem) := fun v3 σ =>
  if (gI σ k1z 3) ≤ v3 then
    some ((gI σ k0z 1), σ)
  else
    bd1 (f_X8_setStage k0z k1z p2 σ) fun σ4 =>
    bd2 (f_X2_bidderAt (k0z + 1) v3 σ4) fun r8 σ6 =>
    onr r8 (
      bd2 (f_X2_goTicks_IN (k0z + 1) (60 : Int32) σ6) fun r13 σ11 =>
      bd2 (f_X8_winner k0z p2 σ11) fun r16 σ14 =>
      if r16 = (-9 : Int32) then
        rec1 (v3 + (1 : Int32)) σ14
      else
        bd2 (f_X8_price k0z p2 σ14) fun r20 σ18 =>
        bd1 (f_X8_weighLeast k0z v3 r20 σ18) fun σ21 =>
        rec1 (v3 + (1 : Int32)) σ21
      ) fun q9 => grd (kd q9 = 0) <|
      bd1 (some (pI σ6 q9 2 (0 : Int32))) fun σ23 =>
      bd2 (f_X2_goTicks_IN (k0z + 1) (60 : Int32) σ23) fun r27 σ25 =>
      bd2 (f_X8_winner k0z p2 σ25) fun r30 σ28 =>
      if r30 = (-9 : Int32) then
        rec1 (v3 + (1 : Int32)) σ28
      else
        bd2 (f_X8_price k0z p2 σ28) fun r34 σ32 =>
        bd1 (f_X8_weighLeast k0z v3 r34 σ32) fun σ35 =>
        rec1 (v3 + (1 : Int32)) σ35
def f_X8_bestSilent (k0 : Nat) (a1 : Nat) (a2 : Int32) (σ : Mem) : Option (Int32 × Mem) :=
  bd1 (f_X8_forgetBest k0 σ) fun σ1 =>
  iterF (F_X8_bestSilent_6 k0 a1 a2) (fun _ _ => none) FU (0 : Int32) σ1
abbrev RM_X8_bestSilent : Room := { frames := 5, cells := 0, slots := 0, locals := 114 }
set_option maxHeartbeats 4000000 in
set_option maxRecDepth 100000 in
theorem w_X8_bestSilent_6 {l : Launch} {G : Gh} {p : Program} {e : Env} {s : State} {m : MethodId} {args : Array Value} {below : List Frame} {meth : Method} {c : Code} (X : Cx G p s m args meth c prog_10_method_12_code RX8 5 (some .int)) {k0z : Nat} {k1z : Nat} {p2 : Int32} (hz0 : kd k0z = 8) (hz1 : kd k1z = 2) {rr : Int32} {σr : Mem} : ∀ (n : Nat) (v3 : Int32) (σ : Mem) (H : Heap) (locs : List Loc) (ls : Array Slot), PW G σ H → va_S (AA G) s.heap H locs → lv_has ls 5 [(0, .ref (ga G k0z)), (1, .ref (ga G k1z)), (2, .int p2), (3, .int v3)] → iterF (F_X8_bestSilent_6 k0z k1z p2) (fun _ _ => none) n v3 σ = some (rr, σr) → W p l e RM_X8_bestSilent s m args below meth c H locs 0 0 (MQ below (QG G (some (.int rr)) σr) args s 0 0 (AA G)) (F0 m 6 ls []) := by
  have hx := X.hx
  have hb := X.hb
  intro n
  induction n with
  | zero => intro v3 σ H locs ls hP hS hl h; exact nnone (α := (Int32 × Mem)) h
  | succ n ih1 =>
    intro v3 σ H locs ls hP hS hl h
    have h : F_X8_bestSilent_6 k0z k1z p2 (iterF (F_X8_bestSilent_6 k0z k1z p2) (fun _ _ => none) n) v3 σ = some _ := h
    unfold F_X8_bestSilent_6 at h
    refine lv_iload_n (pc := 6) hx hb dX8_bestSilent_6 rfl (lv_at hl 3 rfl) ?_
    refine lv_aload_n (pc := 7) hx hb dX8_bestSilent_7 rfl (lv_at hl 1 rfl) ?_
    refine gt_X8_99 X hP hz1 dX8_bestSilent_8 ?_
    refine lv_icmp_ge (pc := 11) (tgt := 78) hx hb dX8_bestSilent_11 (by decide) (fun c3 => ?_) (fun c3 => ?_)
    · have h := ipos c3 h
      refine lv_aload_n (pc := 78) hx hb dX8_bestSilent_78 rfl (lv_at hl 0 rfl) ?_
      refine gt_X8_18 X hP hz0 dX8_bestSilent_79 ?_
      obtain ⟨rfl, rfl⟩ := inj2 h
      exact r_iret X hP hS dX8_bestSilent_82
    · have h := ineg c3 h
      refine lv_aload_n (pc := 14) hx hb dX8_bestSilent_14 rfl (lv_at hl 0 rfl) ?_
      refine lv_aload_n (pc := 15) hx hb dX8_bestSilent_15 rfl (lv_at hl 1 rfl) ?_
      refine lv_iload_n (pc := 16) hx hb dX8_bestSilent_16 rfl (lv_at hl 2 rfl) ?_
      obtain ⟨σ4, e5, h⟩ := bnd1 h
      refine cl_X8_40 X hP hS hz0 (As := [.ref (ga G k1z), .int p2]) (rest := []) (c_X8_setStage l G hz0 hz1 e5) ⟨rfl, rfl, Nat.le_of_ble_eq_true rfl, Nat.le_of_ble_eq_true rfl⟩ rfl hl.1 rfl (Nat.le_of_ble_eq_true rfl) ⟨Nat.zero_le _, Nat.zero_le _⟩ (pc := 17) dX8_bestSilent_17 (fun H locs hP hS => ?_)
      change W p l e _ s m _ below meth c H locs _ _ _ (F0 m (17 + 3) ls [])
      refine lv_aload_n (pc := 20) hx hb dX8_bestSilent_20 rfl (lv_at hl 0 rfl) ?_
      refine gt_X8_12 X hP hz0 dX8_bestSilent_21 ?_
      refine lv_iload_n (pc := 24) hx hb dX8_bestSilent_24 rfl (lv_at hl 3 rfl) ?_
      obtain ⟨r8, σ6, e7, h⟩ := bnd2 h
      rcases r8 with _ | q9
      · have h := onr_n h
        refine cl_X8_71 X hP hS (kf_8_stage hz0).1 (As := [.int v3]) (rest := []) (c_X2_bidderAt l G (kf_8_stage hz0).1 e7) ⟨rfl, rfl, Nat.le_of_ble_eq_true rfl, Nat.le_of_ble_eq_true rfl⟩ rfl hl.1 rfl (Nat.le_of_ble_eq_true rfl) ⟨Nat.zero_le _, Nat.zero_le _⟩ (pc := 25) dX8_bestSilent_25 (fun H locs hP hS => ?_)
        change W p l e _ s m _ below meth c H locs _ _ _ (F0 m (25 + 3) ls (.null :: []))
        refine lv_astoreN (pc := 28) (lv' := [(4, .null), (0, .ref (ga G k0z)), (1, .ref (ga G k1z)), (2, .int p2), (3, .int v3)]) hx hb dX8_bestSilent_28 hl (by decide) rfl (fun ls hl => ?_)
        refine lv_aloadN (pc := 30) hx hb dX8_bestSilent_30 (lv_at hl 0 rfl) ?_
        refine lv_ifnullN (pc := 32) (tgt := 41) hx hb dX8_bestSilent_32 (by decide) ?_
        refine lv_aload_n (pc := 41) hx hb dX8_bestSilent_41 rfl (lv_at hl 1 rfl) ?_
        refine gt_X8_12 X hP hz0 dX8_bestSilent_42 ?_
        refine lv_bipush (pc := 45) (v := (60)) hx hb dX8_bestSilent_45 (by decide) ?_
        refine lv_null (pc := 47) hx hb dX8_bestSilent_47 ?_
        obtain ⟨r13, σ11, e12, h⟩ := bnd2 h
        refine cl_X8_44 X hP hS (kf_8_stage hz0).1 (As := [.int (60 : Int32), .null]) (rest := []) (c_X2_goTicks_IN l G (kf_8_stage hz0).1 e12) ⟨rfl, rfl, Nat.le_of_ble_eq_true rfl, Nat.le_of_ble_eq_true rfl⟩ rfl hl.1 rfl (Nat.le_of_ble_eq_true rfl) ⟨Nat.zero_le _, Nat.zero_le _⟩ (pc := 48) dX8_bestSilent_48 (fun H locs hP hS => ?_)
        change W p l e _ s m _ below meth c H locs _ _ _ (F0 m (48 + 3) ls (.int r13 :: []))
        refine lv_pop (pc := 51) hx hb dX8_bestSilent_51 rfl ?_
        refine lv_aload_n (pc := 52) hx hb dX8_bestSilent_52 rfl (lv_at hl 1 rfl) ?_
        refine lv_iload_n (pc := 53) hx hb dX8_bestSilent_53 rfl (lv_at hl 3 rfl) ?_
        obtain ⟨r16, σ14, e15, h⟩ := bnd2 h
        refine cl_X8_80 X hP hS hz0 (As := [.int p2]) (rest := []) (c_X8_winner l G hz0 e15) ⟨rfl, rfl, Nat.le_of_ble_eq_true rfl, Nat.le_of_ble_eq_true rfl⟩ rfl hl.1 rfl (Nat.le_of_ble_eq_true rfl) ⟨Nat.zero_le _, Nat.zero_le _⟩ (pc := 54) dX8_bestSilent_54 (fun H locs hP hS => ?_)
        change W p l e _ s m _ below meth c H locs _ _ _ (F0 m (54 + 3) ls (.int r16 :: []))
        refine lv_bipush (pc := 57) (v := (-9)) hx hb dX8_bestSilent_57 (by decide) ?_
        refine lv_icmp_eq (pc := 59) (tgt := 72) hx hb dX8_bestSilent_59 (by decide) (fun c17 => ?_) (fun c17 => ?_)
        · have h := ipos c17 h
          refine lv_iinc (pc := 72) (v := (v3 + (1 : Int32))) (lv' := [(3, .int (v3 + (1 : Int32))), (4, .null), (0, .ref (ga G k0z)), (1, .ref (ga G k1z)), (2, .int p2)]) hx hb dX8_bestSilent_72 hl (k := 4) rfl (congrArg (fun z => v3 + z) (by decide)) (by decide) rfl (fun ls hl => ?_)
          refine lv_goto (pc := 75) (tgt := 6) hx hb dX8_bestSilent_75 (by decide) ?_
          exact ih1 _ _ _ _ _ hP hS (lv_sub hl [2, 3, 4, 0] rfl) h
        · have h := ineg c17 h
          refine lv_aload_n (pc := 62) hx hb dX8_bestSilent_62 rfl (lv_at hl 1 rfl) ?_
          refine lv_iload_n (pc := 63) hx hb dX8_bestSilent_63 rfl (lv_at hl 4 rfl) ?_
          refine lv_aload_n (pc := 64) hx hb dX8_bestSilent_64 rfl (lv_at hl 1 rfl) ?_
          refine lv_iload_n (pc := 65) hx hb dX8_bestSilent_65 rfl (lv_at hl 3 rfl) ?_
          obtain ⟨r20, σ18, e19, h⟩ := bnd2 h
          refine cl_X8_84 X hP hS hz0 (As := [.int p2]) (rest := [.int v3, .ref (ga G k0z)]) (c_X8_price l G hz0 e19) ⟨rfl, rfl, Nat.le_of_ble_eq_true rfl, Nat.le_of_ble_eq_true rfl⟩ rfl hl.1 rfl (Nat.le_of_ble_eq_true rfl) ⟨Nat.zero_le _, Nat.zero_le _⟩ (pc := 66) dX8_bestSilent_66 (fun H locs hP hS => ?_)
          change W p l e _ s m _ below meth c H locs _ _ _ (F0 m (66 + 3) ls (.int r20 :: [.int v3, .ref (ga G k0z)]))
          obtain ⟨σ21, e22, h⟩ := bnd1 h
          refine cl_X8_86 X hP hS hz0 (As := [.int v3, .int r20]) (rest := []) (c_X8_weighLeast l G hz0 e22) ⟨rfl, rfl, Nat.le_of_ble_eq_true rfl, Nat.le_of_ble_eq_true rfl⟩ rfl hl.1 rfl (Nat.le_of_ble_eq_true rfl) ⟨Nat.zero_le _, Nat.zero_le _⟩ (pc := 69) dX8_bestSilent_69 (fun H locs hP hS => ?_)
          change W p l e _ s m _ below meth c H locs _ _ _ (F0 m (69 + 3) ls [])
          refine lv_iinc (pc := 72) (v := (v3 + (1 : Int32))) (lv' := [(3, .int (v3 + (1 : Int32))), (4, .null), (0, .ref (ga G k0z)), (1, .ref (ga G k1z)), (2, .int p2)]) hx hb dX8_bestSilent_72 hl (k := 4) rfl (congrArg (fun z => v3 + z) (by decide)) (by decide) rfl (fun ls hl => ?_)
          refine lv_goto (pc := 75) (tgt := 6) hx hb dX8_bestSilent_75 (by decide) ?_
          exact ih1 _ _ _ _ _ hP hS (lv_sub hl [2, 3, 4, 0] rfl) h
      · have h := onr_s h
        obtain ⟨hq10, h⟩ := grd_inv h
        refine cl_X8_71 X hP hS (kf_8_stage hz0).1 (As := [.int v3]) (rest := []) (c_X2_bidderAt l G (kf_8_stage hz0).1 e7) ⟨rfl, rfl, Nat.le_of_ble_eq_true rfl, Nat.le_of_ble_eq_true rfl⟩ rfl hl.1 rfl (Nat.le_of_ble_eq_true rfl) ⟨Nat.zero_le _, Nat.zero_le _⟩ (pc := 25) dX8_bestSilent_25 (fun H locs hP hS => ?_)
        change W p l e _ s m _ below meth c H locs _ _ _ (F0 m (25 + 3) ls (.ref (ga G q9) :: []))
        refine lv_astore (pc := 28) (lv' := [(4, .ref (ga G q9)), (0, .ref (ga G k0z)), (1, .ref (ga G k1z)), (2, .int p2), (3, .int v3)]) hx hb dX8_bestSilent_28 hl (by decide) rfl (fun ls hl => ?_)
        refine lv_aload (pc := 30) hx hb dX8_bestSilent_30 (lv_at hl 0 rfl) ?_
        refine lv_ifnull (pc := 32) hx hb dX8_bestSilent_32 ?_
        refine lv_aload (pc := 35) hx hb dX8_bestSilent_35 (lv_at hl 0 rfl) ?_
        refine lv_iconst (pc := 37) (v := 0) hx hb dX8_bestSilent_37 (by decide) ?_
        obtain ⟨σ23, e24, h⟩ := bnd1 h
        refine pt_X8_102 X hP hS hq10 dX8_bestSilent_38 (fun H locs hP hS => ?_)
        rw [Option.some.inj e24] at hP
        refine lv_aload_n (pc := 41) hx hb dX8_bestSilent_41 rfl (lv_at hl 1 rfl) ?_
        refine gt_X8_12 X hP hz0 dX8_bestSilent_42 ?_
        refine lv_bipush (pc := 45) (v := (60)) hx hb dX8_bestSilent_45 (by decide) ?_
        refine lv_null (pc := 47) hx hb dX8_bestSilent_47 ?_
        obtain ⟨r27, σ25, e26, h⟩ := bnd2 h
        refine cl_X8_44 X hP hS (kf_8_stage hz0).1 (As := [.int (60 : Int32), .null]) (rest := []) (c_X2_goTicks_IN l G (kf_8_stage hz0).1 e26) ⟨rfl, rfl, Nat.le_of_ble_eq_true rfl, Nat.le_of_ble_eq_true rfl⟩ rfl hl.1 rfl (Nat.le_of_ble_eq_true rfl) ⟨Nat.zero_le _, Nat.zero_le _⟩ (pc := 48) dX8_bestSilent_48 (fun H locs hP hS => ?_)
        change W p l e _ s m _ below meth c H locs _ _ _ (F0 m (48 + 3) ls (.int r27 :: []))
        refine lv_pop (pc := 51) hx hb dX8_bestSilent_51 rfl ?_
        refine lv_aload_n (pc := 52) hx hb dX8_bestSilent_52 rfl (lv_at hl 1 rfl) ?_
        refine lv_iload_n (pc := 53) hx hb dX8_bestSilent_53 rfl (lv_at hl 3 rfl) ?_
        obtain ⟨r30, σ28, e29, h⟩ := bnd2 h
        refine cl_X8_80 X hP hS hz0 (As := [.int p2]) (rest := []) (c_X8_winner l G hz0 e29) ⟨rfl, rfl, Nat.le_of_ble_eq_true rfl, Nat.le_of_ble_eq_true rfl⟩ rfl hl.1 rfl (Nat.le_of_ble_eq_true rfl) ⟨Nat.zero_le _, Nat.zero_le _⟩ (pc := 54) dX8_bestSilent_54 (fun H locs hP hS => ?_)
        change W p l e _ s m _ below meth c H locs _ _ _ (F0 m (54 + 3) ls (.int r30 :: []))
        refine lv_bipush (pc := 57) (v := (-9)) hx hb dX8_bestSilent_57 (by decide) ?_
        refine lv_icmp_eq (pc := 59) (tgt := 72) hx hb dX8_bestSilent_59 (by decide) (fun c31 => ?_) (fun c31 => ?_)
        · have h := ipos c31 h
          refine lv_iinc (pc := 72) (v := (v3 + (1 : Int32))) (lv' := [(3, .int (v3 + (1 : Int32))), (4, .ref (ga G q9)), (0, .ref (ga G k0z)), (1, .ref (ga G k1z)), (2, .int p2)]) hx hb dX8_bestSilent_72 hl (k := 4) rfl (congrArg (fun z => v3 + z) (by decide)) (by decide) rfl (fun ls hl => ?_)
          refine lv_goto (pc := 75) (tgt := 6) hx hb dX8_bestSilent_75 (by decide) ?_
          exact ih1 _ _ _ _ _ hP hS (lv_sub hl [2, 3, 4, 0] rfl) h
        · have h := ineg c31 h
          refine lv_aload_n (pc := 62) hx hb dX8_bestSilent_62 rfl (lv_at hl 1 rfl) ?_
          refine lv_iload_n (pc := 63) hx hb dX8_bestSilent_63 rfl (lv_at hl 4 rfl) ?_
          refine lv_aload_n (pc := 64) hx hb dX8_bestSilent_64 rfl (lv_at hl 1 rfl) ?_
          refine lv_iload_n (pc := 65) hx hb dX8_bestSilent_65 rfl (lv_at hl 3 rfl) ?_
          obtain ⟨r34, σ32, e33, h⟩ := bnd2 h
          refine cl_X8_84 X hP hS hz0 (As := [.int p2]) (rest := [.int v3, .ref (ga G k0z)]) (c_X8_price l G hz0 e33) ⟨rfl, rfl, Nat.le_of_ble_eq_true rfl, Nat.le_of_ble_eq_true rfl⟩ rfl hl.1 rfl (Nat.le_of_ble_eq_true rfl) ⟨Nat.zero_le _, Nat.zero_le _⟩ (pc := 66) dX8_bestSilent_66 (fun H locs hP hS => ?_)
          change W p l e _ s m _ below meth c H locs _ _ _ (F0 m (66 + 3) ls (.int r34 :: [.int v3, .ref (ga G k0z)]))
          obtain ⟨σ35, e36, h⟩ := bnd1 h
          refine cl_X8_86 X hP hS hz0 (As := [.int v3, .int r34]) (rest := []) (c_X8_weighLeast l G hz0 e36) ⟨rfl, rfl, Nat.le_of_ble_eq_true rfl, Nat.le_of_ble_eq_true rfl⟩ rfl hl.1 rfl (Nat.le_of_ble_eq_true rfl) ⟨Nat.zero_le _, Nat.zero_le _⟩ (pc := 69) dX8_bestSilent_69 (fun H locs hP hS => ?_)
          change W p l e _ s m _ below meth c H locs _ _ _ (F0 m (69 + 3) ls [])
          refine lv_iinc (pc := 72) (v := (v3 + (1 : Int32))) (lv' := [(3, .int (v3 + (1 : Int32))), (4, .ref (ga G q9)), (0, .ref (ga G k0z)), (1, .ref (ga G k1z)), (2, .int p2)]) hx hb dX8_bestSilent_72 hl (k := 4) rfl (congrArg (fun z => v3 + z) (by decide)) (by decide) rfl (fun ls hl => ?_)
          refine lv_goto (pc := 75) (tgt := 6) hx hb dX8_bestSilent_75 (by decide) ?_
          exact ih1 _ _ _ _ _ hP hS (lv_sub hl [2, 3, 4, 0] rfl) h
set_option maxHeartbeats 4000000 in
set_option maxRecDepth 100000 in
theorem c_X8_bestSilent (l : Launch) (G : Gh) {k0 : Nat} {a1 : Nat} {a2 : Int32} {σ : Mem} {rr : Int32} {σr : Mem} (hk0 : kd k0 = 8) (hk1 : kd a1 = 2) (h : f_X8_bestSilent k0 a1 a2 σ = some (rr, σr)) : Met l yX8_bestSilent [Cond.code yX8_bestSilent prog_10_method_12_code 5 (some .int)] RM_X8_bestSilent (va_Pc [.ref (ga G k0), .ref (ga G a1), .int a2] (Pre G σ)) (QG G (some (.int rr)) σr) 0 0 (AA G) := by
  refine ct_of (by decide) (fun p e s m below meth c X hP => ?_)
  have hx := X.hx
  have hb := X.hb
  have hS : va_S (AA G) s.heap s.heap [] := va_S.rf
  have hl := lv_entry ([.ref (ga G k0), .ref (ga G a1), .int a2]) (n := 5) (Nat.le_of_ble_eq_true rfl)
  rw [lg_entry_eq]
  generalize (lg_sl ([.ref (ga G k0), .ref (ga G a1), .int a2]) ++ List.replicate (5 - (lg_sl ([.ref (ga G k0), .ref (ga G a1), .int a2])).length) Slot.unset).toArray = ls at hl ⊢
  have hl : lv_has ls 5 [(0, .ref (ga G k0)), (1, .ref (ga G a1)), (2, .int a2)] := hl
  unfold f_X8_bestSilent at h
  refine lv_aload_n (pc := 0) hx hb dX8_bestSilent_0 rfl (lv_at hl 0 rfl) ?_
  obtain ⟨σ1, e2, h⟩ := bnd1 h
  refine cl_X8_68 X hP hS hk0 (As := []) (rest := []) (c_X8_forgetBest l G hk0 e2) ⟨rfl, rfl, Nat.le_of_ble_eq_true rfl, Nat.le_of_ble_eq_true rfl⟩ rfl hl.1 rfl (Nat.le_of_ble_eq_true rfl) ⟨Nat.zero_le _, Nat.zero_le _⟩ (pc := 1) dX8_bestSilent_1 (fun H locs hP hS => ?_)
  change W p l e _ s m _ below meth c H locs _ _ _ (F0 m (1 + 3) ls [])
  refine lv_iconst (pc := 4) (v := 0) hx hb dX8_bestSilent_4 (by decide) ?_
  refine lv_istore_n (pc := 5) (lv' := [(3, .int (0 : Int32)), (0, .ref (ga G k0)), (1, .ref (ga G a1)), (2, .int a2)]) hx hb dX8_bestSilent_5 rfl hl (by decide) rfl (fun ls hl => ?_)
  exact w_X8_bestSilent_6 X  hk0 hk1  FU _ _ _ _ _ hP hS (lv_sub hl [1, 2, 3, 0] rfl) h
def f_X8_lotInBestOrder (k0 : Nat) (a1 : Int32) (σ : Mem) : Option (Int32 × Mem) :=
  if a1 < (0 : Int32) then
    some ((-3 : Int32), σ)
  else
    if (5 : Int32) ≤ a1 then
      some ((-3 : Int32), σ)
    else
      bd1 (ixo (k0 + 17) a1) fun j3 =>
      some ((gI σ (k0 + 17) j3), σ)
abbrev RM_X8_lotInBestOrder : Room := { frames := 0, cells := 0, slots := 0, locals := 0 }
set_option maxHeartbeats 4000000 in
set_option maxRecDepth 100000 in
theorem c_X8_lotInBestOrder (l : Launch) (G : Gh) {k0 : Nat} {a1 : Int32} {σ : Mem} {rr : Int32} {σr : Mem} (hk0 : kd k0 = 8) (h : f_X8_lotInBestOrder k0 a1 σ = some (rr, σr)) : Met l yX8_lotInBestOrder [Cond.code yX8_lotInBestOrder prog_10_method_13_code 2 (some .int)] RM_X8_lotInBestOrder (va_Pc [.ref (ga G k0), .int a1] (Pre G σ)) (QG G (some (.int rr)) σr) 0 0 (AA G) := by
  refine ct_of (by decide) (fun p e s m below meth c X hP => ?_)
  have hx := X.hx
  have hb := X.hb
  have hS : va_S (AA G) s.heap s.heap [] := va_S.rf
  have hl := lv_entry ([.ref (ga G k0), .int a1]) (n := 2) (Nat.le_of_ble_eq_true rfl)
  rw [lg_entry_eq]
  generalize (lg_sl ([.ref (ga G k0), .int a1]) ++ List.replicate (2 - (lg_sl ([.ref (ga G k0), .int a1])).length) Slot.unset).toArray = ls at hl ⊢
  have hl : lv_has ls 2 [(0, .ref (ga G k0)), (1, .int a1)] := hl
  unfold f_X8_lotInBestOrder at h
  refine lv_iload_n (pc := 0) hx hb dX8_lotInBestOrder_0 rfl (lv_at hl 1 rfl) ?_
  refine lv_if_lt (pc := 1) (tgt := 18) hx hb dX8_lotInBestOrder_1 (by decide) (fun c1 => ?_) (fun c1 => ?_)
  · have h := ipos c1 h
    refine lv_bipush (pc := 18) (v := (-3)) hx hb dX8_lotInBestOrder_18 (by decide) ?_
    obtain ⟨rfl, rfl⟩ := inj2 h
    exact r_iret X hP hS dX8_lotInBestOrder_20
  · have h := ineg c1 h
    refine lv_iload_n (pc := 4) hx hb dX8_lotInBestOrder_4 rfl (lv_at hl 1 rfl) ?_
    refine lv_iconst (pc := 5) (v := 5) hx hb dX8_lotInBestOrder_5 (by decide) ?_
    refine lv_icmp_ge (pc := 6) (tgt := 18) hx hb dX8_lotInBestOrder_6 (by decide) (fun c2 => ?_) (fun c2 => ?_)
    · have h := ipos c2 h
      refine lv_bipush (pc := 18) (v := (-3)) hx hb dX8_lotInBestOrder_18 (by decide) ?_
      obtain ⟨rfl, rfl⟩ := inj2 h
      exact r_iret X hP hS dX8_lotInBestOrder_20
    · have h := ineg c2 h
      refine lv_aload_n (pc := 9) hx hb dX8_lotInBestOrder_9 rfl (lv_at hl 0 rfl) ?_
      refine gt_X8_29 X hP hk0 dX8_lotInBestOrder_10 ?_
      refine lv_iload_n (pc := 13) hx hb dX8_lotInBestOrder_13 rfl (lv_at hl 1 rfl) ?_
      obtain ⟨j3, hj4, h⟩ := bnd1 h
      refine r_iald (pc := 14) X hP (kf_8_bestOrder hk0).1 hj4 dX8_lotInBestOrder_14 ?_
      refine lv_goto (pc := 15) (tgt := 20) hx hb dX8_lotInBestOrder_15 (by decide) ?_
      obtain ⟨rfl, rfl⟩ := inj2 h
      exact r_iret X hP hS dX8_lotInBestOrder_20
def F_X8_savePurses_2 (k0z : Nat) (k1z : Nat) (rec1 : Int32 → Mem → Option Mem) : Int32 → Mem → Option Mem := fun v2 σ =>
  if (6 : Int32) ≤ v2 then
    some σ
  else
    if (Int32.ofNat (al k1z)) ≤ v2 then
      some σ
    else
      bd1 (ixo ((k0z + 1) + 2) v2) fun j3 =>
      bd1 (ixo k1z v2) fun j5 =>
      bd1 (some (pI σ k1z j5 (gI σ (((k0z + 1) + 2) + 7 + j3) 3))) fun σ7 =>
      rec1 (v2 + (1 : Int32)) σ7
def f_X8_savePurses (k0 : Nat) (a1 : Nat) (σ : Mem) : Option Mem :=
  iterF (F_X8_savePurses_2 k0 a1) (fun _ _ => none) FU (0 : Int32) σ
abbrev RM_X8_savePurses : Room := { frames := 0, cells := 0, slots := 0, locals := 0 }
set_option maxHeartbeats 4000000 in
set_option maxRecDepth 100000 in
theorem w_X8_savePurses_2 {l : Launch} {G : Gh} {p : Program} {e : Env} {s : State} {m : MethodId} {args : Array Value} {below : List Frame} {meth : Method} {c : Code} (X : Cx G p s m args meth c prog_10_method_18_code RX8 3 none) {k0z : Nat} {k1z : Nat} (hz0 : kd k0z = 8) (hz1 : kd k1z = 12) {σr : Mem} : ∀ (n : Nat) (v2 : Int32) (σ : Mem) (H : Heap) (locs : List Loc) (ls : Array Slot), PW G σ H → va_S (AA G) s.heap H locs → lv_has ls 3 [(0, .ref (ga G k0z)), (1, .ref (ga G k1z)), (2, .int v2)] → iterF (F_X8_savePurses_2 k0z k1z) (fun _ _ => none) n v2 σ = some σr → W p l e RM_X8_savePurses s m args below meth c H locs 0 0 (MQ below (QG G none σr) args s 0 0 (AA G)) (F0 m 2 ls []) := by
  have hx := X.hx
  have hb := X.hb
  intro n
  induction n with
  | zero => intro v2 σ H locs ls hP hS hl h; exact nnone (α := Mem) h
  | succ n ih1 =>
    intro v2 σ H locs ls hP hS hl h
    have h : F_X8_savePurses_2 k0z k1z (iterF (F_X8_savePurses_2 k0z k1z) (fun _ _ => none) n) v2 σ = some _ := h
    unfold F_X8_savePurses_2 at h
    refine lv_iload_n (pc := 2) hx hb dX8_savePurses_2 rfl (lv_at hl 2 rfl) ?_
    refine lv_bipush (pc := 3) (v := (6)) hx hb dX8_savePurses_3 (by decide) ?_
    refine lv_icmp_ge (pc := 5) (tgt := 35) hx hb dX8_savePurses_5 (by decide) (fun c1 => ?_) (fun c1 => ?_)
    · have h := ipos c1 h
      obtain rfl := Option.some.inj h
      exact r_vret X hP hS dX8_savePurses_35
    · have h := ineg c1 h
      refine lv_iload_n (pc := 8) hx hb dX8_savePurses_8 rfl (lv_at hl 2 rfl) ?_
      refine lv_aload_n (pc := 9) hx hb dX8_savePurses_9 rfl (lv_at hl 1 rfl) ?_
      refine r_alen12 (pc := 10) X hP hz1 dX8_savePurses_10 ?_
      refine lv_icmp_ge (pc := 11) (tgt := 35) hx hb dX8_savePurses_11 (by decide) (fun c2 => ?_) (fun c2 => ?_)
      · have h := ipos c2 h
        obtain rfl := Option.some.inj h
        exact r_vret X hP hS dX8_savePurses_35
      · have h := ineg c2 h
        refine lv_aload_n (pc := 14) hx hb dX8_savePurses_14 rfl (lv_at hl 1 rfl) ?_
        refine lv_iload_n (pc := 15) hx hb dX8_savePurses_15 rfl (lv_at hl 2 rfl) ?_
        refine lv_aload_n (pc := 16) hx hb dX8_savePurses_16 rfl (lv_at hl 0 rfl) ?_
        refine gt_X8_12 X hP hz0 dX8_savePurses_17 ?_
        refine gt_X8_131 X hP (kf_8_stage hz0).1 dX8_savePurses_20 ?_
        refine lv_iload_n (pc := 23) hx hb dX8_savePurses_23 rfl (lv_at hl 2 rfl) ?_
        obtain ⟨j3, hj4, h⟩ := bnd1 h
        refine r_ald14 (pc := 24) X hP (kf_2_bidders (kf_8_stage hz0).1).1 hj4 dX8_savePurses_24 ?_
        refine gt_X8_135 X hP (ke_14 (kf_2_bidders (kf_8_stage hz0).1).1 hj4) dX8_savePurses_25 ?_
        obtain ⟨j5, hj6, h⟩ := bnd1 h
        obtain ⟨σ7, e8, h⟩ := bnd1 h
        refine r_iast (pc := 28) X hP hS hz1 hj6 dX8_savePurses_28 (fun H locs hP hS => ?_)
        rw [Option.some.inj e8] at hP
        refine lv_iinc (pc := 29) (v := (v2 + (1 : Int32))) (lv' := [(2, .int (v2 + (1 : Int32))), (0, .ref (ga G k0z)), (1, .ref (ga G k1z))]) hx hb dX8_savePurses_29 hl (k := 2) rfl (congrArg (fun z => v2 + z) (by decide)) (by decide) rfl (fun ls hl => ?_)
        refine lv_goto (pc := 32) (tgt := 2) hx hb dX8_savePurses_32 (by decide) ?_
        exact ih1 _ _ _ _ _ hP hS (lv_sub hl [1, 2, 0] rfl) h
set_option maxHeartbeats 4000000 in
set_option maxRecDepth 100000 in
theorem c_X8_savePurses (l : Launch) (G : Gh) {k0 : Nat} {a1 : Nat} {σ : Mem} {σr : Mem} (hk0 : kd k0 = 8) (hk1 : kd a1 = 12) (h : f_X8_savePurses k0 a1 σ = some σr) : Met l yX8_savePurses [Cond.code yX8_savePurses prog_10_method_18_code 3 none] RM_X8_savePurses (va_Pc [.ref (ga G k0), .ref (ga G a1)] (Pre G σ)) (QG G none σr) 0 0 (AA G) := by
  refine ct_of (by decide) (fun p e s m below meth c X hP => ?_)
  have hx := X.hx
  have hb := X.hb
  have hS : va_S (AA G) s.heap s.heap [] := va_S.rf
  have hl := lv_entry ([.ref (ga G k0), .ref (ga G a1)]) (n := 3) (Nat.le_of_ble_eq_true rfl)
  rw [lg_entry_eq]
  generalize (lg_sl ([.ref (ga G k0), .ref (ga G a1)]) ++ List.replicate (3 - (lg_sl ([.ref (ga G k0), .ref (ga G a1)])).length) Slot.unset).toArray = ls at hl ⊢
  have hl : lv_has ls 3 [(0, .ref (ga G k0)), (1, .ref (ga G a1))] := hl
  unfold f_X8_savePurses at h
  refine lv_iconst (pc := 0) (v := 0) hx hb dX8_savePurses_0 (by decide) ?_
  refine lv_istore_n (pc := 1) (lv' := [(2, .int (0 : Int32)), (0, .ref (ga G k0)), (1, .ref (ga G a1))]) hx hb dX8_savePurses_1 rfl hl (by decide) rfl (fun ls hl => ?_)
  exact w_X8_savePurses_2 X  hk0 hk1  FU _ _ _ _ _ hP hS (lv_sub hl [1, 2, 0] rfl) h
def F_X8_listUnsold_4 (k0z : Nat) (k1z : Nat) (rec1 : Int32 → Int32 → Mem → Option (Int32 × Mem)) : Int32 → Int32 → Mem → Option (Int32 × Mem) := fun v2 v3 σ =>
  if (5 : Int32) ≤ v3 then
    some (v2, σ)
  else
    bd2 (f_X2_unsoldAt k1z v3 σ) fun r4 σ2 =>
    onr r4 (
      rec1 v2 (v3 + (1 : Int32)) σ2
      ) fun q5 => grd (kd q5 = 3) <|
      bd1 (ixo (k0z + 16) v2) fun j7 =>
      bd1 (some (pI σ2 (k0z + 16) j7 v3)) fun σ9 =>
      rec1 (v2 + (1 : Int32)) (v3 + (1 : Int32)) σ9
def f_X8_listUnsold (k0 : Nat) (a1 : Nat) (σ : Mem) : Option (Int32 × Mem) :=
  iterF (F_X8_listUnsold_4 k0 a1) (fun _ _ _ => none) FU (0 : Int32) (0 : Int32) σ
abbrev RM_X8_listUnsold : Room := { frames := 2, cells := 0, slots := 0, locals := 43 }
set_option maxHeartbeats 4000000 in
set_option maxRecDepth 100000 in
theorem w_X8_listUnsold_4 {l : Launch} {G : Gh} {p : Program} {e : Env} {s : State} {m : MethodId} {args : Array Value} {below : List Frame} {meth : Method} {c : Code} (X : Cx G p s m args meth c prog_10_method_15_code RX8 4 (some .int)) {k0z : Nat} {k1z : Nat} (hz0 : kd k0z = 8) (hz1 : kd k1z = 2) {rr : Int32} {σr : Mem} : ∀ (n : Nat) (v2 : Int32) (v3 : Int32) (σ : Mem) (H : Heap) (locs : List Loc) (ls : Array Slot), PW G σ H → va_S (AA G) s.heap H locs → lv_has ls 4 [(0, .ref (ga G k0z)), (1, .ref (ga G k1z)), (2, .int v2), (3, .int v3)] → iterF (F_X8_listUnsold_4 k0z k1z) (fun _ _ _ => none) n v2 v3 σ = some (rr, σr) → W p l e RM_X8_listUnsold s m args below meth c H locs 0 0 (MQ below (QG G (some (.int rr)) σr) args s 0 0 (AA G)) (F0 m 4 ls []) := by
  have hx := X.hx
  have hb := X.hb
  intro n
  induction n with
  | zero => intro v2 v3 σ H locs ls hP hS hl h; exact nnone (α := (Int32 × Mem)) h
  | succ n ih1 =>
    intro v2 v3 σ H locs ls hP hS hl h
    have h : F_X8_listUnsold_4 k0z k1z (iterF (F_X8_listUnsold_4 k0z k1z) (fun _ _ _ => none) n) v2 v3 σ = some _ := h
    unfold F_X8_listUnsold_4 at h
    refine lv_iload_n (pc := 4) hx hb dX8_listUnsold_4 rfl (lv_at hl 3 rfl) ?_
    refine lv_iconst (pc := 5) (v := 5) hx hb dX8_listUnsold_5 (by decide) ?_
    refine lv_icmp_ge (pc := 6) (tgt := 33) hx hb dX8_listUnsold_6 (by decide) (fun c1 => ?_) (fun c1 => ?_)
    · have h := ipos c1 h
      refine lv_iload_n (pc := 33) hx hb dX8_listUnsold_33 rfl (lv_at hl 2 rfl) ?_
      obtain ⟨rfl, rfl⟩ := inj2 h
      exact r_iret X hP hS dX8_listUnsold_34
    · have h := ineg c1 h
      refine lv_aload_n (pc := 9) hx hb dX8_listUnsold_9 rfl (lv_at hl 1 rfl) ?_
      refine lv_iload_n (pc := 10) hx hb dX8_listUnsold_10 rfl (lv_at hl 3 rfl) ?_
      obtain ⟨r4, σ2, e3, h⟩ := bnd2 h
      rcases r4 with _ | q5
      · have h := onr_n h
        refine cl_X8_125 X hP hS hz1 (As := [.int v3]) (rest := []) (c_X2_unsoldAt l G hz1 e3) ⟨rfl, rfl, Nat.le_of_ble_eq_true rfl, Nat.le_of_ble_eq_true rfl⟩ rfl hl.1 rfl (Nat.le_of_ble_eq_true rfl) ⟨Nat.zero_le _, Nat.zero_le _⟩ (pc := 11) dX8_listUnsold_11 (fun H locs hP hS => ?_)
        change W p l e _ s m _ below meth c H locs _ _ _ (F0 m (11 + 3) ls (.null :: []))
        refine lv_ifnullN (pc := 14) (tgt := 27) hx hb dX8_listUnsold_14 (by decide) ?_
        refine lv_iinc (pc := 27) (v := (v3 + (1 : Int32))) (lv' := [(3, .int (v3 + (1 : Int32))), (0, .ref (ga G k0z)), (1, .ref (ga G k1z)), (2, .int v2)]) hx hb dX8_listUnsold_27 hl (k := 3) rfl (congrArg (fun z => v3 + z) (by decide)) (by decide) rfl (fun ls hl => ?_)
        refine lv_goto (pc := 30) (tgt := 4) hx hb dX8_listUnsold_30 (by decide) ?_
        exact ih1 _ _ _ _ _ _ hP hS (lv_sub hl [1, 2, 3, 0] rfl) h
      · have h := onr_s h
        obtain ⟨hq6, h⟩ := grd_inv h
        refine cl_X8_125 X hP hS hz1 (As := [.int v3]) (rest := []) (c_X2_unsoldAt l G hz1 e3) ⟨rfl, rfl, Nat.le_of_ble_eq_true rfl, Nat.le_of_ble_eq_true rfl⟩ rfl hl.1 rfl (Nat.le_of_ble_eq_true rfl) ⟨Nat.zero_le _, Nat.zero_le _⟩ (pc := 11) dX8_listUnsold_11 (fun H locs hP hS => ?_)
        change W p l e _ s m _ below meth c H locs _ _ _ (F0 m (11 + 3) ls (.ref (ga G q5) :: []))
        refine lv_ifnull (pc := 14) hx hb dX8_listUnsold_14 ?_
        refine lv_aload_n (pc := 17) hx hb dX8_listUnsold_17 rfl (lv_at hl 0 rfl) ?_
        refine gt_X8_25 X hP hz0 dX8_listUnsold_18 ?_
        refine lv_iload_n (pc := 21) hx hb dX8_listUnsold_21 rfl (lv_at hl 2 rfl) ?_
        refine lv_iload_n (pc := 22) hx hb dX8_listUnsold_22 rfl (lv_at hl 3 rfl) ?_
        obtain ⟨j7, hj8, h⟩ := bnd1 h
        obtain ⟨σ9, e10, h⟩ := bnd1 h
        refine r_iast (pc := 23) X hP hS (kf_8_order hz0).1 hj8 dX8_listUnsold_23 (fun H locs hP hS => ?_)
        rw [Option.some.inj e10] at hP
        refine lv_iinc (pc := 24) (v := (v2 + (1 : Int32))) (lv' := [(2, .int (v2 + (1 : Int32))), (0, .ref (ga G k0z)), (1, .ref (ga G k1z)), (3, .int v3)]) hx hb dX8_listUnsold_24 hl (k := 2) rfl (congrArg (fun z => v2 + z) (by decide)) (by decide) rfl (fun ls hl => ?_)
        refine lv_iinc (pc := 27) (v := (v3 + (1 : Int32))) (lv' := [(3, .int (v3 + (1 : Int32))), (2, .int (v2 + (1 : Int32))), (0, .ref (ga G k0z)), (1, .ref (ga G k1z))]) hx hb dX8_listUnsold_27 hl (k := 3) rfl (congrArg (fun z => v3 + z) (by decide)) (by decide) rfl (fun ls hl => ?_)
        refine lv_goto (pc := 30) (tgt := 4) hx hb dX8_listUnsold_30 (by decide) ?_
        exact ih1 _ _ _ _ _ _ hP hS (lv_sub hl [2, 3, 1, 0] rfl) h
set_option maxHeartbeats 4000000 in
set_option maxRecDepth 100000 in
theorem c_X8_listUnsold (l : Launch) (G : Gh) {k0 : Nat} {a1 : Nat} {σ : Mem} {rr : Int32} {σr : Mem} (hk0 : kd k0 = 8) (hk1 : kd a1 = 2) (h : f_X8_listUnsold k0 a1 σ = some (rr, σr)) : Met l yX8_listUnsold [Cond.code yX8_listUnsold prog_10_method_15_code 4 (some .int)] RM_X8_listUnsold (va_Pc [.ref (ga G k0), .ref (ga G a1)] (Pre G σ)) (QG G (some (.int rr)) σr) 0 0 (AA G) := by
  refine ct_of (by decide) (fun p e s m below meth c X hP => ?_)
  have hx := X.hx
  have hb := X.hb
  have hS : va_S (AA G) s.heap s.heap [] := va_S.rf
  have hl := lv_entry ([.ref (ga G k0), .ref (ga G a1)]) (n := 4) (Nat.le_of_ble_eq_true rfl)
  rw [lg_entry_eq]
  generalize (lg_sl ([.ref (ga G k0), .ref (ga G a1)]) ++ List.replicate (4 - (lg_sl ([.ref (ga G k0), .ref (ga G a1)])).length) Slot.unset).toArray = ls at hl ⊢
  have hl : lv_has ls 4 [(0, .ref (ga G k0)), (1, .ref (ga G a1))] := hl
  unfold f_X8_listUnsold at h
  refine lv_iconst (pc := 0) (v := 0) hx hb dX8_listUnsold_0 (by decide) ?_
  refine lv_istore_n (pc := 1) (lv' := [(2, .int (0 : Int32)), (0, .ref (ga G k0)), (1, .ref (ga G a1))]) hx hb dX8_listUnsold_1 rfl hl (by decide) rfl (fun ls hl => ?_)
  refine lv_iconst (pc := 2) (v := 0) hx hb dX8_listUnsold_2 (by decide) ?_
  refine lv_istore_n (pc := 3) (lv' := [(3, .int (0 : Int32)), (2, .int (0 : Int32)), (0, .ref (ga G k0)), (1, .ref (ga G a1))]) hx hb dX8_listUnsold_3 rfl hl (by decide) rfl (fun ls hl => ?_)
  exact w_X8_listUnsold_4 X  hk0 hk1  FU _ _ _ _ _ _ hP hS (lv_sub hl [2, 3, 1, 0] rfl) h
def F_X8_loadPurses_2 (k0z : Nat) (k1z : Nat) (rec1 : Int32 → Mem → Option Mem) : Int32 → Mem → Option Mem := fun v2 σ =>
  if (6 : Int32) ≤ v2 then
    some σ
  else
    if (Int32.ofNat (al k1z)) ≤ v2 then
      some σ
    else
      bd1 (ixo ((k0z + 1) + 2) v2) fun j3 =>
      bd1 (ixo k1z v2) fun j5 =>
      bd1 (some (pI σ (((k0z + 1) + 2) + 7 + j3) 3 (gI σ k1z j5))) fun σ7 =>
      rec1 (v2 + (1 : Int32)) σ7
def f_X8_loadPurses (k0 : Nat) (a1 : Nat) (σ : Mem) : Option Mem :=
  iterF (F_X8_loadPurses_2 k0 a1) (fun _ _ => none) FU (0 : Int32) σ
abbrev RM_X8_loadPurses : Room := { frames := 0, cells := 0, slots := 0, locals := 0 }
set_option maxHeartbeats 4000000 in
set_option maxRecDepth 100000 in
theorem w_X8_loadPurses_2 {l : Launch} {G : Gh} {p : Program} {e : Env} {s : State} {m : MethodId} {args : Array Value} {below : List Frame} {meth : Method} {c : Code} (X : Cx G p s m args meth c prog_10_method_19_code RX8 3 none) {k0z : Nat} {k1z : Nat} (hz0 : kd k0z = 8) (hz1 : kd k1z = 12) {σr : Mem} : ∀ (n : Nat) (v2 : Int32) (σ : Mem) (H : Heap) (locs : List Loc) (ls : Array Slot), PW G σ H → va_S (AA G) s.heap H locs → lv_has ls 3 [(0, .ref (ga G k0z)), (1, .ref (ga G k1z)), (2, .int v2)] → iterF (F_X8_loadPurses_2 k0z k1z) (fun _ _ => none) n v2 σ = some σr → W p l e RM_X8_loadPurses s m args below meth c H locs 0 0 (MQ below (QG G none σr) args s 0 0 (AA G)) (F0 m 2 ls []) := by
  have hx := X.hx
  have hb := X.hb
  intro n
  induction n with
  | zero => intro v2 σ H locs ls hP hS hl h; exact nnone (α := Mem) h
  | succ n ih1 =>
    intro v2 σ H locs ls hP hS hl h
    have h : F_X8_loadPurses_2 k0z k1z (iterF (F_X8_loadPurses_2 k0z k1z) (fun _ _ => none) n) v2 σ = some _ := h
    unfold F_X8_loadPurses_2 at h
    refine lv_iload_n (pc := 2) hx hb dX8_loadPurses_2 rfl (lv_at hl 2 rfl) ?_
    refine lv_bipush (pc := 3) (v := (6)) hx hb dX8_loadPurses_3 (by decide) ?_
    refine lv_icmp_ge (pc := 5) (tgt := 35) hx hb dX8_loadPurses_5 (by decide) (fun c1 => ?_) (fun c1 => ?_)
    · have h := ipos c1 h
      obtain rfl := Option.some.inj h
      exact r_vret X hP hS dX8_loadPurses_35
    · have h := ineg c1 h
      refine lv_iload_n (pc := 8) hx hb dX8_loadPurses_8 rfl (lv_at hl 2 rfl) ?_
      refine lv_aload_n (pc := 9) hx hb dX8_loadPurses_9 rfl (lv_at hl 1 rfl) ?_
      refine r_alen12 (pc := 10) X hP hz1 dX8_loadPurses_10 ?_
      refine lv_icmp_ge (pc := 11) (tgt := 35) hx hb dX8_loadPurses_11 (by decide) (fun c2 => ?_) (fun c2 => ?_)
      · have h := ipos c2 h
        obtain rfl := Option.some.inj h
        exact r_vret X hP hS dX8_loadPurses_35
      · have h := ineg c2 h
        refine lv_aload_n (pc := 14) hx hb dX8_loadPurses_14 rfl (lv_at hl 0 rfl) ?_
        refine gt_X8_12 X hP hz0 dX8_loadPurses_15 ?_
        refine gt_X8_131 X hP (kf_8_stage hz0).1 dX8_loadPurses_18 ?_
        refine lv_iload_n (pc := 21) hx hb dX8_loadPurses_21 rfl (lv_at hl 2 rfl) ?_
        obtain ⟨j3, hj4, h⟩ := bnd1 h
        refine r_ald14 (pc := 22) X hP (kf_2_bidders (kf_8_stage hz0).1).1 hj4 dX8_loadPurses_22 ?_
        refine lv_aload_n (pc := 23) hx hb dX8_loadPurses_23 rfl (lv_at hl 1 rfl) ?_
        refine lv_iload_n (pc := 24) hx hb dX8_loadPurses_24 rfl (lv_at hl 2 rfl) ?_
        obtain ⟨j5, hj6, h⟩ := bnd1 h
        refine r_iald (pc := 25) X hP hz1 hj6 dX8_loadPurses_25 ?_
        obtain ⟨σ7, e8, h⟩ := bnd1 h
        refine pt_X8_135 X hP hS (ke_14 (kf_2_bidders (kf_8_stage hz0).1).1 hj4) dX8_loadPurses_26 (fun H locs hP hS => ?_)
        rw [Option.some.inj e8] at hP
        refine lv_iinc (pc := 29) (v := (v2 + (1 : Int32))) (lv' := [(2, .int (v2 + (1 : Int32))), (0, .ref (ga G k0z)), (1, .ref (ga G k1z))]) hx hb dX8_loadPurses_29 hl (k := 2) rfl (congrArg (fun z => v2 + z) (by decide)) (by decide) rfl (fun ls hl => ?_)
        refine lv_goto (pc := 32) (tgt := 2) hx hb dX8_loadPurses_32 (by decide) ?_
        exact ih1 _ _ _ _ _ hP hS (lv_sub hl [1, 2, 0] rfl) h
set_option maxHeartbeats 4000000 in
set_option maxRecDepth 100000 in
theorem c_X8_loadPurses (l : Launch) (G : Gh) {k0 : Nat} {a1 : Nat} {σ : Mem} {σr : Mem} (hk0 : kd k0 = 8) (hk1 : kd a1 = 12) (h : f_X8_loadPurses k0 a1 σ = some σr) : Met l yX8_loadPurses [Cond.code yX8_loadPurses prog_10_method_19_code 3 none] RM_X8_loadPurses (va_Pc [.ref (ga G k0), .ref (ga G a1)] (Pre G σ)) (QG G none σr) 0 0 (AA G) := by
  refine ct_of (by decide) (fun p e s m below meth c X hP => ?_)
  have hx := X.hx
  have hb := X.hb
  have hS : va_S (AA G) s.heap s.heap [] := va_S.rf
  have hl := lv_entry ([.ref (ga G k0), .ref (ga G a1)]) (n := 3) (Nat.le_of_ble_eq_true rfl)
  rw [lg_entry_eq]
  generalize (lg_sl ([.ref (ga G k0), .ref (ga G a1)]) ++ List.replicate (3 - (lg_sl ([.ref (ga G k0), .ref (ga G a1)])).length) Slot.unset).toArray = ls at hl ⊢
  have hl : lv_has ls 3 [(0, .ref (ga G k0)), (1, .ref (ga G a1))] := hl
  unfold f_X8_loadPurses at h
  refine lv_iconst (pc := 0) (v := 0) hx hb dX8_loadPurses_0 (by decide) ?_
  refine lv_istore_n (pc := 1) (lv' := [(2, .int (0 : Int32)), (0, .ref (ga G k0)), (1, .ref (ga G a1))]) hx hb dX8_loadPurses_1 rfl hl (by decide) rfl (fun ls hl => ?_)
  exact w_X8_loadPurses_2 X  hk0 hk1  FU _ _ _ _ _ hP hS (lv_sub hl [1, 2, 0] rfl) h
def f_X8_swapOrder (k0 : Nat) (a1 : Int32) (a2 : Int32) (σ : Mem) : Option Mem :=
  bd1 (ixo (k0 + 16) a1) fun j1 =>
  bd1 (ixo (k0 + 16) a2) fun j3 =>
  bd1 (ixo (k0 + 16) a1) fun j5 =>
  bd1 (some (pI σ (k0 + 16) j5 (gI σ (k0 + 16) j3))) fun σ7 =>
  bd1 (ixo (k0 + 16) a2) fun j9 =>
  bd1 (some (pI σ7 (k0 + 16) j9 (gI σ (k0 + 16) j1))) fun σ11 =>
  some σ11
abbrev RM_X8_swapOrder : Room := { frames := 0, cells := 0, slots := 0, locals := 0 }
set_option maxHeartbeats 4000000 in
set_option maxRecDepth 100000 in
theorem c_X8_swapOrder (l : Launch) (G : Gh) {k0 : Nat} {a1 : Int32} {a2 : Int32} {σ : Mem} {σr : Mem} (hk0 : kd k0 = 8) (h : f_X8_swapOrder k0 a1 a2 σ = some σr) : Met l yX8_swapOrder [Cond.code yX8_swapOrder prog_10_method_17_code 4 none] RM_X8_swapOrder (va_Pc [.ref (ga G k0), .int a1, .int a2] (Pre G σ)) (QG G none σr) 0 0 (AA G) := by
  refine ct_of (by decide) (fun p e s m below meth c X hP => ?_)
  have hx := X.hx
  have hb := X.hb
  have hS : va_S (AA G) s.heap s.heap [] := va_S.rf
  have hl := lv_entry ([.ref (ga G k0), .int a1, .int a2]) (n := 4) (Nat.le_of_ble_eq_true rfl)
  rw [lg_entry_eq]
  generalize (lg_sl ([.ref (ga G k0), .int a1, .int a2]) ++ List.replicate (4 - (lg_sl ([.ref (ga G k0), .int a1, .int a2])).length) Slot.unset).toArray = ls at hl ⊢
  have hl : lv_has ls 4 [(0, .ref (ga G k0)), (1, .int a1), (2, .int a2)] := hl
  unfold f_X8_swapOrder at h
  refine lv_aload_n (pc := 0) hx hb dX8_swapOrder_0 rfl (lv_at hl 0 rfl) ?_
  refine gt_X8_25 X hP hk0 dX8_swapOrder_1 ?_
  refine lv_iload_n (pc := 4) hx hb dX8_swapOrder_4 rfl (lv_at hl 1 rfl) ?_
  obtain ⟨j1, hj2, h⟩ := bnd1 h
  refine r_iald (pc := 5) X hP (kf_8_order hk0).1 hj2 dX8_swapOrder_5 ?_
  refine lv_istore_n (pc := 6) (lv' := [(3, .int (gI σ (k0 + 16) j1)), (0, .ref (ga G k0)), (1, .int a1), (2, .int a2)]) hx hb dX8_swapOrder_6 rfl hl (by decide) rfl (fun ls hl => ?_)
  refine lv_aload_n (pc := 7) hx hb dX8_swapOrder_7 rfl (lv_at hl 1 rfl) ?_
  refine gt_X8_25 X hP hk0 dX8_swapOrder_8 ?_
  refine lv_iload_n (pc := 11) hx hb dX8_swapOrder_11 rfl (lv_at hl 2 rfl) ?_
  refine lv_aload_n (pc := 12) hx hb dX8_swapOrder_12 rfl (lv_at hl 1 rfl) ?_
  refine gt_X8_25 X hP hk0 dX8_swapOrder_13 ?_
  refine lv_iload_n (pc := 16) hx hb dX8_swapOrder_16 rfl (lv_at hl 3 rfl) ?_
  obtain ⟨j3, hj4, h⟩ := bnd1 h
  refine r_iald (pc := 17) X hP (kf_8_order hk0).1 hj4 dX8_swapOrder_17 ?_
  obtain ⟨j5, hj6, h⟩ := bnd1 h
  obtain ⟨σ7, e8, h⟩ := bnd1 h
  refine r_iast (pc := 18) X hP hS (kf_8_order hk0).1 hj6 dX8_swapOrder_18 (fun H locs hP hS => ?_)
  rw [Option.some.inj e8] at hP
  refine lv_aload_n (pc := 19) hx hb dX8_swapOrder_19 rfl (lv_at hl 1 rfl) ?_
  refine gt_X8_25 X hP hk0 dX8_swapOrder_20 ?_
  refine lv_iload_n (pc := 23) hx hb dX8_swapOrder_23 rfl (lv_at hl 3 rfl) ?_
  refine lv_iload_n (pc := 24) hx hb dX8_swapOrder_24 rfl (lv_at hl 0 rfl) ?_
  obtain ⟨j9, hj10, h⟩ := bnd1 h
  obtain ⟨σ11, e12, h⟩ := bnd1 h
  refine r_iast (pc := 25) X hP hS (kf_8_order hk0).1 hj10 dX8_swapOrder_25 (fun H locs hP hS => ?_)
  rw [Option.some.inj e12] at hP
  obtain rfl := Option.some.inj h
  exact r_vret X hP hS dX8_swapOrder_26
def F_X8_stepOrder_84 (k0z : Nat) (p2 : Int32) (rec1 : Int32 → Int32 → Mem → Option (Int32 × Mem)) : Int32 → Int32 → Mem → Option (Int32 × Mem) := fun v4 v5 σ =>
  if v5 ≤ v4 then
    some (p2, σ)
  else
    bd1 (f_X8_swapOrder k0z v4 v5 σ) fun σ7 =>
    rec1 (v4 + (1 : Int32)) (v5 + (-1 : Int32)) σ7
def F_X8_stepOrder_42 (k0z : Nat) (p1 : Int32) (p2 : Int32) (rec1 : Int32 → Mem → Option (Int32 × Mem)) : Int32 → Mem → Option (Int32 × Mem) := fun v3 σ =>
  if v3 ≤ p2 then
    bd1 (f_X8_swapOrder k0z p2 v3 σ) fun σ4 =>
    iterF (F_X8_stepOrder_84 k0z p2) (fun _ _ _ => none) FU (p2 + (1 : Int32)) (p1 - (1 : Int32)) σ4
  else
    bd1 (ixo (k0z + 16) v3) fun j9 =>
    bd1 (ixo (k0z + 16) p2) fun j11 =>
    if (gI σ (k0z + 16) j11) ≤ (gI σ (k0z + 16) j9) then
      bd1 (f_X8_swapOrder k0z p2 v3 σ) fun σ14 =>
      iterF (F_X8_stepOrder_84 k0z p2) (fun _ _ _ => none) FU (p2 + (1 : Int32)) (p1 - (1 : Int32)) σ14
    else
      rec1 (v3 + (-1 : Int32)) σ
def F_X8_stepOrder_4 (k0z : Nat) (p1 : Int32) (rec1 : Int32 → Mem → Option (Int32 × Mem)) : Int32 → Mem → Option (Int32 × Mem) := fun v2 σ =>
  if v2 < (0 : Int32) then
    if (0 : Int32) ≤ v2 then
      iterF (F_X8_stepOrder_42 k0z p1 v2) (fun _ _ => none) FU (p1 - (1 : Int32)) σ
    else
      some ((-3 : Int32), σ)
  else
    bd1 (ixo (k0z + 16) v2) fun j16 =>
    bd1 (ixo (k0z + 16) (v2 + (1 : Int32))) fun j18 =>
    if (gI σ (k0z + 16) j16) ≤ (gI σ (k0z + 16) j18) then
      if (0 : Int32) ≤ v2 then
        iterF (F_X8_stepOrder_42 k0z p1 v2) (fun _ _ => none) FU (p1 - (1 : Int32)) σ
      else
        some ((-3 : Int32), σ)
    else
      rec1 (v2 + (-1 : Int32)) σ
def f_X8_stepOrder (k0 : Nat) (a1 : Int32) (σ : Mem) : Option (Int32 × Mem) :=
  iterF (F_X8_stepOrder_4 k0 a1) (fun _ _ => none) FU (a1 - (2 : Int32)) σ
abbrev RM_X8_stepOrder : Room := { frames := 1, cells := 0, slots := 0, locals := 23 }
set_option maxHeartbeats 4000000 in
set_option maxRecDepth 100000 in
theorem w_X8_stepOrder_84 {l : Launch} {G : Gh} {p : Program} {e : Env} {s : State} {m : MethodId} {args : Array Value} {below : List Frame} {meth : Method} {c : Code} (X : Cx G p s m args meth c prog_10_method_16_code RX8 6 (some .int)) {k0z : Nat} {p2 : Int32} (hz0 : kd k0z = 8) {rr : Int32} {σr : Mem} : ∀ (n : Nat) (v4 : Int32) (v5 : Int32) (σ : Mem) (H : Heap) (locs : List Loc) (ls : Array Slot), PW G σ H → va_S (AA G) s.heap H locs → lv_has ls 6 [(0, .ref (ga G k0z)), (2, .int p2), (4, .int v4), (5, .int v5)] → iterF (F_X8_stepOrder_84 k0z p2) (fun _ _ _ => none) n v4 v5 σ = some (rr, σr) → W p l e RM_X8_stepOrder s m args below meth c H locs 0 0 (MQ below (QG G (some (.int rr)) σr) args s 0 0 (AA G)) (F0 m 84 ls []) := by
  have hx := X.hx
  have hb := X.hb
  intro n
  induction n with
  | zero => intro v4 v5 σ H locs ls hP hS hl h; exact nnone (α := (Int32 × Mem)) h
  | succ n ih1 =>
    intro v4 v5 σ H locs ls hP hS hl h
    have h : F_X8_stepOrder_84 k0z p2 (iterF (F_X8_stepOrder_84 k0z p2) (fun _ _ _ => none) n) v4 v5 σ = some _ := h
    unfold F_X8_stepOrder_84 at h
    refine lv_iload (pc := 84) hx hb dX8_stepOrder_84 (lv_at hl 2 rfl) ?_
    refine lv_iload (pc := 86) hx hb dX8_stepOrder_86 (lv_at hl 3 rfl) ?_
    refine lv_icmp_ge (pc := 88) (tgt := 108) hx hb dX8_stepOrder_88 (by decide) (fun c6 => ?_) (fun c6 => ?_)
    · have h := ipos c6 h
      refine lv_iload_n (pc := 108) hx hb dX8_stepOrder_108 rfl (lv_at hl 1 rfl) ?_
      obtain ⟨rfl, rfl⟩ := inj2 h
      exact r_iret X hP hS dX8_stepOrder_109
    · have h := ineg c6 h
      refine lv_aload_n (pc := 91) hx hb dX8_stepOrder_91 rfl (lv_at hl 0 rfl) ?_
      refine lv_iload (pc := 92) hx hb dX8_stepOrder_92 (lv_at hl 2 rfl) ?_
      refine lv_iload (pc := 94) hx hb dX8_stepOrder_94 (lv_at hl 3 rfl) ?_
      obtain ⟨σ7, e8, h⟩ := bnd1 h
      refine cl_X8_128 X hP hS hz0 (As := [.int v4, .int v5]) (rest := []) (c_X8_swapOrder l G hz0 e8) ⟨rfl, rfl, Nat.le_of_ble_eq_true rfl, Nat.le_of_ble_eq_true rfl⟩ rfl hl.1 rfl (Nat.le_of_ble_eq_true rfl) ⟨Nat.zero_le _, Nat.zero_le _⟩ (pc := 96) dX8_stepOrder_96 (fun H locs hP hS => ?_)
      change W p l e _ s m _ below meth c H locs _ _ _ (F0 m (96 + 3) ls [])
      refine lv_iinc (pc := 99) (v := (v4 + (1 : Int32))) (lv' := [(4, .int (v4 + (1 : Int32))), (0, .ref (ga G k0z)), (2, .int p2), (5, .int v5)]) hx hb dX8_stepOrder_99 hl (k := 2) rfl (congrArg (fun z => v4 + z) (by decide)) (by decide) rfl (fun ls hl => ?_)
      refine lv_iinc (pc := 102) (v := (v5 + (-1 : Int32))) (lv' := [(5, .int (v5 + (-1 : Int32))), (4, .int (v4 + (1 : Int32))), (0, .ref (ga G k0z)), (2, .int p2)]) hx hb dX8_stepOrder_102 hl (k := 3) rfl (congrArg (fun z => v5 + z) (by decide)) (by decide) rfl (fun ls hl => ?_)
      refine lv_goto (pc := 105) (tgt := 84) hx hb dX8_stepOrder_105 (by decide) ?_
      exact ih1 _ _ _ _ _ _ hP hS (lv_sub hl [2, 3, 1, 0] rfl) h
set_option maxHeartbeats 4000000 in
set_option maxRecDepth 100000 in
theorem w_X8_stepOrder_42 {l : Launch} {G : Gh} {p : Program} {e : Env} {s : State} {m : MethodId} {args : Array Value} {below : List Frame} {meth : Method} {c : Code} (X : Cx G p s m args meth c prog_10_method_16_code RX8 6 (some .int)) {k0z : Nat} {p1 : Int32} {p2 : Int32} (hz0 : kd k0z = 8) {rr : Int32} {σr : Mem} : ∀ (n : Nat) (v3 : Int32) (σ : Mem) (H : Heap) (locs : List Loc) (ls : Array Slot), PW G σ H → va_S (AA G) s.heap H locs → lv_has ls 6 [(0, .ref (ga G k0z)), (1, .int p1), (2, .int p2), (3, .int v3)] → iterF (F_X8_stepOrder_42 k0z p1 p2) (fun _ _ => none) n v3 σ = some (rr, σr) → W p l e RM_X8_stepOrder s m args below meth c H locs 0 0 (MQ below (QG G (some (.int rr)) σr) args s 0 0 (AA G)) (F0 m 42 ls []) := by
  have hx := X.hx
  have hb := X.hb
  intro n
  induction n with
  | zero => intro v3 σ H locs ls hP hS hl h; exact nnone (α := (Int32 × Mem)) h
  | succ n ih1 =>
    intro v3 σ H locs ls hP hS hl h
    have h : F_X8_stepOrder_42 k0z p1 p2 (iterF (F_X8_stepOrder_42 k0z p1 p2) (fun _ _ => none) n) v3 σ = some _ := h
    unfold F_X8_stepOrder_42 at h
    refine lv_iload_n (pc := 42) hx hb dX8_stepOrder_42 rfl (lv_at hl 3 rfl) ?_
    refine lv_iload_n (pc := 43) hx hb dX8_stepOrder_43 rfl (lv_at hl 2 rfl) ?_
    refine lv_icmp_le (pc := 44) (tgt := 68) hx hb dX8_stepOrder_44 (by decide) (fun c3 => ?_) (fun c3 => ?_)
    · have h := ipos c3 h
      refine lv_aload_n (pc := 68) hx hb dX8_stepOrder_68 rfl (lv_at hl 0 rfl) ?_
      refine lv_iload_n (pc := 69) hx hb dX8_stepOrder_69 rfl (lv_at hl 2 rfl) ?_
      refine lv_iload_n (pc := 70) hx hb dX8_stepOrder_70 rfl (lv_at hl 3 rfl) ?_
      obtain ⟨σ4, e5, h⟩ := bnd1 h
      refine cl_X8_128 X hP hS hz0 (As := [.int p2, .int v3]) (rest := []) (c_X8_swapOrder l G hz0 e5) ⟨rfl, rfl, Nat.le_of_ble_eq_true rfl, Nat.le_of_ble_eq_true rfl⟩ rfl hl.1 rfl (Nat.le_of_ble_eq_true rfl) ⟨Nat.zero_le _, Nat.zero_le _⟩ (pc := 71) dX8_stepOrder_71 (fun H locs hP hS => ?_)
      change W p l e _ s m _ below meth c H locs _ _ _ (F0 m (71 + 3) ls [])
      refine lv_iload_n (pc := 74) hx hb dX8_stepOrder_74 rfl (lv_at hl 2 rfl) ?_
      refine lv_iconst (pc := 75) (v := 1) hx hb dX8_stepOrder_75 (by decide) ?_
      refine lv_iadd (pc := 76) hx hb dX8_stepOrder_76 ?_
      refine lv_istore (pc := 77) (lv' := [(4, .int (p2 + (1 : Int32))), (0, .ref (ga G k0z)), (1, .int p1), (2, .int p2), (3, .int v3)]) hx hb dX8_stepOrder_77 hl (by decide) rfl (fun ls hl => ?_)
      refine lv_iload_n (pc := 79) hx hb dX8_stepOrder_79 rfl (lv_at hl 2 rfl) ?_
      refine lv_iconst (pc := 80) (v := 1) hx hb dX8_stepOrder_80 (by decide) ?_
      refine lv_isub (pc := 81) hx hb dX8_stepOrder_81 ?_
      refine lv_istore (pc := 82) (lv' := [(5, .int (p1 - (1 : Int32))), (4, .int (p2 + (1 : Int32))), (0, .ref (ga G k0z)), (1, .int p1), (2, .int p2), (3, .int v3)]) hx hb dX8_stepOrder_82 hl (by decide) rfl (fun ls hl => ?_)
      exact w_X8_stepOrder_84 X  hz0  FU _ _ _ _ _ _ hP hS (lv_sub hl [2, 4, 1, 0] rfl) h
    · have h := ineg c3 h
      refine lv_aload_n (pc := 47) hx hb dX8_stepOrder_47 rfl (lv_at hl 0 rfl) ?_
      refine gt_X8_25 X hP hz0 dX8_stepOrder_48 ?_
      refine lv_iload_n (pc := 51) hx hb dX8_stepOrder_51 rfl (lv_at hl 3 rfl) ?_
      obtain ⟨j9, hj10, h⟩ := bnd1 h
      refine r_iald (pc := 52) X hP (kf_8_order hz0).1 hj10 dX8_stepOrder_52 ?_
      refine lv_aload_n (pc := 53) hx hb dX8_stepOrder_53 rfl (lv_at hl 0 rfl) ?_
      refine gt_X8_25 X hP hz0 dX8_stepOrder_54 ?_
      refine lv_iload_n (pc := 57) hx hb dX8_stepOrder_57 rfl (lv_at hl 2 rfl) ?_
      obtain ⟨j11, hj12, h⟩ := bnd1 h
      refine r_iald (pc := 58) X hP (kf_8_order hz0).1 hj12 dX8_stepOrder_58 ?_
      refine lv_icmp_ge (pc := 59) (tgt := 68) hx hb dX8_stepOrder_59 (by decide) (fun c13 => ?_) (fun c13 => ?_)
      · have h := ipos c13 h
        refine lv_aload_n (pc := 68) hx hb dX8_stepOrder_68 rfl (lv_at hl 0 rfl) ?_
        refine lv_iload_n (pc := 69) hx hb dX8_stepOrder_69 rfl (lv_at hl 2 rfl) ?_
        refine lv_iload_n (pc := 70) hx hb dX8_stepOrder_70 rfl (lv_at hl 3 rfl) ?_
        obtain ⟨σ14, e15, h⟩ := bnd1 h
        refine cl_X8_128 X hP hS hz0 (As := [.int p2, .int v3]) (rest := []) (c_X8_swapOrder l G hz0 e15) ⟨rfl, rfl, Nat.le_of_ble_eq_true rfl, Nat.le_of_ble_eq_true rfl⟩ rfl hl.1 rfl (Nat.le_of_ble_eq_true rfl) ⟨Nat.zero_le _, Nat.zero_le _⟩ (pc := 71) dX8_stepOrder_71 (fun H locs hP hS => ?_)
        change W p l e _ s m _ below meth c H locs _ _ _ (F0 m (71 + 3) ls [])
        refine lv_iload_n (pc := 74) hx hb dX8_stepOrder_74 rfl (lv_at hl 2 rfl) ?_
        refine lv_iconst (pc := 75) (v := 1) hx hb dX8_stepOrder_75 (by decide) ?_
        refine lv_iadd (pc := 76) hx hb dX8_stepOrder_76 ?_
        refine lv_istore (pc := 77) (lv' := [(4, .int (p2 + (1 : Int32))), (0, .ref (ga G k0z)), (1, .int p1), (2, .int p2), (3, .int v3)]) hx hb dX8_stepOrder_77 hl (by decide) rfl (fun ls hl => ?_)
        refine lv_iload_n (pc := 79) hx hb dX8_stepOrder_79 rfl (lv_at hl 2 rfl) ?_
        refine lv_iconst (pc := 80) (v := 1) hx hb dX8_stepOrder_80 (by decide) ?_
        refine lv_isub (pc := 81) hx hb dX8_stepOrder_81 ?_
        refine lv_istore (pc := 82) (lv' := [(5, .int (p1 - (1 : Int32))), (4, .int (p2 + (1 : Int32))), (0, .ref (ga G k0z)), (1, .int p1), (2, .int p2), (3, .int v3)]) hx hb dX8_stepOrder_82 hl (by decide) rfl (fun ls hl => ?_)
        exact w_X8_stepOrder_84 X  hz0  FU _ _ _ _ _ _ hP hS (lv_sub hl [2, 4, 1, 0] rfl) h
      · have h := ineg c13 h
        refine lv_iinc (pc := 62) (v := (v3 + (-1 : Int32))) (lv' := [(3, .int (v3 + (-1 : Int32))), (0, .ref (ga G k0z)), (1, .int p1), (2, .int p2)]) hx hb dX8_stepOrder_62 hl (k := 3) rfl (congrArg (fun z => v3 + z) (by decide)) (by decide) rfl (fun ls hl => ?_)
        refine lv_goto (pc := 65) (tgt := 42) hx hb dX8_stepOrder_65 (by decide) ?_
        exact ih1 _ _ _ _ _ hP hS (lv_sub hl [1, 2, 3, 0] rfl) h
set_option maxHeartbeats 4000000 in
set_option maxRecDepth 100000 in
theorem w_X8_stepOrder_4 {l : Launch} {G : Gh} {p : Program} {e : Env} {s : State} {m : MethodId} {args : Array Value} {below : List Frame} {meth : Method} {c : Code} (X : Cx G p s m args meth c prog_10_method_16_code RX8 6 (some .int)) {k0z : Nat} {p1 : Int32} (hz0 : kd k0z = 8) {rr : Int32} {σr : Mem} : ∀ (n : Nat) (v2 : Int32) (σ : Mem) (H : Heap) (locs : List Loc) (ls : Array Slot), PW G σ H → va_S (AA G) s.heap H locs → lv_has ls 6 [(0, .ref (ga G k0z)), (1, .int p1), (2, .int v2)] → iterF (F_X8_stepOrder_4 k0z p1) (fun _ _ => none) n v2 σ = some (rr, σr) → W p l e RM_X8_stepOrder s m args below meth c H locs 0 0 (MQ below (QG G (some (.int rr)) σr) args s 0 0 (AA G)) (F0 m 4 ls []) := by
  have hx := X.hx
  have hb := X.hb
  intro n
  induction n with
  | zero => intro v2 σ H locs ls hP hS hl h; exact nnone (α := (Int32 × Mem)) h
  | succ n ih1 =>
    intro v2 σ H locs ls hP hS hl h
    have h : F_X8_stepOrder_4 k0z p1 (iterF (F_X8_stepOrder_4 k0z p1) (fun _ _ => none) n) v2 σ = some _ := h
    unfold F_X8_stepOrder_4 at h
    refine lv_iload_n (pc := 4) hx hb dX8_stepOrder_4 rfl (lv_at hl 2 rfl) ?_
    refine lv_if_lt (pc := 5) (tgt := 31) hx hb dX8_stepOrder_5 (by decide) (fun c1 => ?_) (fun c1 => ?_)
    · have h := ipos c1 h
      refine lv_iload_n (pc := 31) hx hb dX8_stepOrder_31 rfl (lv_at hl 2 rfl) ?_
      refine lv_if_ge (pc := 32) (tgt := 38) hx hb dX8_stepOrder_32 (by decide) (fun c2 => ?_) (fun c2 => ?_)
      · have h := ipos c2 h
        refine lv_iload_n (pc := 38) hx hb dX8_stepOrder_38 rfl (lv_at hl 1 rfl) ?_
        refine lv_iconst (pc := 39) (v := 1) hx hb dX8_stepOrder_39 (by decide) ?_
        refine lv_isub (pc := 40) hx hb dX8_stepOrder_40 ?_
        refine lv_istore_n (pc := 41) (lv' := [(3, .int (p1 - (1 : Int32))), (0, .ref (ga G k0z)), (1, .int p1), (2, .int v2)]) hx hb dX8_stepOrder_41 rfl hl (by decide) rfl (fun ls hl => ?_)
        exact w_X8_stepOrder_42 X  hz0  FU _ _ _ _ _ hP hS (lv_sub hl [1, 2, 3, 0] rfl) h
      · have h := ineg c2 h
        refine lv_bipush (pc := 35) (v := (-3)) hx hb dX8_stepOrder_35 (by decide) ?_
        obtain ⟨rfl, rfl⟩ := inj2 h
        exact r_iret X hP hS dX8_stepOrder_37
    · have h := ineg c1 h
      refine lv_aload_n (pc := 8) hx hb dX8_stepOrder_8 rfl (lv_at hl 0 rfl) ?_
      refine gt_X8_25 X hP hz0 dX8_stepOrder_9 ?_
      refine lv_iload_n (pc := 12) hx hb dX8_stepOrder_12 rfl (lv_at hl 2 rfl) ?_
      obtain ⟨j16, hj17, h⟩ := bnd1 h
      refine r_iald (pc := 13) X hP (kf_8_order hz0).1 hj17 dX8_stepOrder_13 ?_
      refine lv_aload_n (pc := 14) hx hb dX8_stepOrder_14 rfl (lv_at hl 0 rfl) ?_
      refine gt_X8_25 X hP hz0 dX8_stepOrder_15 ?_
      refine lv_iload_n (pc := 18) hx hb dX8_stepOrder_18 rfl (lv_at hl 2 rfl) ?_
      refine lv_iconst (pc := 19) (v := 1) hx hb dX8_stepOrder_19 (by decide) ?_
      refine lv_iadd (pc := 20) hx hb dX8_stepOrder_20 ?_
      obtain ⟨j18, hj19, h⟩ := bnd1 h
      refine r_iald (pc := 21) X hP (kf_8_order hz0).1 hj19 dX8_stepOrder_21 ?_
      refine lv_icmp_le (pc := 22) (tgt := 31) hx hb dX8_stepOrder_22 (by decide) (fun c20 => ?_) (fun c20 => ?_)
      · have h := ipos c20 h
        refine lv_iload_n (pc := 31) hx hb dX8_stepOrder_31 rfl (lv_at hl 2 rfl) ?_
        refine lv_if_ge (pc := 32) (tgt := 38) hx hb dX8_stepOrder_32 (by decide) (fun c21 => ?_) (fun c21 => ?_)
        · have h := ipos c21 h
          refine lv_iload_n (pc := 38) hx hb dX8_stepOrder_38 rfl (lv_at hl 1 rfl) ?_
          refine lv_iconst (pc := 39) (v := 1) hx hb dX8_stepOrder_39 (by decide) ?_
          refine lv_isub (pc := 40) hx hb dX8_stepOrder_40 ?_
          refine lv_istore_n (pc := 41) (lv' := [(3, .int (p1 - (1 : Int32))), (0, .ref (ga G k0z)), (1, .int p1), (2, .int v2)]) hx hb dX8_stepOrder_41 rfl hl (by decide) rfl (fun ls hl => ?_)
          exact w_X8_stepOrder_42 X  hz0  FU _ _ _ _ _ hP hS (lv_sub hl [1, 2, 3, 0] rfl) h
        · have h := ineg c21 h
          refine lv_bipush (pc := 35) (v := (-3)) hx hb dX8_stepOrder_35 (by decide) ?_
          obtain ⟨rfl, rfl⟩ := inj2 h
          exact r_iret X hP hS dX8_stepOrder_37
      · have h := ineg c20 h
        refine lv_iinc (pc := 25) (v := (v2 + (-1 : Int32))) (lv' := [(2, .int (v2 + (-1 : Int32))), (0, .ref (ga G k0z)), (1, .int p1)]) hx hb dX8_stepOrder_25 hl (k := 2) rfl (congrArg (fun z => v2 + z) (by decide)) (by decide) rfl (fun ls hl => ?_)
        refine lv_goto (pc := 28) (tgt := 4) hx hb dX8_stepOrder_28 (by decide) ?_
        exact ih1 _ _ _ _ _ hP hS (lv_sub hl [1, 2, 0] rfl) h
set_option maxHeartbeats 4000000 in
set_option maxRecDepth 100000 in
theorem c_X8_stepOrder (l : Launch) (G : Gh) {k0 : Nat} {a1 : Int32} {σ : Mem} {rr : Int32} {σr : Mem} (hk0 : kd k0 = 8) (h : f_X8_stepOrder k0 a1 σ = some (rr, σr)) : Met l yX8_stepOrder [Cond.code yX8_stepOrder prog_10_method_16_code 6 (some .int)] RM_X8_stepOrder (va_Pc [.ref (ga G k0), .int a1] (Pre G σ)) (QG G (some (.int rr)) σr) 0 0 (AA G) := by
  refine ct_of (by decide) (fun p e s m below meth c X hP => ?_)
  have hx := X.hx
  have hb := X.hb
  have hS : va_S (AA G) s.heap s.heap [] := va_S.rf
  have hl := lv_entry ([.ref (ga G k0), .int a1]) (n := 6) (Nat.le_of_ble_eq_true rfl)
  rw [lg_entry_eq]
  generalize (lg_sl ([.ref (ga G k0), .int a1]) ++ List.replicate (6 - (lg_sl ([.ref (ga G k0), .int a1])).length) Slot.unset).toArray = ls at hl ⊢
  have hl : lv_has ls 6 [(0, .ref (ga G k0)), (1, .int a1)] := hl
  unfold f_X8_stepOrder at h
  refine lv_iload_n (pc := 0) hx hb dX8_stepOrder_0 rfl (lv_at hl 1 rfl) ?_
  refine lv_iconst (pc := 1) (v := 2) hx hb dX8_stepOrder_1 (by decide) ?_
  refine lv_isub (pc := 2) hx hb dX8_stepOrder_2 ?_
  refine lv_istore_n (pc := 3) (lv' := [(2, .int (a1 - (2 : Int32))), (0, .ref (ga G k0)), (1, .int a1)]) hx hb dX8_stepOrder_3 rfl hl (by decide) rfl (fun ls hl => ?_)
  exact w_X8_stepOrder_4 X  hk0  FU _ _ _ _ _ hP hS (lv_sub hl [1, 2, 0] rfl) h
def F_X8_findBestOrder_57 (k0z : Nat) (p2 : Int32) (p4 : Int32) (rec1 : Int32 → Int32 → Mem → Option Mem) (rec2 : Int32 → Mem → Option Mem) : Int32 → Mem → Option Mem := fun v5 σ =>
  if p2 ≤ v5 then
    bd1 (ixo (k0z + 25) p2) fun j19 =>
    bd1 (f_X8_weighGreatest k0z p4 (gI σ (k0z + 25) j19) σ) fun σ21 =>
    if (gI σ21 k0z 1) = p4 then
      bd1 (cpo σ21 (k0z + 16) (0 : Int32) (k0z + 17) (0 : Int32) p2) fun σ27 =>
      bd2 (f_X8_stepOrder k0z p2 σ27) fun r31 σ29 =>
      rec1 r31 (p4 + (1 : Int32)) σ29
    else
      bd2 (f_X8_stepOrder k0z p2 σ21) fun r26 σ24 =>
      rec1 r26 (p4 + (1 : Int32)) σ24
  else
    bd1 (ixo (k0z + 16) v5) fun j32 =>
    bd1 (f_X2_setAlight (k0z + 1) (gI σ (k0z + 16) j32) σ) fun σ34 =>
    bd2 (f_X2_goTicks_IN (k0z + 1) (60 : Int32) σ34) fun r38 σ36 =>
    bd1 (ixo (k0z + 25) v5) fun j39 =>
    bd1 (ixo (k0z + 16) v5) fun j41 =>
    bd2 (f_X8_price k0z (gI σ36 (k0z + 16) j41) σ36) fun r45 σ43 =>
    bd1 (ixo (k0z + 25) (v5 + (1 : Int32))) fun j46 =>
    bd1 (some (pI σ43 (k0z + 25) j46 ((gI σ36 (k0z + 25) j39) + r45))) fun σ48 =>
    bd1 (ixo (k0z + 18) (v5 + (1 : Int32))) fun j50 =>
    bd1 (f_X8_savePurses k0z ((k0z + 18) + 1 + j50) σ48) fun σ52 =>
    rec2 (v5 + (1 : Int32)) σ52
def F_X8_findBestOrder_33 (k0z : Nat) (p2 : Int32) (rec1 : Int32 → Int32 → Mem → Option Mem) : Int32 → Int32 → Mem → Option Mem := fun v3 v4 σ =>
  if (120 : Int32) ≤ v4 then
    some σ
  else
    if v3 < (0 : Int32) then
      some σ
    else
      bd1 (ixo (k0z + 18) v3) fun j14 =>
      bd1 (f_X8_loadPurses k0z ((k0z + 18) + 1 + j14) σ) fun σ16 =>
      iterF (F_X8_findBestOrder_57 k0z p2 v4 rec1) (fun _ _ => none) FU v3 σ16
def f_X8_findBestOrder (k0 : Nat) (a1 : Nat) (σ : Mem) : Option Mem :=
  bd1 (f_X8_forgetBest k0 σ) fun σ1 =>
  bd1 (f_X2_copy (k0 + 1) a1 σ1) fun σ3 =>
  bd1 (ixo (k0 + 18) (0 : Int32)) fun j5 =>
  bd1 (f_X8_savePurses k0 ((k0 + 18) + 1 + j5) σ3) fun σ7 =>
  bd2 (f_X8_listUnsold k0 a1 σ7) fun r11 σ9 =>
  iterF (F_X8_findBestOrder_33 k0 r11) (fun _ _ _ => none) FU (0 : Int32) (0 : Int32) σ9
abbrev RM_X8_findBestOrder : Room := { frames := 5, cells := 0, slots := 0, locals := 114 }
set_option maxHeartbeats 4000000 in
set_option maxRecDepth 100000 in
theorem w_X8_findBestOrder_57 {l : Launch} {G : Gh} {p : Program} {e : Env} {s : State} {m : MethodId} {args : Array Value} {below : List Frame} {meth : Method} {c : Code} (X : Cx G p s m args meth c prog_10_method_14_code RX8 6 none) {k0z : Nat} {p2 : Int32} {p4 : Int32} (hz0 : kd k0z = 8) {σr : Mem} {rec1 : Int32 → Int32 → Mem → Option Mem} (ih1 : ∀ (v3 : Int32) (v4 : Int32) (σ : Mem) (H : Heap) (locs : List Loc) (ls : Array Slot), PW G σ H → va_S (AA G) s.heap H locs → lv_has ls 6 [(0, .ref (ga G k0z)), (2, .int p2), (3, .int v3), (4, .int v4)] → rec1 v3 v4 σ = some σr → W p l e RM_X8_findBestOrder s m args below meth c H locs 0 0 (MQ below (QG G none σr) args s 0 0 (AA G)) (F0 m 33 ls [])) : ∀ (n : Nat) (v5 : Int32) (σ : Mem) (H : Heap) (locs : List Loc) (ls : Array Slot), PW G σ H → va_S (AA G) s.heap H locs → lv_has ls 6 [(0, .ref (ga G k0z)), (2, .int p2), (4, .int p4), (5, .int v5)] → iterF (F_X8_findBestOrder_57 k0z p2 p4 rec1) (fun _ _ => none) n v5 σ = some σr → W p l e RM_X8_findBestOrder s m args below meth c H locs 0 0 (MQ below (QG G none σr) args s 0 0 (AA G)) (F0 m 57 ls []) := by
  have hx := X.hx
  have hb := X.hb
  intro n
  induction n with
  | zero => intro v5 σ H locs ls hP hS hl h; exact nnone (α := Mem) h
  | succ n ih2 =>
    intro v5 σ H locs ls hP hS hl h
    have h : F_X8_findBestOrder_57 k0z p2 p4 rec1 (iterF (F_X8_findBestOrder_57 k0z p2 p4 rec1) (fun _ _ => none) n) v5 σ = some _ := h
    unfold F_X8_findBestOrder_57 at h
    refine lv_iload (pc := 57) hx hb dX8_findBestOrder_57 (lv_at hl 3 rfl) ?_
    refine lv_iload_n (pc := 59) hx hb dX8_findBestOrder_59 rfl (lv_at hl 1 rfl) ?_
    refine lv_icmp_ge (pc := 60) (tgt := 135) hx hb dX8_findBestOrder_60 (by decide) (fun c18 => ?_) (fun c18 => ?_)
    · have h := ipos c18 h
      refine lv_aload_n (pc := 135) hx hb dX8_findBestOrder_135 rfl (lv_at hl 0 rfl) ?_
      refine lv_iload (pc := 136) hx hb dX8_findBestOrder_136 (lv_at hl 2 rfl) ?_
      refine lv_aload_n (pc := 138) hx hb dX8_findBestOrder_138 rfl (lv_at hl 0 rfl) ?_
      refine gt_X8_37 X hP hz0 dX8_findBestOrder_139 ?_
      refine lv_iload_n (pc := 142) hx hb dX8_findBestOrder_142 rfl (lv_at hl 1 rfl) ?_
      obtain ⟨j19, hj20, h⟩ := bnd1 h
      refine r_iald (pc := 143) X hP (kf_8_sumAt hz0).1 hj20 dX8_findBestOrder_143 ?_
      obtain ⟨σ21, e22, h⟩ := bnd1 h
      refine cl_X8_96 X hP hS hz0 (As := [.int p4, .int (gI σ (k0z + 25) j19)]) (rest := []) (c_X8_weighGreatest l G hz0 e22) ⟨rfl, rfl, Nat.le_of_ble_eq_true rfl, Nat.le_of_ble_eq_true rfl⟩ rfl hl.1 rfl (Nat.le_of_ble_eq_true rfl) ⟨Nat.zero_le _, Nat.zero_le _⟩ (pc := 144) dX8_findBestOrder_144 (fun H locs hP hS => ?_)
      change W p l e _ s m _ below meth c H locs _ _ _ (F0 m (144 + 3) ls [])
      refine lv_aload_n (pc := 147) hx hb dX8_findBestOrder_147 rfl (lv_at hl 0 rfl) ?_
      refine gt_X8_18 X hP hz0 dX8_findBestOrder_148 ?_
      refine lv_iload (pc := 151) hx hb dX8_findBestOrder_151 (lv_at hl 2 rfl) ?_
      refine lv_icmp_ne (pc := 153) (tgt := 170) hx hb dX8_findBestOrder_153 (by decide) (fun c23 => ?_) (fun c23 => ?_)
      · have h := ineg c23 h
        refine lv_aload_n (pc := 170) hx hb dX8_findBestOrder_170 rfl (lv_at hl 0 rfl) ?_
        refine lv_iload_n (pc := 171) hx hb dX8_findBestOrder_171 rfl (lv_at hl 1 rfl) ?_
        obtain ⟨r26, σ24, e25, h⟩ := bnd2 h
        refine cl_X8_122 X hP hS hz0 (As := [.int p2]) (rest := []) (c_X8_stepOrder l G hz0 e25) ⟨rfl, rfl, Nat.le_of_ble_eq_true rfl, Nat.le_of_ble_eq_true rfl⟩ rfl hl.1 rfl (Nat.le_of_ble_eq_true rfl) ⟨Nat.zero_le _, Nat.zero_le _⟩ (pc := 172) dX8_findBestOrder_172 (fun H locs hP hS => ?_)
        change W p l e _ s m _ below meth c H locs _ _ _ (F0 m (172 + 3) ls (.int r26 :: []))
        refine lv_istore_n (pc := 175) (lv' := [(3, .int r26), (0, .ref (ga G k0z)), (2, .int p2), (4, .int p4), (5, .int v5)]) hx hb dX8_findBestOrder_175 rfl hl (by decide) rfl (fun ls hl => ?_)
        refine lv_iinc (pc := 176) (v := (p4 + (1 : Int32))) (lv' := [(4, .int (p4 + (1 : Int32))), (3, .int r26), (0, .ref (ga G k0z)), (2, .int p2), (5, .int v5)]) hx hb dX8_findBestOrder_176 hl (k := 3) rfl (congrArg (fun z => p4 + z) (by decide)) (by decide) rfl (fun ls hl => ?_)
        refine lv_goto (pc := 179) (tgt := 33) hx hb dX8_findBestOrder_179 (by decide) ?_
        exact ih1 _ _ _ _ _ _ hP hS (lv_sub hl [2, 3, 1, 0] rfl) h
      · have h := ipos c23 h
        refine lv_aload_n (pc := 156) hx hb dX8_findBestOrder_156 rfl (lv_at hl 0 rfl) ?_
        refine gt_X8_25 X hP hz0 dX8_findBestOrder_157 ?_
        refine lv_iconst (pc := 160) (v := 0) hx hb dX8_findBestOrder_160 (by decide) ?_
        refine lv_aload_n (pc := 161) hx hb dX8_findBestOrder_161 rfl (lv_at hl 0 rfl) ?_
        refine gt_X8_29 X hP hz0 dX8_findBestOrder_162 ?_
        refine lv_iconst (pc := 165) (v := 0) hx hb dX8_findBestOrder_165 (by decide) ?_
        refine lv_iload_n (pc := 166) hx hb dX8_findBestOrder_166 rfl (lv_at hl 1 rfl) ?_
        obtain ⟨σ27, e28, h⟩ := bnd1 h
        refine r_copy (pc := 167) X hP hS hl.1 (X.tb tw_758 rfl) (X.tb tw_496 rfl) (X.tb tw_495 rfl) (X.tb tw_16 rfl) (kf_8_order hz0).1 (kf_8_bestOrder hz0).1 e28 (Nat.le_of_ble_eq_true rfl) (by decide) dX8_findBestOrder_167 (fun H locs hP hS => ?_)
        refine lv_aload_n (pc := 170) hx hb dX8_findBestOrder_170 rfl (lv_at hl 0 rfl) ?_
        refine lv_iload_n (pc := 171) hx hb dX8_findBestOrder_171 rfl (lv_at hl 1 rfl) ?_
        obtain ⟨r31, σ29, e30, h⟩ := bnd2 h
        refine cl_X8_122 X hP hS hz0 (As := [.int p2]) (rest := []) (c_X8_stepOrder l G hz0 e30) ⟨rfl, rfl, Nat.le_of_ble_eq_true rfl, Nat.le_of_ble_eq_true rfl⟩ rfl hl.1 rfl (Nat.le_of_ble_eq_true rfl) ⟨Nat.zero_le _, Nat.zero_le _⟩ (pc := 172) dX8_findBestOrder_172 (fun H locs hP hS => ?_)
        change W p l e _ s m _ below meth c H locs _ _ _ (F0 m (172 + 3) ls (.int r31 :: []))
        refine lv_istore_n (pc := 175) (lv' := [(3, .int r31), (0, .ref (ga G k0z)), (2, .int p2), (4, .int p4), (5, .int v5)]) hx hb dX8_findBestOrder_175 rfl hl (by decide) rfl (fun ls hl => ?_)
        refine lv_iinc (pc := 176) (v := (p4 + (1 : Int32))) (lv' := [(4, .int (p4 + (1 : Int32))), (3, .int r31), (0, .ref (ga G k0z)), (2, .int p2), (5, .int v5)]) hx hb dX8_findBestOrder_176 hl (k := 3) rfl (congrArg (fun z => p4 + z) (by decide)) (by decide) rfl (fun ls hl => ?_)
        refine lv_goto (pc := 179) (tgt := 33) hx hb dX8_findBestOrder_179 (by decide) ?_
        exact ih1 _ _ _ _ _ _ hP hS (lv_sub hl [2, 3, 1, 0] rfl) h
    · have h := ineg c18 h
      refine lv_aload_n (pc := 63) hx hb dX8_findBestOrder_63 rfl (lv_at hl 0 rfl) ?_
      refine gt_X8_12 X hP hz0 dX8_findBestOrder_64 ?_
      refine lv_aload_n (pc := 67) hx hb dX8_findBestOrder_67 rfl (lv_at hl 0 rfl) ?_
      refine gt_X8_25 X hP hz0 dX8_findBestOrder_68 ?_
      refine lv_iload (pc := 71) hx hb dX8_findBestOrder_71 (lv_at hl 3 rfl) ?_
      obtain ⟨j32, hj33, h⟩ := bnd1 h
      refine r_iald (pc := 73) X hP (kf_8_order hz0).1 hj33 dX8_findBestOrder_73 ?_
      obtain ⟨σ34, e35, h⟩ := bnd1 h
      refine cl_X8_52 X hP hS (kf_8_stage hz0).1 (As := [.int (gI σ (k0z + 16) j32)]) (rest := []) (c_X2_setAlight l G (kf_8_stage hz0).1 e35) ⟨rfl, rfl, Nat.le_of_ble_eq_true rfl, Nat.le_of_ble_eq_true rfl⟩ rfl hl.1 rfl (Nat.le_of_ble_eq_true rfl) ⟨Nat.zero_le _, Nat.zero_le _⟩ (pc := 74) dX8_findBestOrder_74 (fun H locs hP hS => ?_)
      change W p l e _ s m _ below meth c H locs _ _ _ (F0 m (74 + 3) ls [])
      refine lv_aload_n (pc := 77) hx hb dX8_findBestOrder_77 rfl (lv_at hl 0 rfl) ?_
      refine gt_X8_12 X hP hz0 dX8_findBestOrder_78 ?_
      refine lv_bipush (pc := 81) (v := (60)) hx hb dX8_findBestOrder_81 (by decide) ?_
      refine lv_null (pc := 83) hx hb dX8_findBestOrder_83 ?_
      obtain ⟨r38, σ36, e37, h⟩ := bnd2 h
      refine cl_X8_44 X hP hS (kf_8_stage hz0).1 (As := [.int (60 : Int32), .null]) (rest := []) (c_X2_goTicks_IN l G (kf_8_stage hz0).1 e37) ⟨rfl, rfl, Nat.le_of_ble_eq_true rfl, Nat.le_of_ble_eq_true rfl⟩ rfl hl.1 rfl (Nat.le_of_ble_eq_true rfl) ⟨Nat.zero_le _, Nat.zero_le _⟩ (pc := 84) dX8_findBestOrder_84 (fun H locs hP hS => ?_)
      change W p l e _ s m _ below meth c H locs _ _ _ (F0 m (84 + 3) ls (.int r38 :: []))
      refine lv_pop (pc := 87) hx hb dX8_findBestOrder_87 rfl ?_
      refine lv_aload_n (pc := 88) hx hb dX8_findBestOrder_88 rfl (lv_at hl 0 rfl) ?_
      refine gt_X8_37 X hP hz0 dX8_findBestOrder_89 ?_
      refine lv_iload (pc := 92) hx hb dX8_findBestOrder_92 (lv_at hl 3 rfl) ?_
      refine lv_iconst (pc := 94) (v := 1) hx hb dX8_findBestOrder_94 (by decide) ?_
      refine lv_iadd (pc := 95) hx hb dX8_findBestOrder_95 ?_
      refine lv_aload_n (pc := 96) hx hb dX8_findBestOrder_96 rfl (lv_at hl 0 rfl) ?_
      refine gt_X8_37 X hP hz0 dX8_findBestOrder_97 ?_
      refine lv_iload (pc := 100) hx hb dX8_findBestOrder_100 (lv_at hl 3 rfl) ?_
      obtain ⟨j39, hj40, h⟩ := bnd1 h
      refine r_iald (pc := 102) X hP (kf_8_sumAt hz0).1 hj40 dX8_findBestOrder_102 ?_
      refine lv_aload_n (pc := 103) hx hb dX8_findBestOrder_103 rfl (lv_at hl 0 rfl) ?_
      refine lv_aload_n (pc := 104) hx hb dX8_findBestOrder_104 rfl (lv_at hl 0 rfl) ?_
      refine gt_X8_25 X hP hz0 dX8_findBestOrder_105 ?_
      refine lv_iload (pc := 108) hx hb dX8_findBestOrder_108 (lv_at hl 3 rfl) ?_
      obtain ⟨j41, hj42, h⟩ := bnd1 h
      refine r_iald (pc := 110) X hP (kf_8_order hz0).1 hj42 dX8_findBestOrder_110 ?_
      obtain ⟨r45, σ43, e44, h⟩ := bnd2 h
      refine cl_X8_84 X hP hS hz0 (As := [.int (gI σ36 (k0z + 16) j41)]) (rest := [.int (gI σ36 (k0z + 25) j39), .int (v5 + (1 : Int32)), .ref (ga G (k0z + 25))]) (c_X8_price l G hz0 e44) ⟨rfl, rfl, Nat.le_of_ble_eq_true rfl, Nat.le_of_ble_eq_true rfl⟩ rfl hl.1 rfl (Nat.le_of_ble_eq_true rfl) ⟨Nat.zero_le _, Nat.zero_le _⟩ (pc := 111) dX8_findBestOrder_111 (fun H locs hP hS => ?_)
      change W p l e _ s m _ below meth c H locs _ _ _ (F0 m (111 + 3) ls (.int r45 :: [.int (gI σ36 (k0z + 25) j39), .int (v5 + (1 : Int32)), .ref (ga G (k0z + 25))]))
      refine lv_iadd (pc := 114) hx hb dX8_findBestOrder_114 ?_
      obtain ⟨j46, hj47, h⟩ := bnd1 h
      obtain ⟨σ48, e49, h⟩ := bnd1 h
      refine r_iast (pc := 115) X hP hS (kf_8_sumAt hz0).1 hj47 dX8_findBestOrder_115 (fun H locs hP hS => ?_)
      rw [Option.some.inj e49] at hP
      refine lv_aload_n (pc := 116) hx hb dX8_findBestOrder_116 rfl (lv_at hl 0 rfl) ?_
      refine lv_aload_n (pc := 117) hx hb dX8_findBestOrder_117 rfl (lv_at hl 0 rfl) ?_
      refine gt_X8_34 X hP hz0 dX8_findBestOrder_118 ?_
      refine lv_iload (pc := 121) hx hb dX8_findBestOrder_121 (lv_at hl 3 rfl) ?_
      refine lv_iconst (pc := 123) (v := 1) hx hb dX8_findBestOrder_123 (by decide) ?_
      refine lv_iadd (pc := 124) hx hb dX8_findBestOrder_124 ?_
      obtain ⟨j50, hj51, h⟩ := bnd1 h
      refine r_ald18 (pc := 125) X hP (kf_8_pursesAt hz0).1 hj51 dX8_findBestOrder_125 ?_
      obtain ⟨σ52, e53, h⟩ := bnd1 h
      refine cl_X8_105 X hP hS hz0 (As := [.ref (ga G ((k0z + 18) + 1 + j50))]) (rest := []) (c_X8_savePurses l G hz0 (ke_18 (kf_8_pursesAt hz0).1 hj51) e53) ⟨rfl, rfl, Nat.le_of_ble_eq_true rfl, Nat.le_of_ble_eq_true rfl⟩ rfl hl.1 rfl (Nat.le_of_ble_eq_true rfl) ⟨Nat.zero_le _, Nat.zero_le _⟩ (pc := 126) dX8_findBestOrder_126 (fun H locs hP hS => ?_)
      change W p l e _ s m _ below meth c H locs _ _ _ (F0 m (126 + 3) ls [])
      refine lv_iinc (pc := 129) (v := (v5 + (1 : Int32))) (lv' := [(5, .int (v5 + (1 : Int32))), (0, .ref (ga G k0z)), (2, .int p2), (4, .int p4)]) hx hb dX8_findBestOrder_129 hl (k := 3) rfl (congrArg (fun z => v5 + z) (by decide)) (by decide) rfl (fun ls hl => ?_)
      refine lv_goto (pc := 132) (tgt := 57) hx hb dX8_findBestOrder_132 (by decide) ?_
      exact ih2 _ _ _ _ _ hP hS (lv_sub hl [1, 2, 3, 0] rfl) h
set_option maxHeartbeats 4000000 in
set_option maxRecDepth 100000 in
theorem w_X8_findBestOrder_33 {l : Launch} {G : Gh} {p : Program} {e : Env} {s : State} {m : MethodId} {args : Array Value} {below : List Frame} {meth : Method} {c : Code} (X : Cx G p s m args meth c prog_10_method_14_code RX8 6 none) {k0z : Nat} {p2 : Int32} (hz0 : kd k0z = 8) {σr : Mem} : ∀ (n : Nat) (v3 : Int32) (v4 : Int32) (σ : Mem) (H : Heap) (locs : List Loc) (ls : Array Slot), PW G σ H → va_S (AA G) s.heap H locs → lv_has ls 6 [(0, .ref (ga G k0z)), (2, .int p2), (3, .int v3), (4, .int v4)] → iterF (F_X8_findBestOrder_33 k0z p2) (fun _ _ _ => none) n v3 v4 σ = some σr → W p l e RM_X8_findBestOrder s m args below meth c H locs 0 0 (MQ below (QG G none σr) args s 0 0 (AA G)) (F0 m 33 ls []) := by
  have hx := X.hx
  have hb := X.hb
  intro n
  induction n with
  | zero => intro v3 v4 σ H locs ls hP hS hl h; exact nnone (α := Mem) h
  | succ n ih1 =>
    intro v3 v4 σ H locs ls hP hS hl h
    have h : F_X8_findBestOrder_33 k0z p2 (iterF (F_X8_findBestOrder_33 k0z p2) (fun _ _ _ => none) n) v3 v4 σ = some _ := h
    unfold F_X8_findBestOrder_33 at h
    refine lv_iload (pc := 33) hx hb dX8_findBestOrder_33 (lv_at hl 3 rfl) ?_
    refine lv_bipush (pc := 35) (v := (120)) hx hb dX8_findBestOrder_35 (by decide) ?_
    refine lv_icmp_ge (pc := 37) (tgt := 182) hx hb dX8_findBestOrder_37 (by decide) (fun c12 => ?_) (fun c12 => ?_)
    · have h := ipos c12 h
      obtain rfl := Option.some.inj h
      exact r_vret X hP hS dX8_findBestOrder_182
    · have h := ineg c12 h
      refine lv_iload_n (pc := 40) hx hb dX8_findBestOrder_40 rfl (lv_at hl 2 rfl) ?_
      refine lv_if_lt (pc := 41) (tgt := 182) hx hb dX8_findBestOrder_41 (by decide) (fun c13 => ?_) (fun c13 => ?_)
      · have h := ipos c13 h
        obtain rfl := Option.some.inj h
        exact r_vret X hP hS dX8_findBestOrder_182
      · have h := ineg c13 h
        refine lv_aload_n (pc := 44) hx hb dX8_findBestOrder_44 rfl (lv_at hl 0 rfl) ?_
        refine lv_aload_n (pc := 45) hx hb dX8_findBestOrder_45 rfl (lv_at hl 0 rfl) ?_
        refine gt_X8_34 X hP hz0 dX8_findBestOrder_46 ?_
        refine lv_iload_n (pc := 49) hx hb dX8_findBestOrder_49 rfl (lv_at hl 2 rfl) ?_
        obtain ⟨j14, hj15, h⟩ := bnd1 h
        refine r_ald18 (pc := 50) X hP (kf_8_pursesAt hz0).1 hj15 dX8_findBestOrder_50 ?_
        obtain ⟨σ16, e17, h⟩ := bnd1 h
        refine cl_X8_113 X hP hS hz0 (As := [.ref (ga G ((k0z + 18) + 1 + j14))]) (rest := []) (c_X8_loadPurses l G hz0 (ke_18 (kf_8_pursesAt hz0).1 hj15) e17) ⟨rfl, rfl, Nat.le_of_ble_eq_true rfl, Nat.le_of_ble_eq_true rfl⟩ rfl hl.1 rfl (Nat.le_of_ble_eq_true rfl) ⟨Nat.zero_le _, Nat.zero_le _⟩ (pc := 51) dX8_findBestOrder_51 (fun H locs hP hS => ?_)
        change W p l e _ s m _ below meth c H locs _ _ _ (F0 m (51 + 3) ls [])
        refine lv_iload_n (pc := 54) hx hb dX8_findBestOrder_54 rfl (lv_at hl 2 rfl) ?_
        refine lv_istore (pc := 55) (lv' := [(5, .int v3), (0, .ref (ga G k0z)), (2, .int p2), (3, .int v3), (4, .int v4)]) hx hb dX8_findBestOrder_55 hl (by decide) rfl (fun ls hl => ?_)
        exact w_X8_findBestOrder_57 X  hz0 ih1 FU _ _ _ _ _ hP hS (lv_sub hl [1, 2, 4, 0] rfl) h
set_option maxHeartbeats 4000000 in
set_option maxRecDepth 100000 in
theorem c_X8_findBestOrder (l : Launch) (G : Gh) {k0 : Nat} {a1 : Nat} {σ : Mem} {σr : Mem} (hk0 : kd k0 = 8) (hk1 : kd a1 = 2) (h : f_X8_findBestOrder k0 a1 σ = some σr) : Met l yX8_findBestOrder [Cond.code yX8_findBestOrder prog_10_method_14_code 6 none] RM_X8_findBestOrder (va_Pc [.ref (ga G k0), .ref (ga G a1)] (Pre G σ)) (QG G none σr) 0 0 (AA G) := by
  refine ct_of (by decide) (fun p e s m below meth c X hP => ?_)
  have hx := X.hx
  have hb := X.hb
  have hS : va_S (AA G) s.heap s.heap [] := va_S.rf
  have hl := lv_entry ([.ref (ga G k0), .ref (ga G a1)]) (n := 6) (Nat.le_of_ble_eq_true rfl)
  rw [lg_entry_eq]
  generalize (lg_sl ([.ref (ga G k0), .ref (ga G a1)]) ++ List.replicate (6 - (lg_sl ([.ref (ga G k0), .ref (ga G a1)])).length) Slot.unset).toArray = ls at hl ⊢
  have hl : lv_has ls 6 [(0, .ref (ga G k0)), (1, .ref (ga G a1))] := hl
  unfold f_X8_findBestOrder at h
  refine lv_aload_n (pc := 0) hx hb dX8_findBestOrder_0 rfl (lv_at hl 0 rfl) ?_
  obtain ⟨σ1, e2, h⟩ := bnd1 h
  refine cl_X8_68 X hP hS hk0 (As := []) (rest := []) (c_X8_forgetBest l G hk0 e2) ⟨rfl, rfl, Nat.le_of_ble_eq_true rfl, Nat.le_of_ble_eq_true rfl⟩ rfl hl.1 rfl (Nat.le_of_ble_eq_true rfl) ⟨Nat.zero_le _, Nat.zero_le _⟩ (pc := 1) dX8_findBestOrder_1 (fun H locs hP hS => ?_)
  change W p l e _ s m _ below meth c H locs _ _ _ (F0 m (1 + 3) ls [])
  refine lv_aload_n (pc := 4) hx hb dX8_findBestOrder_4 rfl (lv_at hl 0 rfl) ?_
  refine gt_X8_12 X hP hk0 dX8_findBestOrder_5 ?_
  refine lv_aload_n (pc := 8) hx hb dX8_findBestOrder_8 rfl (lv_at hl 1 rfl) ?_
  obtain ⟨σ3, e4, h⟩ := bnd1 h
  refine cl_X8_48 X hP hS (kf_8_stage hk0).1 (As := [.ref (ga G a1)]) (rest := []) (c_X2_copy l G (kf_8_stage hk0).1 hk1 e4) ⟨rfl, rfl, Nat.le_of_ble_eq_true rfl, Nat.le_of_ble_eq_true rfl⟩ rfl hl.1 rfl (Nat.le_of_ble_eq_true rfl) ⟨Nat.zero_le _, Nat.zero_le _⟩ (pc := 9) dX8_findBestOrder_9 (fun H locs hP hS => ?_)
  change W p l e _ s m _ below meth c H locs _ _ _ (F0 m (9 + 3) ls [])
  refine lv_aload_n (pc := 12) hx hb dX8_findBestOrder_12 rfl (lv_at hl 0 rfl) ?_
  refine lv_aload_n (pc := 13) hx hb dX8_findBestOrder_13 rfl (lv_at hl 0 rfl) ?_
  refine gt_X8_34 X hP hk0 dX8_findBestOrder_14 ?_
  refine lv_iconst (pc := 17) (v := 0) hx hb dX8_findBestOrder_17 (by decide) ?_
  obtain ⟨j5, hj6, h⟩ := bnd1 h
  refine r_ald18 (pc := 18) X hP (kf_8_pursesAt hk0).1 hj6 dX8_findBestOrder_18 ?_
  obtain ⟨σ7, e8, h⟩ := bnd1 h
  refine cl_X8_105 X hP hS hk0 (As := [.ref (ga G ((k0 + 18) + 1 + j5))]) (rest := []) (c_X8_savePurses l G hk0 (ke_18 (kf_8_pursesAt hk0).1 hj6) e8) ⟨rfl, rfl, Nat.le_of_ble_eq_true rfl, Nat.le_of_ble_eq_true rfl⟩ rfl hl.1 rfl (Nat.le_of_ble_eq_true rfl) ⟨Nat.zero_le _, Nat.zero_le _⟩ (pc := 19) dX8_findBestOrder_19 (fun H locs hP hS => ?_)
  change W p l e _ s m _ below meth c H locs _ _ _ (F0 m (19 + 3) ls [])
  refine lv_aload_n (pc := 22) hx hb dX8_findBestOrder_22 rfl (lv_at hl 0 rfl) ?_
  refine lv_aload_n (pc := 23) hx hb dX8_findBestOrder_23 rfl (lv_at hl 1 rfl) ?_
  obtain ⟨r11, σ9, e10, h⟩ := bnd2 h
  refine cl_X8_109 X hP hS hk0 (As := [.ref (ga G a1)]) (rest := []) (c_X8_listUnsold l G hk0 hk1 e10) ⟨rfl, rfl, Nat.le_of_ble_eq_true rfl, Nat.le_of_ble_eq_true rfl⟩ rfl hl.1 rfl (Nat.le_of_ble_eq_true rfl) ⟨Nat.zero_le _, Nat.zero_le _⟩ (pc := 24) dX8_findBestOrder_24 (fun H locs hP hS => ?_)
  change W p l e _ s m _ below meth c H locs _ _ _ (F0 m (24 + 3) ls (.int r11 :: []))
  refine lv_istore_n (pc := 27) (lv' := [(2, .int r11), (0, .ref (ga G k0)), (1, .ref (ga G a1))]) hx hb dX8_findBestOrder_27 rfl hl (by decide) rfl (fun ls hl => ?_)
  refine lv_iconst (pc := 28) (v := 0) hx hb dX8_findBestOrder_28 (by decide) ?_
  refine lv_istore_n (pc := 29) (lv' := [(3, .int (0 : Int32)), (2, .int r11), (0, .ref (ga G k0)), (1, .ref (ga G a1))]) hx hb dX8_findBestOrder_29 rfl hl (by decide) rfl (fun ls hl => ?_)
  refine lv_iconst (pc := 30) (v := 0) hx hb dX8_findBestOrder_30 (by decide) ?_
  refine lv_istore (pc := 31) (lv' := [(4, .int (0 : Int32)), (3, .int (0 : Int32)), (2, .int r11), (0, .ref (ga G k0)), (1, .ref (ga G a1))]) hx hb dX8_findBestOrder_31 hl (by decide) rfl (fun ls hl => ?_)
  exact w_X8_findBestOrder_33 X  hk0  FU _ _ _ _ _ _ hP hS (lv_sub hl [3, 2, 1, 0] rfl) h
