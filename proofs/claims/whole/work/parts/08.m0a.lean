def f_X0_renew (k0 : Nat) (a1 : Int32) (a2 : Int32) (a3 : Int32) (a4 : Int32) (σ : Mem) : Option Mem :=
  bd1 (some (pI σ k0 0 a1)) fun σ1 =>
  bd1 (some (pI σ1 k0 1 a2)) fun σ3 =>
  bd1 (some (pI σ3 k0 2 a3)) fun σ5 =>
  bd1 (some (pI σ5 k0 3 a4)) fun σ7 =>
  some σ7
abbrev RM_X0_renew : Room := { frames := 0, cells := 0, slots := 0, locals := 0 }
set_option maxHeartbeats 4000000 in
set_option maxRecDepth 100000 in
theorem c_X0_renew (l : Launch) (G : Gh) {k0 : Nat} {a1 : Int32} {a2 : Int32} {a3 : Int32} {a4 : Int32} {σ : Mem} {σr : Mem} (hk0 : kd k0 = 0) (h : f_X0_renew k0 a1 a2 a3 a4 σ = some σr) : Met l yX0_renew [Cond.code yX0_renew prog_2_method_2_code 5 none] RM_X0_renew (va_Pc [.ref (ga G k0), .int a1, .int a2, .int a3, .int a4] (Pre G σ)) (QG G none σr) 0 0 (AA G) := by
  refine ct_of (by decide) (fun p e s m below meth c X hP => ?_)
  have hx := X.hx
  have hb := X.hb
  have hS : va_S (AA G) s.heap s.heap [] := va_S.rf
  have hl := lv_entry ([.ref (ga G k0), .int a1, .int a2, .int a3, .int a4]) (n := 5) (Nat.le_of_ble_eq_true rfl)
  rw [lg_entry_eq]
  generalize (lg_sl ([.ref (ga G k0), .int a1, .int a2, .int a3, .int a4]) ++ List.replicate (5 - (lg_sl ([.ref (ga G k0), .int a1, .int a2, .int a3, .int a4])).length) Slot.unset).toArray = ls at hl ⊢
  have hl : lv_has ls 5 [(0, .ref (ga G k0)), (1, .int a1), (2, .int a2), (3, .int a3), (4, .int a4)] := hl
  unfold f_X0_renew at h
  refine lv_aload_n (pc := 0) hx hb dX0_renew_0 rfl (lv_at hl 0 rfl) ?_
  refine lv_iload_n (pc := 1) hx hb dX0_renew_1 rfl (lv_at hl 1 rfl) ?_
  obtain ⟨σ1, e2, h⟩ := bnd1 h
  refine pt_X0_9 X hP hS hk0 dX0_renew_2 (fun H locs hP hS => ?_)
  rw [Option.some.inj e2] at hP
  refine lv_aload_n (pc := 5) hx hb dX0_renew_5 rfl (lv_at hl 0 rfl) ?_
  refine lv_iload_n (pc := 6) hx hb dX0_renew_6 rfl (lv_at hl 2 rfl) ?_
  obtain ⟨σ3, e4, h⟩ := bnd1 h
  refine pt_X0_15 X hP hS hk0 dX0_renew_7 (fun H locs hP hS => ?_)
  rw [Option.some.inj e4] at hP
  refine lv_aload_n (pc := 10) hx hb dX0_renew_10 rfl (lv_at hl 0 rfl) ?_
  refine lv_iload_n (pc := 11) hx hb dX0_renew_11 rfl (lv_at hl 3 rfl) ?_
  obtain ⟨σ5, e6, h⟩ := bnd1 h
  refine pt_X0_18 X hP hS hk0 dX0_renew_12 (fun H locs hP hS => ?_)
  rw [Option.some.inj e6] at hP
  refine lv_aload_n (pc := 15) hx hb dX0_renew_15 rfl (lv_at hl 0 rfl) ?_
  refine lv_iload (pc := 16) hx hb dX0_renew_16 (lv_at hl 4 rfl) ?_
  obtain ⟨σ7, e8, h⟩ := bnd1 h
  refine pt_X0_21 X hP hS hk0 dX0_renew_18 (fun H locs hP hS => ?_)
  rw [Option.some.inj e8] at hP
  obtain rfl := Option.some.inj h
  exact r_vret X hP hS dX0_renew_21
def f_X0_copy (k0 : Nat) (a1 : Nat) (σ : Mem) : Option Mem :=
  bd1 (f_X0_renew k0 (gI σ a1 0) (gI σ a1 1) (gI σ a1 2) (gI σ a1 3) σ) fun σ1 =>
  some σ1
abbrev RM_X0_copy : Room := { frames := 1, cells := 0, slots := 0, locals := 24 }
set_option maxHeartbeats 4000000 in
set_option maxRecDepth 100000 in
theorem c_X0_copy (l : Launch) (G : Gh) {k0 : Nat} {a1 : Nat} {σ : Mem} {σr : Mem} (hk0 : kd k0 = 0) (hk1 : kd a1 = 0) (h : f_X0_copy k0 a1 σ = some σr) : Met l yX0_copy [Cond.code yX0_copy prog_2_method_3_code 2 none] RM_X0_copy (va_Pc [.ref (ga G k0), .ref (ga G a1)] (Pre G σ)) (QG G none σr) 0 0 (AA G) := by
  refine ct_of (by decide) (fun p e s m below meth c X hP => ?_)
  have hx := X.hx
  have hb := X.hb
  have hS : va_S (AA G) s.heap s.heap [] := va_S.rf
  have hl := lv_entry ([.ref (ga G k0), .ref (ga G a1)]) (n := 2) (Nat.le_of_ble_eq_true rfl)
  rw [lg_entry_eq]
  generalize (lg_sl ([.ref (ga G k0), .ref (ga G a1)]) ++ List.replicate (2 - (lg_sl ([.ref (ga G k0), .ref (ga G a1)])).length) Slot.unset).toArray = ls at hl ⊢
  have hl : lv_has ls 2 [(0, .ref (ga G k0)), (1, .ref (ga G a1))] := hl
  unfold f_X0_copy at h
  refine lv_aload_n (pc := 0) hx hb dX0_copy_0 rfl (lv_at hl 0 rfl) ?_
  refine lv_aload_n (pc := 1) hx hb dX0_copy_1 rfl (lv_at hl 1 rfl) ?_
  refine gt_X0_9 X hP hk1 dX0_copy_2 ?_
  refine lv_aload_n (pc := 5) hx hb dX0_copy_5 rfl (lv_at hl 1 rfl) ?_
  refine gt_X0_15 X hP hk1 dX0_copy_6 ?_
  refine lv_aload_n (pc := 9) hx hb dX0_copy_9 rfl (lv_at hl 1 rfl) ?_
  refine gt_X0_18 X hP hk1 dX0_copy_10 ?_
  refine lv_aload_n (pc := 13) hx hb dX0_copy_13 rfl (lv_at hl 1 rfl) ?_
  refine gt_X0_21 X hP hk1 dX0_copy_14 ?_
  obtain ⟨σ1, e2, h⟩ := bnd1 h
  refine cl_X0_24 X hP hS hk0 (As := [.int (gI σ a1 0), .int (gI σ a1 1), .int (gI σ a1 2), .int (gI σ a1 3)]) (rest := []) (c_X0_renew l G hk0 e2) ⟨rfl, rfl, Nat.le_of_ble_eq_true rfl, Nat.le_of_ble_eq_true rfl⟩ rfl hl.1 rfl (Nat.le_of_ble_eq_true rfl) ⟨Nat.zero_le _, Nat.zero_le _⟩ (pc := 17) dX0_copy_17 (fun H locs hP hS => ?_)
  change W p l e _ s m _ below meth c H locs _ _ _ (F0 m (17 + 3) ls [])
  obtain rfl := Option.some.inj h
  exact r_vret X hP hS dX0_copy_20
def f_X0_limitFor (k0 : Nat) (a1 : Int32) (σ : Mem) : Option (Int32 × Mem) :=
  if (gI σ k0 0) = (4 : Int32) then
    some ((((if (gI σ k0 3) < (((gI σ k0 2) * a1) / (100 : Int32)) then (gI σ k0 3) else (((gI σ k0 2) * a1) / (100 : Int32))) * (9 : Int32)) / (10 : Int32)), σ)
  else
    some ((if (gI σ k0 3) < (((gI σ k0 2) * a1) / (100 : Int32)) then (gI σ k0 3) else (((gI σ k0 2) * a1) / (100 : Int32))), σ)
abbrev RM_X0_limitFor : Room := { frames := 1, cells := 0, slots := 0, locals := 21 }
set_option maxHeartbeats 4000000 in
set_option maxRecDepth 100000 in
theorem c_X0_limitFor (l : Launch) (G : Gh) {k0 : Nat} {a1 : Int32} {σ : Mem} {rr : Int32} {σr : Mem} (hk0 : kd k0 = 0) (h : f_X0_limitFor k0 a1 σ = some (rr, σr)) : Met l yX0_limitFor [Cond.code yX0_limitFor prog_2_method_4_code 3 (some .int)] RM_X0_limitFor (va_Pc [.ref (ga G k0), .int a1] (Pre G σ)) (QG G (some (.int rr)) σr) 0 0 (AA G) := by
  refine ct_of (by decide) (fun p e s m below meth c X hP => ?_)
  have hx := X.hx
  have hb := X.hb
  have hS : va_S (AA G) s.heap s.heap [] := va_S.rf
  have hl := lv_entry ([.ref (ga G k0), .int a1]) (n := 3) (Nat.le_of_ble_eq_true rfl)
  rw [lg_entry_eq]
  generalize (lg_sl ([.ref (ga G k0), .int a1]) ++ List.replicate (3 - (lg_sl ([.ref (ga G k0), .int a1])).length) Slot.unset).toArray = ls at hl ⊢
  have hl : lv_has ls 3 [(0, .ref (ga G k0)), (1, .int a1)] := hl
  unfold f_X0_limitFor at h
  refine lv_aload_n (pc := 0) hx hb dX0_limitFor_0 rfl (lv_at hl 0 rfl) ?_
  refine gt_X0_18 X hP hk0 dX0_limitFor_1 ?_
  refine lv_iload_n (pc := 4) hx hb dX0_limitFor_4 rfl (lv_at hl 1 rfl) ?_
  refine lv_imul (pc := 5) hx hb dX0_limitFor_5 ?_
  refine lv_bipush (pc := 6) (v := (100)) hx hb dX0_limitFor_6 (by decide) ?_
  refine lv_idiv (pc := 8) hx hb dX0_limitFor_8 (by decide) ?_
  refine lv_aload_n (pc := 9) hx hb dX0_limitFor_9 rfl (lv_at hl 0 rfl) ?_
  refine gt_X0_21 X hP hk0 dX0_limitFor_10 ?_
  refine va_mmin (pc := 13) hx hb (X.hml.trans hl.1.symm) X.hown (X.tb tw_559 rfl) (X.tb tw_560 rfl) (X.tb tw_17 rfl) (X.tb tw_561 rfl) (Nat.le_of_ble_eq_true rfl) (Nat.le_of_ble_eq_true rfl) (Nat.le_of_ble_eq_true rfl) (Nat.le_of_ble_eq_true rfl) dX0_limitFor_13 ?_
  refine lv_istore_n (pc := 16) (lv' := [(2, .int (if (gI σ k0 3) < (((gI σ k0 2) * a1) / (100 : Int32)) then (gI σ k0 3) else (((gI σ k0 2) * a1) / (100 : Int32)))), (0, .ref (ga G k0)), (1, .int a1)]) hx hb dX0_limitFor_16 rfl hl (by decide) rfl (fun ls hl => ?_)
  refine lv_aload_n (pc := 17) hx hb dX0_limitFor_17 rfl (lv_at hl 1 rfl) ?_
  refine gt_X0_9 X hP hk0 dX0_limitFor_18 ?_
  refine lv_iconst (pc := 21) (v := 4) hx hb dX0_limitFor_21 (by decide) ?_
  refine lv_icmp_ne (pc := 22) (tgt := 35) hx hb dX0_limitFor_22 (by decide) (fun c1 => ?_) (fun c1 => ?_)
  · have h := ineg c1 h
    refine lv_iload_n (pc := 35) hx hb dX0_limitFor_35 rfl (lv_at hl 0 rfl) ?_
    obtain ⟨rfl, rfl⟩ := inj2 h
    exact r_iret X hP hS dX0_limitFor_36
  · have h := ipos c1 h
    refine lv_iload_n (pc := 25) hx hb dX0_limitFor_25 rfl (lv_at hl 0 rfl) ?_
    refine lv_bipush (pc := 26) (v := (9)) hx hb dX0_limitFor_26 (by decide) ?_
    refine lv_imul (pc := 28) hx hb dX0_limitFor_28 ?_
    refine lv_bipush (pc := 29) (v := (10)) hx hb dX0_limitFor_29 (by decide) ?_
    refine lv_idiv (pc := 31) hx hb dX0_limitFor_31 (by decide) ?_
    refine lv_goto (pc := 32) (tgt := 36) hx hb dX0_limitFor_32 (by decide) ?_
    obtain ⟨rfl, rfl⟩ := inj2 h
    exact r_iret X hP hS dX0_limitFor_36
def f_X0_raise (k0 : Nat) (a1 : Int32) (σ : Mem) : Option (Int32 × Mem) :=
  if (gI σ k0 0) = (2 : Int32) then
    some ((((2 : Int32) * a1) + (gI σ k0 1)), σ)
  else
    if (gI σ k0 0) = (4 : Int32) then
      some ((((2 : Int32) * a1) + (gI σ k0 1)), σ)
    else
      some (a1, σ)
abbrev RM_X0_raise : Room := { frames := 0, cells := 0, slots := 0, locals := 0 }
set_option maxHeartbeats 4000000 in
set_option maxRecDepth 100000 in
theorem c_X0_raise (l : Launch) (G : Gh) {k0 : Nat} {a1 : Int32} {σ : Mem} {rr : Int32} {σr : Mem} (hk0 : kd k0 = 0) (h : f_X0_raise k0 a1 σ = some (rr, σr)) : Met l yX0_raise [Cond.code yX0_raise prog_2_method_5_code 2 (some .int)] RM_X0_raise (va_Pc [.ref (ga G k0), .int a1] (Pre G σ)) (QG G (some (.int rr)) σr) 0 0 (AA G) := by
  refine ct_of (by decide) (fun p e s m below meth c X hP => ?_)
  have hx := X.hx
  have hb := X.hb
  have hS : va_S (AA G) s.heap s.heap [] := va_S.rf
  have hl := lv_entry ([.ref (ga G k0), .int a1]) (n := 2) (Nat.le_of_ble_eq_true rfl)
  rw [lg_entry_eq]
  generalize (lg_sl ([.ref (ga G k0), .int a1]) ++ List.replicate (2 - (lg_sl ([.ref (ga G k0), .int a1])).length) Slot.unset).toArray = ls at hl ⊢
  have hl : lv_has ls 2 [(0, .ref (ga G k0)), (1, .int a1)] := hl
  unfold f_X0_raise at h
  refine lv_aload_n (pc := 0) hx hb dX0_raise_0 rfl (lv_at hl 0 rfl) ?_
  refine gt_X0_9 X hP hk0 dX0_raise_1 ?_
  refine lv_iconst (pc := 4) (v := 2) hx hb dX0_raise_4 (by decide) ?_
  refine lv_icmp_eq (pc := 5) (tgt := 16) hx hb dX0_raise_5 (by decide) (fun c1 => ?_) (fun c1 => ?_)
  · have h := ipos c1 h
    refine lv_iconst (pc := 16) (v := 2) hx hb dX0_raise_16 (by decide) ?_
    refine lv_iload_n (pc := 17) hx hb dX0_raise_17 rfl (lv_at hl 1 rfl) ?_
    refine lv_imul (pc := 18) hx hb dX0_raise_18 ?_
    refine lv_aload_n (pc := 19) hx hb dX0_raise_19 rfl (lv_at hl 0 rfl) ?_
    refine gt_X0_15 X hP hk0 dX0_raise_20 ?_
    refine lv_iadd (pc := 23) hx hb dX0_raise_23 ?_
    refine lv_goto (pc := 24) (tgt := 28) hx hb dX0_raise_24 (by decide) ?_
    obtain ⟨rfl, rfl⟩ := inj2 h
    exact r_iret X hP hS dX0_raise_28
  · have h := ineg c1 h
    refine lv_aload_n (pc := 8) hx hb dX0_raise_8 rfl (lv_at hl 0 rfl) ?_
    refine gt_X0_9 X hP hk0 dX0_raise_9 ?_
    refine lv_iconst (pc := 12) (v := 4) hx hb dX0_raise_12 (by decide) ?_
    refine lv_icmp_ne (pc := 13) (tgt := 27) hx hb dX0_raise_13 (by decide) (fun c2 => ?_) (fun c2 => ?_)
    · have h := ineg c2 h
      refine lv_iload_n (pc := 27) hx hb dX0_raise_27 rfl (lv_at hl 1 rfl) ?_
      obtain ⟨rfl, rfl⟩ := inj2 h
      exact r_iret X hP hS dX0_raise_28
    · have h := ipos c2 h
      refine lv_iconst (pc := 16) (v := 2) hx hb dX0_raise_16 (by decide) ?_
      refine lv_iload_n (pc := 17) hx hb dX0_raise_17 rfl (lv_at hl 1 rfl) ?_
      refine lv_imul (pc := 18) hx hb dX0_raise_18 ?_
      refine lv_aload_n (pc := 19) hx hb dX0_raise_19 rfl (lv_at hl 0 rfl) ?_
      refine gt_X0_15 X hP hk0 dX0_raise_20 ?_
      refine lv_iadd (pc := 23) hx hb dX0_raise_23 ?_
      refine lv_goto (pc := 24) (tgt := 28) hx hb dX0_raise_24 (by decide) ?_
      obtain ⟨rfl, rfl⟩ := inj2 h
      exact r_iret X hP hS dX0_raise_28
def f_X0_isReady (k0 : Nat) (a1 : Int32) (a2 : Int32) (a3 : Int32) (a4 : Int32) (σ : Mem) : Option (Int32 × Mem) :=
  if (gI σ k0 0) = (5 : Int32) then
    if a3 < a2 then
      some ((0 : Int32), σ)
    else
      some ((1 : Int32), σ)
  else
    if ((gI σ k0 1) + (1 : Int32)) ≤ (0 : Int32) then
      some ((0 : Int32), σ)
    else
      grd (¬ ((gI σ k0 1) + (1 : Int32)) = 0) <|
      if (a1 - a1 / ((gI σ k0 1) + (1 : Int32)) * ((gI σ k0 1) + (1 : Int32))) = (0 : Int32) then
        if (gI σ k0 0) = (1 : Int32) then
          if ((3 : Int32) * (gI σ k0 1)) < a2 then
            some ((0 : Int32), σ)
          else
            if (gI σ k0 0) = (1 : Int32) then
              some ((1 : Int32), σ)
            else
              if a4 ≤ (0 : Int32) then
                some ((0 : Int32), σ)
              else
                some ((1 : Int32), σ)
        else
          if (gI σ k0 0) = (3 : Int32) then
            if ((3 : Int32) * (gI σ k0 1)) < a2 then
              some ((0 : Int32), σ)
            else
              if (gI σ k0 0) = (1 : Int32) then
                some ((1 : Int32), σ)
              else
                if a4 ≤ (0 : Int32) then
                  some ((0 : Int32), σ)
                else
                  some ((1 : Int32), σ)
          else
            some ((1 : Int32), σ)
      else
        some ((0 : Int32), σ)
abbrev RM_X0_isReady : Room := { frames := 0, cells := 0, slots := 0, locals := 0 }
set_option maxHeartbeats 4000000 in
set_option maxRecDepth 100000 in
theorem c_X0_isReady (l : Launch) (G : Gh) {k0 : Nat} {a1 : Int32} {a2 : Int32} {a3 : Int32} {a4 : Int32} {σ : Mem} {rr : Int32} {σr : Mem} (hk0 : kd k0 = 0) (h : f_X0_isReady k0 a1 a2 a3 a4 σ = some (rr, σr)) : Met l yX0_isReady [Cond.code yX0_isReady prog_2_method_6_code 6 (some .boolean)] RM_X0_isReady (va_Pc [.ref (ga G k0), .int a1, .int a2, .int a3, .int a4] (Pre G σ)) (QG G (some (.int rr)) σr) 0 0 (AA G) := by
  refine ct_of (by decide) (fun p e s m below meth c X hP => ?_)
  have hx := X.hx
  have hb := X.hb
  have hS : va_S (AA G) s.heap s.heap [] := va_S.rf
  have hl := lv_entry ([.ref (ga G k0), .int a1, .int a2, .int a3, .int a4]) (n := 6) (Nat.le_of_ble_eq_true rfl)
  rw [lg_entry_eq]
  generalize (lg_sl ([.ref (ga G k0), .int a1, .int a2, .int a3, .int a4]) ++ List.replicate (6 - (lg_sl ([.ref (ga G k0), .int a1, .int a2, .int a3, .int a4])).length) Slot.unset).toArray = ls at hl ⊢
  have hl : lv_has ls 6 [(0, .ref (ga G k0)), (1, .int a1), (2, .int a2), (3, .int a3), (4, .int a4)] := hl
  unfold f_X0_isReady at h
  refine lv_aload_n (pc := 0) hx hb dX0_isReady_0 rfl (lv_at hl 0 rfl) ?_
  refine gt_X0_9 X hP hk0 dX0_isReady_1 ?_
  refine lv_iconst (pc := 4) (v := 5) hx hb dX0_isReady_4 (by decide) ?_
  refine lv_icmp_ne (pc := 5) (tgt := 19) hx hb dX0_isReady_5 (by decide) (fun c1 => ?_) (fun c1 => ?_)
  · have h := ineg c1 h
    refine lv_aload_n (pc := 19) hx hb dX0_isReady_19 rfl (lv_at hl 0 rfl) ?_
    refine gt_X0_15 X hP hk0 dX0_isReady_20 ?_
    refine lv_iconst (pc := 23) (v := 1) hx hb dX0_isReady_23 (by decide) ?_
    refine lv_iadd (pc := 24) hx hb dX0_isReady_24 ?_
    refine lv_istore (pc := 25) (lv' := [(5, .int ((gI σ k0 1) + (1 : Int32))), (0, .ref (ga G k0)), (1, .int a1), (2, .int a2), (3, .int a3), (4, .int a4)]) hx hb dX0_isReady_25 hl (by decide) rfl (fun ls hl => ?_)
    refine lv_iload (pc := 27) hx hb dX0_isReady_27 (lv_at hl 0 rfl) ?_
    refine lv_if_le (pc := 29) (tgt := 39) hx hb dX0_isReady_29 (by decide) (fun c2 => ?_) (fun c2 => ?_)
    · have h := ipos c2 h
      refine lv_iconst (pc := 39) (v := 0) hx hb dX0_isReady_39 (by decide) ?_
      obtain ⟨rfl, rfl⟩ := inj2 h
      exact r_zret X hP hS (by decide) dX0_isReady_40
    · have h := ineg c2 h
      refine lv_iload_n (pc := 32) hx hb dX0_isReady_32 rfl (lv_at hl 2 rfl) ?_
      refine lv_iload (pc := 33) hx hb dX0_isReady_33 (lv_at hl 0 rfl) ?_
      obtain ⟨g3, h⟩ := grd_inv h
      refine lv_irem (pc := 35) hx hb dX0_isReady_35 g3 ?_
      refine lv_if_eq (pc := 36) (tgt := 41) hx hb dX0_isReady_36 (by decide) (fun c4 => ?_) (fun c4 => ?_)
      · have h := ipos c4 h
        refine lv_aload_n (pc := 41) hx hb dX0_isReady_41 rfl (lv_at hl 1 rfl) ?_
        refine gt_X0_9 X hP hk0 dX0_isReady_42 ?_
        refine lv_iconst (pc := 45) (v := 1) hx hb dX0_isReady_45 (by decide) ?_
        refine lv_icmp_eq (pc := 46) (tgt := 57) hx hb dX0_isReady_46 (by decide) (fun c5 => ?_) (fun c5 => ?_)
        · have h := ipos c5 h
          refine lv_iload_n (pc := 57) hx hb dX0_isReady_57 rfl (lv_at hl 3 rfl) ?_
          refine lv_iconst (pc := 58) (v := 3) hx hb dX0_isReady_58 (by decide) ?_
          refine lv_aload_n (pc := 59) hx hb dX0_isReady_59 rfl (lv_at hl 1 rfl) ?_
          refine gt_X0_15 X hP hk0 dX0_isReady_60 ?_
          refine lv_imul (pc := 63) hx hb dX0_isReady_63 ?_
          refine lv_icmp_gt (pc := 64) (tgt := 84) hx hb dX0_isReady_64 (by decide) (fun c6 => ?_) (fun c6 => ?_)
          · have h := ipos c6 h
            refine lv_iconst (pc := 84) (v := 0) hx hb dX0_isReady_84 (by decide) ?_
            obtain ⟨rfl, rfl⟩ := inj2 h
            exact r_zret X hP hS (by decide) dX0_isReady_85
          · have h := ineg c6 h
            refine lv_aload_n (pc := 67) hx hb dX0_isReady_67 rfl (lv_at hl 1 rfl) ?_
            refine gt_X0_9 X hP hk0 dX0_isReady_68 ?_
            refine lv_iconst (pc := 71) (v := 1) hx hb dX0_isReady_71 (by decide) ?_
            refine lv_icmp_eq (pc := 72) (tgt := 80) hx hb dX0_isReady_72 (by decide) (fun c7 => ?_) (fun c7 => ?_)
            · have h := ipos c7 h
              refine lv_iconst (pc := 80) (v := 1) hx hb dX0_isReady_80 (by decide) ?_
              refine lv_goto (pc := 81) (tgt := 85) hx hb dX0_isReady_81 (by decide) ?_
              obtain ⟨rfl, rfl⟩ := inj2 h
              exact r_zret X hP hS (by decide) dX0_isReady_85
            · have h := ineg c7 h
              refine lv_iload (pc := 75) hx hb dX0_isReady_75 (lv_at hl 5 rfl) ?_
              refine lv_if_le (pc := 77) (tgt := 84) hx hb dX0_isReady_77 (by decide) (fun c8 => ?_) (fun c8 => ?_)
              · have h := ipos c8 h
                refine lv_iconst (pc := 84) (v := 0) hx hb dX0_isReady_84 (by decide) ?_
                obtain ⟨rfl, rfl⟩ := inj2 h
                exact r_zret X hP hS (by decide) dX0_isReady_85
              · have h := ineg c8 h
                refine lv_iconst (pc := 80) (v := 1) hx hb dX0_isReady_80 (by decide) ?_
                refine lv_goto (pc := 81) (tgt := 85) hx hb dX0_isReady_81 (by decide) ?_
                obtain ⟨rfl, rfl⟩ := inj2 h
                exact r_zret X hP hS (by decide) dX0_isReady_85
        · have h := ineg c5 h
          refine lv_aload_n (pc := 49) hx hb dX0_isReady_49 rfl (lv_at hl 1 rfl) ?_
          refine gt_X0_9 X hP hk0 dX0_isReady_50 ?_
          refine lv_iconst (pc := 53) (v := 3) hx hb dX0_isReady_53 (by decide) ?_
          refine lv_icmp_ne (pc := 54) (tgt := 86) hx hb dX0_isReady_54 (by decide) (fun c9 => ?_) (fun c9 => ?_)
          · have h := ineg c9 h
            refine lv_iconst (pc := 86) (v := 1) hx hb dX0_isReady_86 (by decide) ?_
            obtain ⟨rfl, rfl⟩ := inj2 h
            exact r_zret X hP hS (by decide) dX0_isReady_87
          · have h := ipos c9 h
            refine lv_iload_n (pc := 57) hx hb dX0_isReady_57 rfl (lv_at hl 3 rfl) ?_
            refine lv_iconst (pc := 58) (v := 3) hx hb dX0_isReady_58 (by decide) ?_
            refine lv_aload_n (pc := 59) hx hb dX0_isReady_59 rfl (lv_at hl 1 rfl) ?_
            refine gt_X0_15 X hP hk0 dX0_isReady_60 ?_
            refine lv_imul (pc := 63) hx hb dX0_isReady_63 ?_
            refine lv_icmp_gt (pc := 64) (tgt := 84) hx hb dX0_isReady_64 (by decide) (fun c10 => ?_) (fun c10 => ?_)
            · have h := ipos c10 h
              refine lv_iconst (pc := 84) (v := 0) hx hb dX0_isReady_84 (by decide) ?_
              obtain ⟨rfl, rfl⟩ := inj2 h
              exact r_zret X hP hS (by decide) dX0_isReady_85
            · have h := ineg c10 h
              refine lv_aload_n (pc := 67) hx hb dX0_isReady_67 rfl (lv_at hl 1 rfl) ?_
              refine gt_X0_9 X hP hk0 dX0_isReady_68 ?_
              refine lv_iconst (pc := 71) (v := 1) hx hb dX0_isReady_71 (by decide) ?_
              refine lv_icmp_eq (pc := 72) (tgt := 80) hx hb dX0_isReady_72 (by decide) (fun c11 => ?_) (fun c11 => ?_)
              · have h := ipos c11 h
                refine lv_iconst (pc := 80) (v := 1) hx hb dX0_isReady_80 (by decide) ?_
                refine lv_goto (pc := 81) (tgt := 85) hx hb dX0_isReady_81 (by decide) ?_
                obtain ⟨rfl, rfl⟩ := inj2 h
                exact r_zret X hP hS (by decide) dX0_isReady_85
              · have h := ineg c11 h
                refine lv_iload (pc := 75) hx hb dX0_isReady_75 (lv_at hl 5 rfl) ?_
                refine lv_if_le (pc := 77) (tgt := 84) hx hb dX0_isReady_77 (by decide) (fun c12 => ?_) (fun c12 => ?_)
                · have h := ipos c12 h
                  refine lv_iconst (pc := 84) (v := 0) hx hb dX0_isReady_84 (by decide) ?_
                  obtain ⟨rfl, rfl⟩ := inj2 h
                  exact r_zret X hP hS (by decide) dX0_isReady_85
                · have h := ineg c12 h
                  refine lv_iconst (pc := 80) (v := 1) hx hb dX0_isReady_80 (by decide) ?_
                  refine lv_goto (pc := 81) (tgt := 85) hx hb dX0_isReady_81 (by decide) ?_
                  obtain ⟨rfl, rfl⟩ := inj2 h
                  exact r_zret X hP hS (by decide) dX0_isReady_85
      · have h := ineg c4 h
        refine lv_iconst (pc := 39) (v := 0) hx hb dX0_isReady_39 (by decide) ?_
        obtain ⟨rfl, rfl⟩ := inj2 h
        exact r_zret X hP hS (by decide) dX0_isReady_40
  · have h := ipos c1 h
    refine lv_iload_n (pc := 8) hx hb dX0_isReady_8 rfl (lv_at hl 2 rfl) ?_
    refine lv_iload_n (pc := 9) hx hb dX0_isReady_9 rfl (lv_at hl 3 rfl) ?_
    refine lv_icmp_gt (pc := 10) (tgt := 17) hx hb dX0_isReady_10 (by decide) (fun c13 => ?_) (fun c13 => ?_)
    · have h := ipos c13 h
      refine lv_iconst (pc := 17) (v := 0) hx hb dX0_isReady_17 (by decide) ?_
      obtain ⟨rfl, rfl⟩ := inj2 h
      exact r_zret X hP hS (by decide) dX0_isReady_18
    · have h := ineg c13 h
      refine lv_iconst (pc := 13) (v := 1) hx hb dX0_isReady_13 (by decide) ?_
      refine lv_goto (pc := 14) (tgt := 18) hx hb dX0_isReady_14 (by decide) ?_
      obtain ⟨rfl, rfl⟩ := inj2 h
      exact r_zret X hP hS (by decide) dX0_isReady_18
def F_X2_clear_12 (k0z : Nat) (rec1 : Int32 → Mem → Option Mem) : Int32 → Mem → Option Mem := fun v1 σ =>
  if (12 : Int32) ≤ v1 then
    bd1 (some (pI σ k0z 5 (5 : Int32))) fun σ6 =>
    bd1 (some (pI σ6 k0z 7 (-9 : Int32))) fun σ8 =>
    some σ8
  else
    bd1 (ixo (k0z + 3) v1) fun j10 =>
    bd1 (some (pI σ (k0z + 3) j10 (0 : Int32))) fun σ12 =>
    rec1 (v1 + (1 : Int32)) σ12
def f_X2_clear (k0 : Nat) (σ : Mem) : Option Mem :=
  bd1 (some (pI σ k0 1 (0 : Int32))) fun σ1 =>
  bd1 (some (pI σ1 k0 3 (0 : Int32))) fun σ3 =>
  iterF (F_X2_clear_12 k0) (fun _ _ => none) FU (0 : Int32) σ3
abbrev RM_X2_clear : Room := { frames := 0, cells := 0, slots := 0, locals := 0 }
set_option maxHeartbeats 4000000 in
set_option maxRecDepth 100000 in
theorem w_X2_clear_12 {l : Launch} {G : Gh} {p : Program} {e : Env} {s : State} {m : MethodId} {args : Array Value} {below : List Frame} {meth : Method} {c : Code} (X : Cx G p s m args meth c prog_4_method_2_code RX2 2 none) {k0z : Nat} (hz0 : kd k0z = 2) {σr : Mem} : ∀ (n : Nat) (v1 : Int32) (σ : Mem) (H : Heap) (locs : List Loc) (ls : Array Slot), PW G σ H → va_S (AA G) s.heap H locs → lv_has ls 2 [(0, .ref (ga G k0z)), (1, .int v1)] → iterF (F_X2_clear_12 k0z) (fun _ _ => none) n v1 σ = some σr → W p l e RM_X2_clear s m args below meth c H locs 0 0 (MQ below (QG G none σr) args s 0 0 (AA G)) (F0 m 12 ls []) := by
  have hx := X.hx
  have hb := X.hb
  intro n
  induction n with
  | zero => intro v1 σ H locs ls hP hS hl h; exact nnone (α := Mem) h
  | succ n ih1 =>
    intro v1 σ H locs ls hP hS hl h
    have h : F_X2_clear_12 k0z (iterF (F_X2_clear_12 k0z) (fun _ _ => none) n) v1 σ = some _ := h
    unfold F_X2_clear_12 at h
    refine lv_iload_n (pc := 12) hx hb dX2_clear_12 rfl (lv_at hl 1 rfl) ?_
    refine lv_bipush (pc := 13) (v := (12)) hx hb dX2_clear_13 (by decide) ?_
    refine lv_icmp_ge (pc := 15) (tgt := 31) hx hb dX2_clear_15 (by decide) (fun c5 => ?_) (fun c5 => ?_)
    · have h := ipos c5 h
      refine lv_aload_n (pc := 31) hx hb dX2_clear_31 rfl (lv_at hl 0 rfl) ?_
      refine lv_iconst (pc := 32) (v := 5) hx hb dX2_clear_32 (by decide) ?_
      obtain ⟨σ6, e7, h⟩ := bnd1 h
      refine pt_X2_34 X hP hS hz0 dX2_clear_33 (fun H locs hP hS => ?_)
      rw [Option.some.inj e7] at hP
      refine lv_aload_n (pc := 36) hx hb dX2_clear_36 rfl (lv_at hl 0 rfl) ?_
      refine lv_bipush (pc := 37) (v := (-9)) hx hb dX2_clear_37 (by decide) ?_
      obtain ⟨σ8, e9, h⟩ := bnd1 h
      refine pt_X2_40 X hP hS hz0 dX2_clear_39 (fun H locs hP hS => ?_)
      rw [Option.some.inj e9] at hP
      obtain rfl := Option.some.inj h
      exact r_vret X hP hS dX2_clear_42
    · have h := ineg c5 h
      refine lv_aload_n (pc := 18) hx hb dX2_clear_18 rfl (lv_at hl 0 rfl) ?_
      refine gt_X2_30 X hP hz0 dX2_clear_19 ?_
      refine lv_iload_n (pc := 22) hx hb dX2_clear_22 rfl (lv_at hl 1 rfl) ?_
      refine lv_iconst (pc := 23) (v := 0) hx hb dX2_clear_23 (by decide) ?_
      obtain ⟨j10, hj11, h⟩ := bnd1 h
      obtain ⟨σ12, e13, h⟩ := bnd1 h
      refine r_iast (pc := 24) X hP hS (kf_2_draughts hz0).1 hj11 dX2_clear_24 (fun H locs hP hS => ?_)
      rw [Option.some.inj e13] at hP
      refine lv_iinc (pc := 25) (v := (v1 + (1 : Int32))) (lv' := [(1, .int (v1 + (1 : Int32))), (0, .ref (ga G k0z))]) hx hb dX2_clear_25 hl (k := 1) rfl (congrArg (fun z => v1 + z) (by decide)) (by decide) rfl (fun ls hl => ?_)
      refine lv_goto (pc := 28) (tgt := 12) hx hb dX2_clear_28 (by decide) ?_
      exact ih1 _ _ _ _ _ hP hS (lv_sub hl [1, 0] rfl) h
set_option maxHeartbeats 4000000 in
set_option maxRecDepth 100000 in
theorem c_X2_clear (l : Launch) (G : Gh) {k0 : Nat} {σ : Mem} {σr : Mem} (hk0 : kd k0 = 2) (h : f_X2_clear k0 σ = some σr) : Met l yX2_clear [Cond.code yX2_clear prog_4_method_2_code 2 none] RM_X2_clear (va_Pc [.ref (ga G k0)] (Pre G σ)) (QG G none σr) 0 0 (AA G) := by
  refine ct_of (by decide) (fun p e s m below meth c X hP => ?_)
  have hx := X.hx
  have hb := X.hb
  have hS : va_S (AA G) s.heap s.heap [] := va_S.rf
  have hl := lv_entry ([.ref (ga G k0)]) (n := 2) (Nat.le_of_ble_eq_true rfl)
  rw [lg_entry_eq]
  generalize (lg_sl ([.ref (ga G k0)]) ++ List.replicate (2 - (lg_sl ([.ref (ga G k0)])).length) Slot.unset).toArray = ls at hl ⊢
  have hl : lv_has ls 2 [(0, .ref (ga G k0))] := hl
  unfold f_X2_clear at h
  refine lv_aload_n (pc := 0) hx hb dX2_clear_0 rfl (lv_at hl 0 rfl) ?_
  refine lv_iconst (pc := 1) (v := 0) hx hb dX2_clear_1 (by decide) ?_
  obtain ⟨σ1, e2, h⟩ := bnd1 h
  refine pt_X2_17 X hP hS hk0 dX2_clear_2 (fun H locs hP hS => ?_)
  rw [Option.some.inj e2] at hP
  refine lv_aload_n (pc := 5) hx hb dX2_clear_5 rfl (lv_at hl 0 rfl) ?_
  refine lv_iconst (pc := 6) (v := 0) hx hb dX2_clear_6 (by decide) ?_
  obtain ⟨σ3, e4, h⟩ := bnd1 h
  refine pt_X2_27 X hP hS hk0 dX2_clear_7 (fun H locs hP hS => ?_)
  rw [Option.some.inj e4] at hP
  refine lv_iconst (pc := 10) (v := 0) hx hb dX2_clear_10 (by decide) ?_
  refine lv_istore_n (pc := 11) (lv' := [(1, .int (0 : Int32)), (0, .ref (ga G k0))]) hx hb dX2_clear_11 rfl hl (by decide) rfl (fun ls hl => ?_)
  exact w_X2_clear_12 X  hk0  FU _ _ _ _ _ hP hS (lv_sub hl [1, 0] rfl) h
def f_X3_copy (k0 : Nat) (a1 : Nat) (σ : Mem) : Option Mem :=
  bd1 (some (pI σ k0 0 (gI σ a1 0))) fun σ1 =>
  bd1 (some (pI σ1 k0 1 (gI σ1 a1 1))) fun σ3 =>
  grd ((gI σ3 a1 2) = 0 ∨ (gI σ3 a1 2) = 1) <|
  bd1 (some (pI σ3 k0 2 (gI σ3 a1 2))) fun σ6 =>
  bd1 (some (pI σ6 k0 3 (gI σ6 a1 3))) fun σ8 =>
  bd1 (some (pI σ8 k0 4 (gI σ8 a1 4))) fun σ10 =>
  some σ10
abbrev RM_X3_copy : Room := { frames := 0, cells := 0, slots := 0, locals := 0 }
set_option maxHeartbeats 4000000 in
set_option maxRecDepth 100000 in
theorem c_X3_copy (l : Launch) (G : Gh) {k0 : Nat} {a1 : Nat} {σ : Mem} {σr : Mem} (hk0 : kd k0 = 3) (hk1 : kd a1 = 3) (h : f_X3_copy k0 a1 σ = some σr) : Met l yX3_copy [Cond.code yX3_copy prog_5_method_5_code 2 none] RM_X3_copy (va_Pc [.ref (ga G k0), .ref (ga G a1)] (Pre G σ)) (QG G none σr) 0 0 (AA G) := by
  refine ct_of (by decide) (fun p e s m below meth c X hP => ?_)
  have hx := X.hx
  have hb := X.hb
  have hS : va_S (AA G) s.heap s.heap [] := va_S.rf
  have hl := lv_entry ([.ref (ga G k0), .ref (ga G a1)]) (n := 2) (Nat.le_of_ble_eq_true rfl)
  rw [lg_entry_eq]
  generalize (lg_sl ([.ref (ga G k0), .ref (ga G a1)]) ++ List.replicate (2 - (lg_sl ([.ref (ga G k0), .ref (ga G a1)])).length) Slot.unset).toArray = ls at hl ⊢
  have hl : lv_has ls 2 [(0, .ref (ga G k0)), (1, .ref (ga G a1))] := hl
  unfold f_X3_copy at h
  refine lv_aload_n (pc := 0) hx hb dX3_copy_0 rfl (lv_at hl 0 rfl) ?_
  refine lv_aload_n (pc := 1) hx hb dX3_copy_1 rfl (lv_at hl 1 rfl) ?_
  refine gt_X3_9 X hP hk1 dX3_copy_2 ?_
  obtain ⟨σ1, e2, h⟩ := bnd1 h
  refine pt_X3_9 X hP hS hk0 dX3_copy_5 (fun H locs hP hS => ?_)
  rw [Option.some.inj e2] at hP
  refine lv_aload_n (pc := 8) hx hb dX3_copy_8 rfl (lv_at hl 0 rfl) ?_
  refine lv_aload_n (pc := 9) hx hb dX3_copy_9 rfl (lv_at hl 1 rfl) ?_
  refine gt_X3_15 X hP hk1 dX3_copy_10 ?_
  obtain ⟨σ3, e4, h⟩ := bnd1 h
  refine pt_X3_15 X hP hS hk0 dX3_copy_13 (fun H locs hP hS => ?_)
  rw [Option.some.inj e4] at hP
  refine lv_aload_n (pc := 16) hx hb dX3_copy_16 rfl (lv_at hl 0 rfl) ?_
  refine lv_aload_n (pc := 17) hx hb dX3_copy_17 rfl (lv_at hl 1 rfl) ?_
  refine gt_X3_18 X hP hk1 dX3_copy_18 ?_
  obtain ⟨g5, h⟩ := grd_inv h
  obtain ⟨σ6, e7, h⟩ := bnd1 h
  refine pt_X3_18 X hP hS hk0 g5 dX3_copy_21 (fun H locs hP hS => ?_)
  rw [Option.some.inj e7] at hP
  refine lv_aload_n (pc := 24) hx hb dX3_copy_24 rfl (lv_at hl 0 rfl) ?_
  refine lv_aload_n (pc := 25) hx hb dX3_copy_25 rfl (lv_at hl 1 rfl) ?_
  refine gt_X3_22 X hP hk1 dX3_copy_26 ?_
  obtain ⟨σ8, e9, h⟩ := bnd1 h
  refine pt_X3_22 X hP hS hk0 dX3_copy_29 (fun H locs hP hS => ?_)
  rw [Option.some.inj e9] at hP
  refine lv_aload_n (pc := 32) hx hb dX3_copy_32 rfl (lv_at hl 0 rfl) ?_
  refine lv_aload_n (pc := 33) hx hb dX3_copy_33 rfl (lv_at hl 1 rfl) ?_
  refine gt_X3_25 X hP hk1 dX3_copy_34 ?_
  obtain ⟨σ10, e11, h⟩ := bnd1 h
  refine pt_X3_25 X hP hS hk0 dX3_copy_37 (fun H locs hP hS => ?_)
  rw [Option.some.inj e11] at hP
  obtain rfl := Option.some.inj h
  exact r_vret X hP hS dX3_copy_40
def F_X2_copy_46 (k0z : Nat) (k1z : Nat) (rec1 : Int32 → Mem → Option Mem) : Int32 → Mem → Option Mem := fun v2 σ =>
  if (6 : Int32) ≤ v2 then
    bd1 (cpo σ (k1z + 3) (0 : Int32) (k0z + 3) (0 : Int32) (12 : Int32)) fun σ7 =>
    bd1 (some (pI σ7 k0z 5 (gI σ7 k1z 5))) fun σ9 =>
    bd1 (some (pI σ9 k0z 6 (gI σ9 k1z 6))) fun σ11 =>
    bd1 (some (pI σ11 k0z 7 (gI σ11 k1z 7))) fun σ13 =>
    bd1 (some (pI σ13 k0z 8 (gI σ13 k1z 8))) fun σ15 =>
    bd1 (some (pI σ15 k0z 9 (gI σ15 k1z 9))) fun σ17 =>
    bd1 (some (pI σ17 k0z 10 (gI σ17 k1z 10))) fun σ19 =>
    bd1 (some (pI σ19 k0z 11 (gI σ19 k1z 11))) fun σ21 =>
    some σ21
  else
    bd1 (ixo (k0z + 2) v2) fun j23 =>
    bd1 (ixo (k1z + 2) v2) fun j25 =>
    bd1 (f_X0_copy ((k0z + 2) + 7 + j23) ((k1z + 2) + 7 + j25) σ) fun σ27 =>
    rec1 (v2 + (1 : Int32)) σ27
def F_X2_copy_10 (k0z : Nat) (k1z : Nat) (rec1 : Int32 → Mem → Option Mem) : Int32 → Mem → Option Mem := fun v2 σ =>
  if (5 : Int32) ≤ v2 then
    bd1 (some (pI σ k0z 3 (gI σ k1z 3))) fun σ4 =>
    iterF (F_X2_copy_46 k0z k1z) (fun _ _ => none) FU (0 : Int32) σ4
  else
    bd1 (ixo (k0z + 1) v2) fun j29 =>
    bd1 (ixo (k1z + 1) v2) fun j31 =>
    bd1 (f_X3_copy ((k0z + 1) + 3 + j29) ((k1z + 1) + 3 + j31) σ) fun σ33 =>
    rec1 (v2 + (1 : Int32)) σ33
def f_X2_copy (k0 : Nat) (a1 : Nat) (σ : Mem) : Option Mem :=
  bd1 (some (pI σ k0 1 (gI σ a1 1))) fun σ1 =>
  iterF (F_X2_copy_10 k0 a1) (fun _ _ => none) FU (0 : Int32) σ1
abbrev RM_X2_copy : Room := { frames := 2, cells := 0, slots := 0, locals := 60 }
set_option maxHeartbeats 4000000 in
set_option maxRecDepth 100000 in
theorem w_X2_copy_46 {l : Launch} {G : Gh} {p : Program} {e : Env} {s : State} {m : MethodId} {args : Array Value} {below : List Frame} {meth : Method} {c : Code} (X : Cx G p s m args meth c prog_4_method_3_code RX2 3 none) {k0z : Nat} {k1z : Nat} (hz0 : kd k0z = 2) (hz1 : kd k1z = 2) {σr : Mem} : ∀ (n : Nat) (v2 : Int32) (σ : Mem) (H : Heap) (locs : List Loc) (ls : Array Slot), PW G σ H → va_S (AA G) s.heap H locs → lv_has ls 3 [(0, .ref (ga G k0z)), (1, .ref (ga G k1z)), (2, .int v2)] → iterF (F_X2_copy_46 k0z k1z) (fun _ _ => none) n v2 σ = some σr → W p l e RM_X2_copy s m args below meth c H locs 0 0 (MQ below (QG G none σr) args s 0 0 (AA G)) (F0 m 46 ls []) := by
  have hx := X.hx
  have hb := X.hb
  intro n
  induction n with
  | zero => intro v2 σ H locs ls hP hS hl h; exact nnone (α := Mem) h
  | succ n ih1 =>
    intro v2 σ H locs ls hP hS hl h
    have h : F_X2_copy_46 k0z k1z (iterF (F_X2_copy_46 k0z k1z) (fun _ _ => none) n) v2 σ = some _ := h
    unfold F_X2_copy_46 at h
    refine lv_iload_n (pc := 46) hx hb dX2_copy_46 rfl (lv_at hl 2 rfl) ?_
    refine lv_bipush (pc := 47) (v := (6)) hx hb dX2_copy_47 (by decide) ?_
    refine lv_icmp_ge (pc := 49) (tgt := 73) hx hb dX2_copy_49 (by decide) (fun c6 => ?_) (fun c6 => ?_)
    · have h := ipos c6 h
      refine lv_aload_n (pc := 73) hx hb dX2_copy_73 rfl (lv_at hl 1 rfl) ?_
      refine gt_X2_30 X hP hz1 dX2_copy_74 ?_
      refine lv_iconst (pc := 77) (v := 0) hx hb dX2_copy_77 (by decide) ?_
      refine lv_aload_n (pc := 78) hx hb dX2_copy_78 rfl (lv_at hl 0 rfl) ?_
      refine gt_X2_30 X hP hz0 dX2_copy_79 ?_
      refine lv_iconst (pc := 82) (v := 0) hx hb dX2_copy_82 (by decide) ?_
      refine lv_bipush (pc := 83) (v := (12)) hx hb dX2_copy_83 (by decide) ?_
      obtain ⟨σ7, e8, h⟩ := bnd1 h
      refine r_copy (pc := 85) X hP hS hl.1 (X.tb tw_494 rfl) (X.tb tw_496 rfl) (X.tb tw_495 rfl) (X.tb tw_16 rfl) (kf_2_draughts hz1).1 (kf_2_draughts hz0).1 e8 (Nat.le_of_ble_eq_true rfl) (by decide) dX2_copy_85 (fun H locs hP hS => ?_)
      refine lv_aload_n (pc := 88) hx hb dX2_copy_88 rfl (lv_at hl 0 rfl) ?_
      refine lv_aload_n (pc := 89) hx hb dX2_copy_89 rfl (lv_at hl 1 rfl) ?_
      refine gt_X2_34 X hP hz1 dX2_copy_90 ?_
      obtain ⟨σ9, e10, h⟩ := bnd1 h
      refine pt_X2_34 X hP hS hz0 dX2_copy_93 (fun H locs hP hS => ?_)
      rw [Option.some.inj e10] at hP
      refine lv_aload_n (pc := 96) hx hb dX2_copy_96 rfl (lv_at hl 0 rfl) ?_
      refine lv_aload_n (pc := 97) hx hb dX2_copy_97 rfl (lv_at hl 1 rfl) ?_
      refine gt_X2_37 X hP hz1 dX2_copy_98 ?_
      obtain ⟨σ11, e12, h⟩ := bnd1 h
      refine pt_X2_37 X hP hS hz0 dX2_copy_101 (fun H locs hP hS => ?_)
      rw [Option.some.inj e12] at hP
      refine lv_aload_n (pc := 104) hx hb dX2_copy_104 rfl (lv_at hl 0 rfl) ?_
      refine lv_aload_n (pc := 105) hx hb dX2_copy_105 rfl (lv_at hl 1 rfl) ?_
      refine gt_X2_40 X hP hz1 dX2_copy_106 ?_
      obtain ⟨σ13, e14, h⟩ := bnd1 h
      refine pt_X2_40 X hP hS hz0 dX2_copy_109 (fun H locs hP hS => ?_)
      rw [Option.some.inj e14] at hP
      refine lv_aload_n (pc := 112) hx hb dX2_copy_112 rfl (lv_at hl 0 rfl) ?_
      refine lv_aload_n (pc := 113) hx hb dX2_copy_113 rfl (lv_at hl 1 rfl) ?_
      refine gt_X2_43 X hP hz1 dX2_copy_114 ?_
      obtain ⟨σ15, e16, h⟩ := bnd1 h
      refine pt_X2_43 X hP hS hz0 dX2_copy_117 (fun H locs hP hS => ?_)
      rw [Option.some.inj e16] at hP
      refine lv_aload_n (pc := 120) hx hb dX2_copy_120 rfl (lv_at hl 0 rfl) ?_
      refine lv_aload_n (pc := 121) hx hb dX2_copy_121 rfl (lv_at hl 1 rfl) ?_
      refine gt_X2_46 X hP hz1 dX2_copy_122 ?_
      obtain ⟨σ17, e18, h⟩ := bnd1 h
      refine pt_X2_46 X hP hS hz0 dX2_copy_125 (fun H locs hP hS => ?_)
      rw [Option.some.inj e18] at hP
      refine lv_aload_n (pc := 128) hx hb dX2_copy_128 rfl (lv_at hl 0 rfl) ?_
      refine lv_aload_n (pc := 129) hx hb dX2_copy_129 rfl (lv_at hl 1 rfl) ?_
      refine gt_X2_49 X hP hz1 dX2_copy_130 ?_
      obtain ⟨σ19, e20, h⟩ := bnd1 h
      refine pt_X2_49 X hP hS hz0 dX2_copy_133 (fun H locs hP hS => ?_)
      rw [Option.some.inj e20] at hP
      refine lv_aload_n (pc := 136) hx hb dX2_copy_136 rfl (lv_at hl 0 rfl) ?_
      refine lv_aload_n (pc := 137) hx hb dX2_copy_137 rfl (lv_at hl 1 rfl) ?_
      refine gt_X2_52 X hP hz1 dX2_copy_138 ?_
      obtain ⟨σ21, e22, h⟩ := bnd1 h
      refine pt_X2_52 X hP hS hz0 dX2_copy_141 (fun H locs hP hS => ?_)
      rw [Option.some.inj e22] at hP
      obtain rfl := Option.some.inj h
      exact r_vret X hP hS dX2_copy_144
    · have h := ineg c6 h
      refine lv_aload_n (pc := 52) hx hb dX2_copy_52 rfl (lv_at hl 0 rfl) ?_
      refine gt_X2_23 X hP hz0 dX2_copy_53 ?_
      refine lv_iload_n (pc := 56) hx hb dX2_copy_56 rfl (lv_at hl 2 rfl) ?_
      obtain ⟨j23, hj24, h⟩ := bnd1 h
      refine r_ald14 (pc := 57) X hP (kf_2_bidders hz0).1 hj24 dX2_copy_57 ?_
      refine lv_aload_n (pc := 58) hx hb dX2_copy_58 rfl (lv_at hl 1 rfl) ?_
      refine gt_X2_23 X hP hz1 dX2_copy_59 ?_
      refine lv_iload_n (pc := 62) hx hb dX2_copy_62 rfl (lv_at hl 2 rfl) ?_
      obtain ⟨j25, hj26, h⟩ := bnd1 h
      refine r_ald14 (pc := 63) X hP (kf_2_bidders hz1).1 hj26 dX2_copy_63 ?_
      obtain ⟨σ27, e28, h⟩ := bnd1 h
      refine cl_X2_61 X hP hS (ke_14 (kf_2_bidders hz0).1 hj24) (As := [.ref (ga G ((k1z + 2) + 7 + j25))]) (rest := []) (c_X0_copy l G (ke_14 (kf_2_bidders hz0).1 hj24) (ke_14 (kf_2_bidders hz1).1 hj26) e28) ⟨rfl, rfl, Nat.le_of_ble_eq_true rfl, Nat.le_of_ble_eq_true rfl⟩ rfl hl.1 rfl (Nat.le_of_ble_eq_true rfl) ⟨Nat.zero_le _, Nat.zero_le _⟩ (pc := 64) dX2_copy_64 (fun H locs hP hS => ?_)
      change W p l e _ s m _ below meth c H locs _ _ _ (F0 m (64 + 3) ls [])
      refine lv_iinc (pc := 67) (v := (v2 + (1 : Int32))) (lv' := [(2, .int (v2 + (1 : Int32))), (0, .ref (ga G k0z)), (1, .ref (ga G k1z))]) hx hb dX2_copy_67 hl (k := 2) rfl (congrArg (fun z => v2 + z) (by decide)) (by decide) rfl (fun ls hl => ?_)
      refine lv_goto (pc := 70) (tgt := 46) hx hb dX2_copy_70 (by decide) ?_
      exact ih1 _ _ _ _ _ hP hS (lv_sub hl [1, 2, 0] rfl) h
set_option maxHeartbeats 4000000 in
set_option maxRecDepth 100000 in
theorem w_X2_copy_10 {l : Launch} {G : Gh} {p : Program} {e : Env} {s : State} {m : MethodId} {args : Array Value} {below : List Frame} {meth : Method} {c : Code} (X : Cx G p s m args meth c prog_4_method_3_code RX2 3 none) {k0z : Nat} {k1z : Nat} (hz0 : kd k0z = 2) (hz1 : kd k1z = 2) {σr : Mem} : ∀ (n : Nat) (v2 : Int32) (σ : Mem) (H : Heap) (locs : List Loc) (ls : Array Slot), PW G σ H → va_S (AA G) s.heap H locs → lv_has ls 3 [(0, .ref (ga G k0z)), (1, .ref (ga G k1z)), (2, .int v2)] → iterF (F_X2_copy_10 k0z k1z) (fun _ _ => none) n v2 σ = some σr → W p l e RM_X2_copy s m args below meth c H locs 0 0 (MQ below (QG G none σr) args s 0 0 (AA G)) (F0 m 10 ls []) := by
  have hx := X.hx
  have hb := X.hb
  intro n
  induction n with
  | zero => intro v2 σ H locs ls hP hS hl h; exact nnone (α := Mem) h
  | succ n ih1 =>
    intro v2 σ H locs ls hP hS hl h
    have h : F_X2_copy_10 k0z k1z (iterF (F_X2_copy_10 k0z k1z) (fun _ _ => none) n) v2 σ = some _ := h
    unfold F_X2_copy_10 at h
    refine lv_iload_n (pc := 10) hx hb dX2_copy_10 rfl (lv_at hl 2 rfl) ?_
    refine lv_iconst (pc := 11) (v := 5) hx hb dX2_copy_11 (by decide) ?_
    refine lv_icmp_ge (pc := 12) (tgt := 36) hx hb dX2_copy_12 (by decide) (fun c3 => ?_) (fun c3 => ?_)
    · have h := ipos c3 h
      refine lv_aload_n (pc := 36) hx hb dX2_copy_36 rfl (lv_at hl 0 rfl) ?_
      refine lv_aload_n (pc := 37) hx hb dX2_copy_37 rfl (lv_at hl 1 rfl) ?_
      refine gt_X2_27 X hP hz1 dX2_copy_38 ?_
      obtain ⟨σ4, e5, h⟩ := bnd1 h
      refine pt_X2_27 X hP hS hz0 dX2_copy_41 (fun H locs hP hS => ?_)
      rw [Option.some.inj e5] at hP
      refine lv_iconst (pc := 44) (v := 0) hx hb dX2_copy_44 (by decide) ?_
      refine lv_istore_n (pc := 45) (lv' := [(2, .int (0 : Int32)), (0, .ref (ga G k0z)), (1, .ref (ga G k1z))]) hx hb dX2_copy_45 rfl hl (by decide) rfl (fun ls hl => ?_)
      exact w_X2_copy_46 X  hz0 hz1  FU _ _ _ _ _ hP hS (lv_sub hl [1, 2, 0] rfl) h
    · have h := ineg c3 h
      refine lv_aload_n (pc := 15) hx hb dX2_copy_15 rfl (lv_at hl 0 rfl) ?_
      refine gt_X2_11 X hP hz0 dX2_copy_16 ?_
      refine lv_iload_n (pc := 19) hx hb dX2_copy_19 rfl (lv_at hl 2 rfl) ?_
      obtain ⟨j29, hj30, h⟩ := bnd1 h
      refine r_ald15 (pc := 20) X hP (kf_2_lots hz0).1 hj30 dX2_copy_20 ?_
      refine lv_aload_n (pc := 21) hx hb dX2_copy_21 rfl (lv_at hl 1 rfl) ?_
      refine gt_X2_11 X hP hz1 dX2_copy_22 ?_
      refine lv_iload_n (pc := 25) hx hb dX2_copy_25 rfl (lv_at hl 2 rfl) ?_
      obtain ⟨j31, hj32, h⟩ := bnd1 h
      refine r_ald15 (pc := 26) X hP (kf_2_lots hz1).1 hj32 dX2_copy_26 ?_
      obtain ⟨σ33, e34, h⟩ := bnd1 h
      refine cl_X2_57 X hP hS (ke_15 (kf_2_lots hz0).1 hj30) (As := [.ref (ga G ((k1z + 1) + 3 + j31))]) (rest := []) (c_X3_copy l G (ke_15 (kf_2_lots hz0).1 hj30) (ke_15 (kf_2_lots hz1).1 hj32) e34) ⟨rfl, rfl, Nat.le_of_ble_eq_true rfl, Nat.le_of_ble_eq_true rfl⟩ rfl hl.1 rfl (Nat.le_of_ble_eq_true rfl) ⟨Nat.zero_le _, Nat.zero_le _⟩ (pc := 27) dX2_copy_27 (fun H locs hP hS => ?_)
      change W p l e _ s m _ below meth c H locs _ _ _ (F0 m (27 + 3) ls [])
      refine lv_iinc (pc := 30) (v := (v2 + (1 : Int32))) (lv' := [(2, .int (v2 + (1 : Int32))), (0, .ref (ga G k0z)), (1, .ref (ga G k1z))]) hx hb dX2_copy_30 hl (k := 2) rfl (congrArg (fun z => v2 + z) (by decide)) (by decide) rfl (fun ls hl => ?_)
      refine lv_goto (pc := 33) (tgt := 10) hx hb dX2_copy_33 (by decide) ?_
      exact ih1 _ _ _ _ _ hP hS (lv_sub hl [1, 2, 0] rfl) h
set_option maxHeartbeats 4000000 in
set_option maxRecDepth 100000 in
theorem c_X2_copy (l : Launch) (G : Gh) {k0 : Nat} {a1 : Nat} {σ : Mem} {σr : Mem} (hk0 : kd k0 = 2) (hk1 : kd a1 = 2) (h : f_X2_copy k0 a1 σ = some σr) : Met l yX2_copy [Cond.code yX2_copy prog_4_method_3_code 3 none] RM_X2_copy (va_Pc [.ref (ga G k0), .ref (ga G a1)] (Pre G σ)) (QG G none σr) 0 0 (AA G) := by
  refine ct_of (by decide) (fun p e s m below meth c X hP => ?_)
  have hx := X.hx
  have hb := X.hb
  have hS : va_S (AA G) s.heap s.heap [] := va_S.rf
  have hl := lv_entry ([.ref (ga G k0), .ref (ga G a1)]) (n := 3) (Nat.le_of_ble_eq_true rfl)
  rw [lg_entry_eq]
  generalize (lg_sl ([.ref (ga G k0), .ref (ga G a1)]) ++ List.replicate (3 - (lg_sl ([.ref (ga G k0), .ref (ga G a1)])).length) Slot.unset).toArray = ls at hl ⊢
  have hl : lv_has ls 3 [(0, .ref (ga G k0)), (1, .ref (ga G a1))] := hl
  unfold f_X2_copy at h
  refine lv_aload_n (pc := 0) hx hb dX2_copy_0 rfl (lv_at hl 0 rfl) ?_
  refine lv_aload_n (pc := 1) hx hb dX2_copy_1 rfl (lv_at hl 1 rfl) ?_
  refine gt_X2_17 X hP hk1 dX2_copy_2 ?_
  obtain ⟨σ1, e2, h⟩ := bnd1 h
  refine pt_X2_17 X hP hS hk0 dX2_copy_5 (fun H locs hP hS => ?_)
  rw [Option.some.inj e2] at hP
  refine lv_iconst (pc := 8) (v := 0) hx hb dX2_copy_8 (by decide) ?_
  refine lv_istore_n (pc := 9) (lv' := [(2, .int (0 : Int32)), (0, .ref (ga G k0)), (1, .ref (ga G a1))]) hx hb dX2_copy_9 rfl hl (by decide) rfl (fun ls hl => ?_)
  exact w_X2_copy_10 X  hk0 hk1  FU _ _ _ _ _ hP hS (lv_sub hl [1, 2, 0] rfl) h
def f_X2_lotAt (k0 : Nat) (a1 : Int32) (σ : Mem) : Option (Option Nat × Mem) :=
  if a1 < (0 : Int32) then
    some (none, σ)
  else
    if (gI σ k0 1) ≤ a1 then
      some (none, σ)
    else
      if (5 : Int32) ≤ a1 then
        some (none, σ)
      else
        bd1 (ixo (k0 + 1) a1) fun j4 =>
        some (some ((k0 + 1) + 3 + j4), σ)
abbrev RM_X2_lotAt : Room := { frames := 0, cells := 0, slots := 0, locals := 0 }
set_option maxHeartbeats 4000000 in
set_option maxRecDepth 100000 in
theorem c_X2_lotAt (l : Launch) (G : Gh) {k0 : Nat} {a1 : Int32} {σ : Mem} {rr : Option Nat} {σr : Mem} (hk0 : kd k0 = 2) (h : f_X2_lotAt k0 a1 σ = some (rr, σr)) : Met l yX2_lotAt [Cond.code yX2_lotAt prog_4_method_4_code 2 (some (.object "InchCandle$Lot"))] RM_X2_lotAt (va_Pc [.ref (ga G k0), .int a1] (Pre G σ)) (QG G (some (rfv G rr)) σr) 0 0 (AA G) := by
  refine ct_of (by decide) (fun p e s m below meth c X hP => ?_)
  have hx := X.hx
  have hb := X.hb
  have hS : va_S (AA G) s.heap s.heap [] := va_S.rf
  have hl := lv_entry ([.ref (ga G k0), .int a1]) (n := 2) (Nat.le_of_ble_eq_true rfl)
  rw [lg_entry_eq]
  generalize (lg_sl ([.ref (ga G k0), .int a1]) ++ List.replicate (2 - (lg_sl ([.ref (ga G k0), .int a1])).length) Slot.unset).toArray = ls at hl ⊢
  have hl : lv_has ls 2 [(0, .ref (ga G k0)), (1, .int a1)] := hl
  unfold f_X2_lotAt at h
  refine lv_iload_n (pc := 0) hx hb dX2_lotAt_0 rfl (lv_at hl 1 rfl) ?_
  refine lv_if_lt (pc := 1) (tgt := 26) hx hb dX2_lotAt_1 (by decide) (fun c1 => ?_) (fun c1 => ?_)
  · have h := ipos c1 h
    refine lv_null (pc := 26) hx hb dX2_lotAt_26 ?_
    obtain ⟨rfl, rfl⟩ := inj2 h
    exact r_aret (v := .null) X hP hS (Or.inl rfl) dX2_lotAt_27
  · have h := ineg c1 h
    refine lv_iload_n (pc := 4) hx hb dX2_lotAt_4 rfl (lv_at hl 1 rfl) ?_
    refine lv_aload_n (pc := 5) hx hb dX2_lotAt_5 rfl (lv_at hl 0 rfl) ?_
    refine gt_X2_17 X hP hk0 dX2_lotAt_6 ?_
    refine lv_icmp_ge (pc := 9) (tgt := 26) hx hb dX2_lotAt_9 (by decide) (fun c2 => ?_) (fun c2 => ?_)
    · have h := ipos c2 h
      refine lv_null (pc := 26) hx hb dX2_lotAt_26 ?_
      obtain ⟨rfl, rfl⟩ := inj2 h
      exact r_aret (v := .null) X hP hS (Or.inl rfl) dX2_lotAt_27
    · have h := ineg c2 h
      refine lv_iload_n (pc := 12) hx hb dX2_lotAt_12 rfl (lv_at hl 1 rfl) ?_
      refine lv_iconst (pc := 13) (v := 5) hx hb dX2_lotAt_13 (by decide) ?_
      refine lv_icmp_ge (pc := 14) (tgt := 26) hx hb dX2_lotAt_14 (by decide) (fun c3 => ?_) (fun c3 => ?_)
      · have h := ipos c3 h
        refine lv_null (pc := 26) hx hb dX2_lotAt_26 ?_
        obtain ⟨rfl, rfl⟩ := inj2 h
        exact r_aret (v := .null) X hP hS (Or.inl rfl) dX2_lotAt_27
      · have h := ineg c3 h
        refine lv_aload_n (pc := 17) hx hb dX2_lotAt_17 rfl (lv_at hl 0 rfl) ?_
        refine gt_X2_11 X hP hk0 dX2_lotAt_18 ?_
        refine lv_iload_n (pc := 21) hx hb dX2_lotAt_21 rfl (lv_at hl 1 rfl) ?_
        obtain ⟨j4, hj5, h⟩ := bnd1 h
        refine r_ald15 (pc := 22) X hP (kf_2_lots hk0).1 hj5 dX2_lotAt_22 ?_
        refine lv_goto (pc := 23) (tgt := 27) hx hb dX2_lotAt_23 (by decide) ?_
        obtain ⟨rfl, rfl⟩ := inj2 h
        exact r_aret (v := .ref (ga G ((k0 + 1) + 3 + j4))) X hP hS (Or.inr ⟨_, rfl⟩) dX2_lotAt_27
def f_X2_unsoldAt (k0 : Nat) (a1 : Int32) (σ : Mem) : Option (Option Nat × Mem) :=
  bd2 (f_X2_lotAt k0 a1 σ) fun r3 σ1 =>
  onr r3 (
    some (none, σ1)
    ) fun q4 => grd (kd q4 = 3) <|
    if (gI σ1 q4 2) = (0 : Int32) then
      some (some q4, σ1)
    else
      some (none, σ1)
abbrev RM_X2_unsoldAt : Room := { frames := 1, cells := 0, slots := 0, locals := 21 }
set_option maxHeartbeats 4000000 in
set_option maxRecDepth 100000 in
theorem c_X2_unsoldAt (l : Launch) (G : Gh) {k0 : Nat} {a1 : Int32} {σ : Mem} {rr : Option Nat} {σr : Mem} (hk0 : kd k0 = 2) (h : f_X2_unsoldAt k0 a1 σ = some (rr, σr)) : Met l yX2_unsoldAt [Cond.code yX2_unsoldAt prog_4_method_5_code 3 (some (.object "InchCandle$Lot"))] RM_X2_unsoldAt (va_Pc [.ref (ga G k0), .int a1] (Pre G σ)) (QG G (some (rfv G rr)) σr) 0 0 (AA G) := by
  refine ct_of (by decide) (fun p e s m below meth c X hP => ?_)
  have hx := X.hx
  have hb := X.hb
  have hS : va_S (AA G) s.heap s.heap [] := va_S.rf
  have hl := lv_entry ([.ref (ga G k0), .int a1]) (n := 3) (Nat.le_of_ble_eq_true rfl)
  rw [lg_entry_eq]
  generalize (lg_sl ([.ref (ga G k0), .int a1]) ++ List.replicate (3 - (lg_sl ([.ref (ga G k0), .int a1])).length) Slot.unset).toArray = ls at hl ⊢
  have hl : lv_has ls 3 [(0, .ref (ga G k0)), (1, .int a1)] := hl
  unfold f_X2_unsoldAt at h
  refine lv_aload_n (pc := 0) hx hb dX2_unsoldAt_0 rfl (lv_at hl 0 rfl) ?_
  refine lv_iload_n (pc := 1) hx hb dX2_unsoldAt_1 rfl (lv_at hl 1 rfl) ?_
  obtain ⟨r3, σ1, e2, h⟩ := bnd2 h
  rcases r3 with _ | q4
  · have h := onr_n h
    refine cl_X2_70 X hP hS hk0 (As := [.int a1]) (rest := []) (c_X2_lotAt l G hk0 e2) ⟨rfl, rfl, Nat.le_of_ble_eq_true rfl, Nat.le_of_ble_eq_true rfl⟩ rfl hl.1 rfl (Nat.le_of_ble_eq_true rfl) ⟨Nat.zero_le _, Nat.zero_le _⟩ (pc := 2) dX2_unsoldAt_2 (fun H locs hP hS => ?_)
    change W p l e _ s m _ below meth c H locs _ _ _ (F0 m (2 + 3) ls (.null :: []))
    refine lv_astore_nN (pc := 5) (lv' := [(2, .null), (0, .ref (ga G k0)), (1, .int a1)]) hx hb dX2_unsoldAt_5 rfl hl (by decide) rfl (fun ls hl => ?_)
    refine lv_aload_nN (pc := 6) hx hb dX2_unsoldAt_6 rfl (lv_at hl 0 rfl) ?_
    refine lv_ifnullN (pc := 7) (tgt := 17) hx hb dX2_unsoldAt_7 (by decide) ?_
    refine lv_null (pc := 17) hx hb dX2_unsoldAt_17 ?_
    refine lv_goto (pc := 18) (tgt := 22) hx hb dX2_unsoldAt_18 (by decide) ?_
    obtain ⟨rfl, rfl⟩ := inj2 h
    exact r_aret (v := .null) X hP hS (Or.inl rfl) dX2_unsoldAt_22
  · have h := onr_s h
    obtain ⟨hq5, h⟩ := grd_inv h
    refine cl_X2_70 X hP hS hk0 (As := [.int a1]) (rest := []) (c_X2_lotAt l G hk0 e2) ⟨rfl, rfl, Nat.le_of_ble_eq_true rfl, Nat.le_of_ble_eq_true rfl⟩ rfl hl.1 rfl (Nat.le_of_ble_eq_true rfl) ⟨Nat.zero_le _, Nat.zero_le _⟩ (pc := 2) dX2_unsoldAt_2 (fun H locs hP hS => ?_)
    change W p l e _ s m _ below meth c H locs _ _ _ (F0 m (2 + 3) ls (.ref (ga G q4) :: []))
    refine lv_astore_n (pc := 5) (lv' := [(2, .ref (ga G q4)), (0, .ref (ga G k0)), (1, .int a1)]) hx hb dX2_unsoldAt_5 rfl hl (by decide) rfl (fun ls hl => ?_)
    refine lv_aload_n (pc := 6) hx hb dX2_unsoldAt_6 rfl (lv_at hl 0 rfl) ?_
    refine lv_ifnull (pc := 7) hx hb dX2_unsoldAt_7 ?_
    refine lv_aload_n (pc := 10) hx hb dX2_unsoldAt_10 rfl (lv_at hl 0 rfl) ?_
    refine gt_X2_74 X hP hq5 dX2_unsoldAt_11 ?_
    refine lv_if_eq (pc := 14) (tgt := 21) hx hb dX2_unsoldAt_14 (by decide) (fun c6 => ?_) (fun c6 => ?_)
    · have h := ipos c6 h
      refine lv_aload_n (pc := 21) hx hb dX2_unsoldAt_21 rfl (lv_at hl 0 rfl) ?_
      obtain ⟨rfl, rfl⟩ := inj2 h
      exact r_aret (v := .ref (ga G q4)) X hP hS (Or.inr ⟨_, rfl⟩) dX2_unsoldAt_22
    · have h := ineg c6 h
      refine lv_null (pc := 17) hx hb dX2_unsoldAt_17 ?_
      refine lv_goto (pc := 18) (tgt := 22) hx hb dX2_unsoldAt_18 (by decide) ?_
      obtain ⟨rfl, rfl⟩ := inj2 h
      exact r_aret (v := .null) X hP hS (Or.inl rfl) dX2_unsoldAt_22
def f_X2_bidderAt (k0 : Nat) (a1 : Int32) (σ : Mem) : Option (Option Nat × Mem) :=
  if a1 < (0 : Int32) then
    some (none, σ)
  else
    if (gI σ k0 3) ≤ a1 then
      some (none, σ)
    else
      if (6 : Int32) ≤ a1 then
        some (none, σ)
      else
        bd1 (ixo (k0 + 2) a1) fun j8 =>
        some (some ((k0 + 2) + 7 + j8), σ)
abbrev RM_X2_bidderAt : Room := { frames := 0, cells := 0, slots := 0, locals := 0 }
set_option maxHeartbeats 4000000 in
set_option maxRecDepth 100000 in
theorem c_X2_bidderAt (l : Launch) (G : Gh) {k0 : Nat} {a1 : Int32} {σ : Mem} {rr : Option Nat} {σr : Mem} (hk0 : kd k0 = 2) (h : f_X2_bidderAt k0 a1 σ = some (rr, σr)) : Met l yX2_bidderAt [Cond.code yX2_bidderAt prog_4_method_6_code 3 (some (.object "InchCandle$Bidder"))] RM_X2_bidderAt (va_Pc [.ref (ga G k0), .int a1] (Pre G σ)) (QG G (some (rfv G rr)) σr) 0 0 (AA G) := by
  refine ct_of (by decide) (fun p e s m below meth c X hP => ?_)
  have hx := X.hx
  have hb := X.hb
  have hS : va_S (AA G) s.heap s.heap [] := va_S.rf
  have hl := lv_entry ([.ref (ga G k0), .int a1]) (n := 3) (Nat.le_of_ble_eq_true rfl)
  rw [lg_entry_eq]
  generalize (lg_sl ([.ref (ga G k0), .int a1]) ++ List.replicate (3 - (lg_sl ([.ref (ga G k0), .int a1])).length) Slot.unset).toArray = ls at hl ⊢
  have hl : lv_has ls 3 [(0, .ref (ga G k0)), (1, .int a1)] := hl
  unfold f_X2_bidderAt at h
  refine lv_iload_n (pc := 0) hx hb dX2_bidderAt_0 rfl (lv_at hl 1 rfl) ?_
  refine lv_if_lt (pc := 1) (tgt := 22) hx hb dX2_bidderAt_1 (by decide) (fun c1 => ?_) (fun c1 => ?_)
  · have h := ipos c1 h
    refine lv_iconst (pc := 22) (v := 0) hx hb dX2_bidderAt_22 (by decide) ?_
    refine lv_istore_n (pc := 23) (lv' := [(2, .int (0 : Int32)), (0, .ref (ga G k0)), (1, .int a1)]) hx hb dX2_bidderAt_23 rfl hl (by decide) rfl (fun ls hl => ?_)
    refine lv_iload_n (pc := 24) hx hb dX2_bidderAt_24 rfl (lv_at hl 0 rfl) ?_
    refine lv_if_eq (pc := 25) (tgt := 37) hx hb dX2_bidderAt_25 (by decide) (fun _ => ?_) (fun q => absurd q (by decide))
    refine lv_null (pc := 37) hx hb dX2_bidderAt_37 ?_
    obtain ⟨rfl, rfl⟩ := inj2 h
    exact r_aret (v := .null) X hP hS (Or.inl rfl) dX2_bidderAt_38
  · have h := ineg c1 h
    refine lv_iload_n (pc := 4) hx hb dX2_bidderAt_4 rfl (lv_at hl 1 rfl) ?_
    refine lv_aload_n (pc := 5) hx hb dX2_bidderAt_5 rfl (lv_at hl 0 rfl) ?_
    refine gt_X2_27 X hP hk0 dX2_bidderAt_6 ?_
    refine lv_icmp_ge (pc := 9) (tgt := 22) hx hb dX2_bidderAt_9 (by decide) (fun c3 => ?_) (fun c3 => ?_)
    · have h := ipos c3 h
      refine lv_iconst (pc := 22) (v := 0) hx hb dX2_bidderAt_22 (by decide) ?_
      refine lv_istore_n (pc := 23) (lv' := [(2, .int (0 : Int32)), (0, .ref (ga G k0)), (1, .int a1)]) hx hb dX2_bidderAt_23 rfl hl (by decide) rfl (fun ls hl => ?_)
      refine lv_iload_n (pc := 24) hx hb dX2_bidderAt_24 rfl (lv_at hl 0 rfl) ?_
      refine lv_if_eq (pc := 25) (tgt := 37) hx hb dX2_bidderAt_25 (by decide) (fun _ => ?_) (fun q => absurd q (by decide))
      refine lv_null (pc := 37) hx hb dX2_bidderAt_37 ?_
      obtain ⟨rfl, rfl⟩ := inj2 h
      exact r_aret (v := .null) X hP hS (Or.inl rfl) dX2_bidderAt_38
    · have h := ineg c3 h
      refine lv_iload_n (pc := 12) hx hb dX2_bidderAt_12 rfl (lv_at hl 1 rfl) ?_
      refine lv_bipush (pc := 13) (v := (6)) hx hb dX2_bidderAt_13 (by decide) ?_
      refine lv_icmp_ge (pc := 15) (tgt := 22) hx hb dX2_bidderAt_15 (by decide) (fun c5 => ?_) (fun c5 => ?_)
      · have h := ipos c5 h
        refine lv_iconst (pc := 22) (v := 0) hx hb dX2_bidderAt_22 (by decide) ?_
        refine lv_istore_n (pc := 23) (lv' := [(2, .int (0 : Int32)), (0, .ref (ga G k0)), (1, .int a1)]) hx hb dX2_bidderAt_23 rfl hl (by decide) rfl (fun ls hl => ?_)
        refine lv_iload_n (pc := 24) hx hb dX2_bidderAt_24 rfl (lv_at hl 0 rfl) ?_
        refine lv_if_eq (pc := 25) (tgt := 37) hx hb dX2_bidderAt_25 (by decide) (fun _ => ?_) (fun q => absurd q (by decide))
        refine lv_null (pc := 37) hx hb dX2_bidderAt_37 ?_
        obtain ⟨rfl, rfl⟩ := inj2 h
        exact r_aret (v := .null) X hP hS (Or.inl rfl) dX2_bidderAt_38
      · have h := ineg c5 h
        refine lv_iconst (pc := 18) (v := 1) hx hb dX2_bidderAt_18 (by decide) ?_
        refine lv_goto (pc := 19) (tgt := 23) hx hb dX2_bidderAt_19 (by decide) ?_
        refine lv_istore_n (pc := 23) (lv' := [(2, .int (1 : Int32)), (0, .ref (ga G k0)), (1, .int a1)]) hx hb dX2_bidderAt_23 rfl hl (by decide) rfl (fun ls hl => ?_)
        refine lv_iload_n (pc := 24) hx hb dX2_bidderAt_24 rfl (lv_at hl 0 rfl) ?_
        refine lv_if_eq (pc := 25) (tgt := 37) hx hb dX2_bidderAt_25 (by decide) (fun q => absurd q (by decide)) (fun _ => ?_)
        refine lv_aload_n (pc := 28) hx hb dX2_bidderAt_28 rfl (lv_at hl 1 rfl) ?_
        refine gt_X2_23 X hP hk0 dX2_bidderAt_29 ?_
        refine lv_iload_n (pc := 32) hx hb dX2_bidderAt_32 rfl (lv_at hl 2 rfl) ?_
        obtain ⟨j8, hj9, h⟩ := bnd1 h
        refine r_ald14 (pc := 33) X hP (kf_2_bidders hk0).1 hj9 dX2_bidderAt_33 ?_
        refine lv_goto (pc := 34) (tgt := 38) hx hb dX2_bidderAt_34 (by decide) ?_
        obtain ⟨rfl, rfl⟩ := inj2 h
        exact r_aret (v := .ref (ga G ((k0 + 2) + 7 + j8))) X hP hS (Or.inr ⟨_, rfl⟩) dX2_bidderAt_38
def f_X2_burning (k0 : Nat) (σ : Mem) : Option (Option Nat × Mem) :=
  bd2 (f_X2_lotAt k0 (gI σ k0 7) σ) fun r3 σ1 =>
  onr r3 (
    some (none, σ1)
    ) fun q4 => grd (kd q4 = 3) <|
    some (some q4, σ1)
abbrev RM_X2_burning : Room := { frames := 1, cells := 0, slots := 0, locals := 21 }
set_option maxHeartbeats 4000000 in
set_option maxRecDepth 100000 in
theorem c_X2_burning (l : Launch) (G : Gh) {k0 : Nat} {σ : Mem} {rr : Option Nat} {σr : Mem} (hk0 : kd k0 = 2) (h : f_X2_burning k0 σ = some (rr, σr)) : Met l yX2_burning [Cond.code yX2_burning prog_4_method_7_code 1 (some (.object "InchCandle$Lot"))] RM_X2_burning (va_Pc [.ref (ga G k0)] (Pre G σ)) (QG G (some (rfv G rr)) σr) 0 0 (AA G) := by
  refine ct_of (by decide) (fun p e s m below meth c X hP => ?_)
  have hx := X.hx
  have hb := X.hb
  have hS : va_S (AA G) s.heap s.heap [] := va_S.rf
  have hl := lv_entry ([.ref (ga G k0)]) (n := 1) (Nat.le_of_ble_eq_true rfl)
  rw [lg_entry_eq]
  generalize (lg_sl ([.ref (ga G k0)]) ++ List.replicate (1 - (lg_sl ([.ref (ga G k0)])).length) Slot.unset).toArray = ls at hl ⊢
  have hl : lv_has ls 1 [(0, .ref (ga G k0))] := hl
  unfold f_X2_burning at h
  refine lv_aload_n (pc := 0) hx hb dX2_burning_0 rfl (lv_at hl 0 rfl) ?_
  refine lv_aload_n (pc := 1) hx hb dX2_burning_1 rfl (lv_at hl 0 rfl) ?_
  refine gt_X2_40 X hP hk0 dX2_burning_2 ?_
  obtain ⟨r3, σ1, e2, h⟩ := bnd2 h
  rcases r3 with _ | q4
  · have h := onr_n h
    refine cl_X2_70 X hP hS hk0 (As := [.int (gI σ k0 7)]) (rest := []) (c_X2_lotAt l G hk0 e2) ⟨rfl, rfl, Nat.le_of_ble_eq_true rfl, Nat.le_of_ble_eq_true rfl⟩ rfl hl.1 rfl (Nat.le_of_ble_eq_true rfl) ⟨Nat.zero_le _, Nat.zero_le _⟩ (pc := 5) dX2_burning_5 (fun H locs hP hS => ?_)
    change W p l e _ s m _ below meth c H locs _ _ _ (F0 m (5 + 3) ls (.null :: []))
    obtain ⟨rfl, rfl⟩ := inj2 h
    exact r_aret (v := .null) X hP hS (Or.inl rfl) dX2_burning_8
  · have h := onr_s h
    obtain ⟨hq5, h⟩ := grd_inv h
    refine cl_X2_70 X hP hS hk0 (As := [.int (gI σ k0 7)]) (rest := []) (c_X2_lotAt l G hk0 e2) ⟨rfl, rfl, Nat.le_of_ble_eq_true rfl, Nat.le_of_ble_eq_true rfl⟩ rfl hl.1 rfl (Nat.le_of_ble_eq_true rfl) ⟨Nat.zero_le _, Nat.zero_le _⟩ (pc := 5) dX2_burning_5 (fun H locs hP hS => ?_)
    change W p l e _ s m _ below meth c H locs _ _ _ (F0 m (5 + 3) ls (.ref (ga G q4) :: []))
    obtain ⟨rfl, rfl⟩ := inj2 h
    exact r_aret (v := .ref (ga G q4)) X hP hS (Or.inr ⟨_, rfl⟩) dX2_burning_8
def f_X3_unsell (k0 : Nat) (σ : Mem) : Option Mem :=
  bd1 (some (pI σ k0 2 (0 : Int32))) fun σ1 =>
  bd1 (some (pI σ1 k0 3 (-9 : Int32))) fun σ3 =>
  bd1 (some (pI σ3 k0 4 (-9 : Int32))) fun σ5 =>
  some σ5
abbrev RM_X3_unsell : Room := { frames := 0, cells := 0, slots := 0, locals := 0 }
set_option maxHeartbeats 4000000 in
set_option maxRecDepth 100000 in
theorem c_X3_unsell (l : Launch) (G : Gh) {k0 : Nat} {σ : Mem} {σr : Mem} (hk0 : kd k0 = 3) (h : f_X3_unsell k0 σ = some σr) : Met l yX3_unsell [Cond.code yX3_unsell prog_5_method_4_code 1 none] RM_X3_unsell (va_Pc [.ref (ga G k0)] (Pre G σ)) (QG G none σr) 0 0 (AA G) := by
  refine ct_of (by decide) (fun p e s m below meth c X hP => ?_)
  have hx := X.hx
  have hb := X.hb
  have hS : va_S (AA G) s.heap s.heap [] := va_S.rf
  have hl := lv_entry ([.ref (ga G k0)]) (n := 1) (Nat.le_of_ble_eq_true rfl)
  rw [lg_entry_eq]
  generalize (lg_sl ([.ref (ga G k0)]) ++ List.replicate (1 - (lg_sl ([.ref (ga G k0)])).length) Slot.unset).toArray = ls at hl ⊢
  have hl : lv_has ls 1 [(0, .ref (ga G k0))] := hl
  unfold f_X3_unsell at h
  refine lv_aload_n (pc := 0) hx hb dX3_unsell_0 rfl (lv_at hl 0 rfl) ?_
  refine lv_iconst (pc := 1) (v := 0) hx hb dX3_unsell_1 (by decide) ?_
  obtain ⟨σ1, e2, h⟩ := bnd1 h
  refine pt_X3_18 X hP hS hk0 (by decide) dX3_unsell_2 (fun H locs hP hS => ?_)
  rw [Option.some.inj e2] at hP
  refine lv_aload_n (pc := 5) hx hb dX3_unsell_5 rfl (lv_at hl 0 rfl) ?_
  refine lv_bipush (pc := 6) (v := (-9)) hx hb dX3_unsell_6 (by decide) ?_
  obtain ⟨σ3, e4, h⟩ := bnd1 h
  refine pt_X3_22 X hP hS hk0 dX3_unsell_8 (fun H locs hP hS => ?_)
  rw [Option.some.inj e4] at hP
  refine lv_aload_n (pc := 11) hx hb dX3_unsell_11 rfl (lv_at hl 0 rfl) ?_
  refine lv_bipush (pc := 12) (v := (-9)) hx hb dX3_unsell_12 (by decide) ?_
  obtain ⟨σ5, e6, h⟩ := bnd1 h
  refine pt_X3_25 X hP hS hk0 dX3_unsell_14 (fun H locs hP hS => ?_)
  rw [Option.some.inj e6] at hP
  obtain rfl := Option.some.inj h
  exact r_vret X hP hS dX3_unsell_17
def f_X3_renew (k0 : Nat) (a1 : Int32) (a2 : Int32) (σ : Mem) : Option Mem :=
  bd1 (some (pI σ k0 0 a1)) fun σ1 =>
  bd1 (some (pI σ1 k0 1 a2)) fun σ3 =>
  bd1 (f_X3_unsell k0 σ3) fun σ5 =>
  some σ5
abbrev RM_X3_renew : Room := { frames := 1, cells := 0, slots := 0, locals := 20 }
set_option maxHeartbeats 4000000 in
set_option maxRecDepth 100000 in
theorem c_X3_renew (l : Launch) (G : Gh) {k0 : Nat} {a1 : Int32} {a2 : Int32} {σ : Mem} {σr : Mem} (hk0 : kd k0 = 3) (h : f_X3_renew k0 a1 a2 σ = some σr) : Met l yX3_renew [Cond.code yX3_renew prog_5_method_2_code 3 none] RM_X3_renew (va_Pc [.ref (ga G k0), .int a1, .int a2] (Pre G σ)) (QG G none σr) 0 0 (AA G) := by
  refine ct_of (by decide) (fun p e s m below meth c X hP => ?_)
  have hx := X.hx
  have hb := X.hb
  have hS : va_S (AA G) s.heap s.heap [] := va_S.rf
  have hl := lv_entry ([.ref (ga G k0), .int a1, .int a2]) (n := 3) (Nat.le_of_ble_eq_true rfl)
  rw [lg_entry_eq]
  generalize (lg_sl ([.ref (ga G k0), .int a1, .int a2]) ++ List.replicate (3 - (lg_sl ([.ref (ga G k0), .int a1, .int a2])).length) Slot.unset).toArray = ls at hl ⊢
  have hl : lv_has ls 3 [(0, .ref (ga G k0)), (1, .int a1), (2, .int a2)] := hl
  unfold f_X3_renew at h
  refine lv_aload_n (pc := 0) hx hb dX3_renew_0 rfl (lv_at hl 0 rfl) ?_
  refine lv_iload_n (pc := 1) hx hb dX3_renew_1 rfl (lv_at hl 1 rfl) ?_
  obtain ⟨σ1, e2, h⟩ := bnd1 h
  refine pt_X3_9 X hP hS hk0 dX3_renew_2 (fun H locs hP hS => ?_)
  rw [Option.some.inj e2] at hP
  refine lv_aload_n (pc := 5) hx hb dX3_renew_5 rfl (lv_at hl 0 rfl) ?_
  refine lv_iload_n (pc := 6) hx hb dX3_renew_6 rfl (lv_at hl 2 rfl) ?_
  obtain ⟨σ3, e4, h⟩ := bnd1 h
  refine pt_X3_15 X hP hS hk0 dX3_renew_7 (fun H locs hP hS => ?_)
  rw [Option.some.inj e4] at hP
  refine lv_aload_n (pc := 10) hx hb dX3_renew_10 rfl (lv_at hl 0 rfl) ?_
  obtain ⟨σ5, e6, h⟩ := bnd1 h
  refine cl_X3_28 X hP hS hk0 (As := []) (rest := []) (c_X3_unsell l G hk0 e6) ⟨rfl, rfl, Nat.le_of_ble_eq_true rfl, Nat.le_of_ble_eq_true rfl⟩ rfl hl.1 rfl (Nat.le_of_ble_eq_true rfl) ⟨Nat.zero_le _, Nat.zero_le _⟩ (pc := 11) dX3_renew_11 (fun H locs hP hS => ?_)
  change W p l e _ s m _ below meth c H locs _ _ _ (F0 m (11 + 3) ls [])
  obtain rfl := Option.some.inj h
  exact r_vret X hP hS dX3_renew_14
def f_X2_addLot (k0 : Nat) (a1 : Int32) (a2 : Int32) (σ : Mem) : Option (Int32 × Mem) :=
  if (gI σ k0 1) < (5 : Int32) then
    bd1 (ixo (k0 + 1) (gI σ k0 1)) fun j2 =>
    bd1 (f_X3_renew ((k0 + 1) + 3 + j2) a1 a2 σ) fun σ4 =>
    bd1 (some (pI σ4 k0 1 ((gI σ4 k0 1) + (1 : Int32)))) fun σ6 =>
    some (((gI σ6 k0 1) - (1 : Int32)), σ6)
  else
    some ((-2 : Int32), σ)
abbrev RM_X2_addLot : Room := { frames := 2, cells := 0, slots := 0, locals := 42 }
set_option maxHeartbeats 4000000 in
set_option maxRecDepth 100000 in
theorem c_X2_addLot (l : Launch) (G : Gh) {k0 : Nat} {a1 : Int32} {a2 : Int32} {σ : Mem} {rr : Int32} {σr : Mem} (hk0 : kd k0 = 2) (h : f_X2_addLot k0 a1 a2 σ = some (rr, σr)) : Met l yX2_addLot [Cond.code yX2_addLot prog_4_method_8_code 3 (some .int)] RM_X2_addLot (va_Pc [.ref (ga G k0), .int a1, .int a2] (Pre G σ)) (QG G (some (.int rr)) σr) 0 0 (AA G) := by
  refine ct_of (by decide) (fun p e s m below meth c X hP => ?_)
  have hx := X.hx
  have hb := X.hb
  have hS : va_S (AA G) s.heap s.heap [] := va_S.rf
  have hl := lv_entry ([.ref (ga G k0), .int a1, .int a2]) (n := 3) (Nat.le_of_ble_eq_true rfl)
  rw [lg_entry_eq]
  generalize (lg_sl ([.ref (ga G k0), .int a1, .int a2]) ++ List.replicate (3 - (lg_sl ([.ref (ga G k0), .int a1, .int a2])).length) Slot.unset).toArray = ls at hl ⊢
  have hl : lv_has ls 3 [(0, .ref (ga G k0)), (1, .int a1), (2, .int a2)] := hl
  unfold f_X2_addLot at h
  refine lv_aload_n (pc := 0) hx hb dX2_addLot_0 rfl (lv_at hl 0 rfl) ?_
  refine gt_X2_17 X hP hk0 dX2_addLot_1 ?_
  refine lv_iconst (pc := 4) (v := 5) hx hb dX2_addLot_4 (by decide) ?_
  refine lv_icmp_lt (pc := 5) (tgt := 11) hx hb dX2_addLot_5 (by decide) (fun c1 => ?_) (fun c1 => ?_)
  · have h := ipos c1 h
    refine lv_aload_n (pc := 11) hx hb dX2_addLot_11 rfl (lv_at hl 0 rfl) ?_
    refine gt_X2_11 X hP hk0 dX2_addLot_12 ?_
    refine lv_aload_n (pc := 15) hx hb dX2_addLot_15 rfl (lv_at hl 0 rfl) ?_
    refine gt_X2_17 X hP hk0 dX2_addLot_16 ?_
    obtain ⟨j2, hj3, h⟩ := bnd1 h
    refine r_ald15 (pc := 19) X hP (kf_2_lots hk0).1 hj3 dX2_addLot_19 ?_
    refine lv_iload_n (pc := 20) hx hb dX2_addLot_20 rfl (lv_at hl 1 rfl) ?_
    refine lv_iload_n (pc := 21) hx hb dX2_addLot_21 rfl (lv_at hl 2 rfl) ?_
    obtain ⟨σ4, e5, h⟩ := bnd1 h
    refine cl_X2_78 X hP hS (ke_15 (kf_2_lots hk0).1 hj3) (As := [.int a1, .int a2]) (rest := []) (c_X3_renew l G (ke_15 (kf_2_lots hk0).1 hj3) e5) ⟨rfl, rfl, Nat.le_of_ble_eq_true rfl, Nat.le_of_ble_eq_true rfl⟩ rfl hl.1 rfl (Nat.le_of_ble_eq_true rfl) ⟨Nat.zero_le _, Nat.zero_le _⟩ (pc := 22) dX2_addLot_22 (fun H locs hP hS => ?_)
    change W p l e _ s m _ below meth c H locs _ _ _ (F0 m (22 + 3) ls [])
    refine lv_aload_n (pc := 25) hx hb dX2_addLot_25 rfl (lv_at hl 0 rfl) ?_
    refine lv_dup (pc := 26) hx hb dX2_addLot_26 rfl ?_
    refine gt_X2_17 X hP hk0 dX2_addLot_27 ?_
    refine lv_iconst (pc := 30) (v := 1) hx hb dX2_addLot_30 (by decide) ?_
    refine lv_iadd (pc := 31) hx hb dX2_addLot_31 ?_
    obtain ⟨σ6, e7, h⟩ := bnd1 h
    refine pt_X2_17 X hP hS hk0 dX2_addLot_32 (fun H locs hP hS => ?_)
    rw [Option.some.inj e7] at hP
    refine lv_aload_n (pc := 35) hx hb dX2_addLot_35 rfl (lv_at hl 0 rfl) ?_
    refine gt_X2_17 X hP hk0 dX2_addLot_36 ?_
    refine lv_iconst (pc := 39) (v := 1) hx hb dX2_addLot_39 (by decide) ?_
    refine lv_isub (pc := 40) hx hb dX2_addLot_40 ?_
    obtain ⟨rfl, rfl⟩ := inj2 h
    exact r_iret X hP hS dX2_addLot_41
  · have h := ineg c1 h
    refine lv_bipush (pc := 8) (v := (-2)) hx hb dX2_addLot_8 (by decide) ?_
    obtain ⟨rfl, rfl⟩ := inj2 h
    exact r_iret X hP hS dX2_addLot_10
def f_X2_addBidder (k0 : Nat) (a1 : Int32) (a2 : Int32) (a3 : Int32) (a4 : Int32) (σ : Mem) : Option (Int32 × Mem) :=
  if (gI σ k0 3) < (6 : Int32) then
    bd1 (ixo (k0 + 2) (gI σ k0 3)) fun j2 =>
    bd1 (f_X0_renew ((k0 + 2) + 7 + j2) a1 a2 a3 a4 σ) fun σ4 =>
    bd1 (some (pI σ4 k0 3 ((gI σ4 k0 3) + (1 : Int32)))) fun σ6 =>
    some (((gI σ6 k0 3) - (1 : Int32)), σ6)
  else
    some ((-2 : Int32), σ)
abbrev RM_X2_addBidder : Room := { frames := 1, cells := 0, slots := 0, locals := 24 }
set_option maxHeartbeats 4000000 in
set_option maxRecDepth 100000 in
theorem c_X2_addBidder (l : Launch) (G : Gh) {k0 : Nat} {a1 : Int32} {a2 : Int32} {a3 : Int32} {a4 : Int32} {σ : Mem} {rr : Int32} {σr : Mem} (hk0 : kd k0 = 2) (h : f_X2_addBidder k0 a1 a2 a3 a4 σ = some (rr, σr)) : Met l yX2_addBidder [Cond.code yX2_addBidder prog_4_method_9_code 5 (some .int)] RM_X2_addBidder (va_Pc [.ref (ga G k0), .int a1, .int a2, .int a3, .int a4] (Pre G σ)) (QG G (some (.int rr)) σr) 0 0 (AA G) := by
  refine ct_of (by decide) (fun p e s m below meth c X hP => ?_)
  have hx := X.hx
  have hb := X.hb
  have hS : va_S (AA G) s.heap s.heap [] := va_S.rf
  have hl := lv_entry ([.ref (ga G k0), .int a1, .int a2, .int a3, .int a4]) (n := 5) (Nat.le_of_ble_eq_true rfl)
  rw [lg_entry_eq]
  generalize (lg_sl ([.ref (ga G k0), .int a1, .int a2, .int a3, .int a4]) ++ List.replicate (5 - (lg_sl ([.ref (ga G k0), .int a1, .int a2, .int a3, .int a4])).length) Slot.unset).toArray = ls at hl ⊢
  have hl : lv_has ls 5 [(0, .ref (ga G k0)), (1, .int a1), (2, .int a2), (3, .int a3), (4, .int a4)] := hl
  unfold f_X2_addBidder at h
  refine lv_aload_n (pc := 0) hx hb dX2_addBidder_0 rfl (lv_at hl 0 rfl) ?_
  refine gt_X2_27 X hP hk0 dX2_addBidder_1 ?_
  refine lv_bipush (pc := 4) (v := (6)) hx hb dX2_addBidder_4 (by decide) ?_
  refine lv_icmp_lt (pc := 6) (tgt := 12) hx hb dX2_addBidder_6 (by decide) (fun c1 => ?_) (fun c1 => ?_)
  · have h := ipos c1 h
    refine lv_aload_n (pc := 12) hx hb dX2_addBidder_12 rfl (lv_at hl 0 rfl) ?_
    refine gt_X2_23 X hP hk0 dX2_addBidder_13 ?_
    refine lv_aload_n (pc := 16) hx hb dX2_addBidder_16 rfl (lv_at hl 0 rfl) ?_
    refine gt_X2_27 X hP hk0 dX2_addBidder_17 ?_
    obtain ⟨j2, hj3, h⟩ := bnd1 h
    refine r_ald14 (pc := 20) X hP (kf_2_bidders hk0).1 hj3 dX2_addBidder_20 ?_
    refine lv_iload_n (pc := 21) hx hb dX2_addBidder_21 rfl (lv_at hl 1 rfl) ?_
    refine lv_iload_n (pc := 22) hx hb dX2_addBidder_22 rfl (lv_at hl 2 rfl) ?_
    refine lv_iload_n (pc := 23) hx hb dX2_addBidder_23 rfl (lv_at hl 3 rfl) ?_
    refine lv_iload (pc := 24) hx hb dX2_addBidder_24 (lv_at hl 4 rfl) ?_
    obtain ⟨σ4, e5, h⟩ := bnd1 h
    refine cl_X2_82 X hP hS (ke_14 (kf_2_bidders hk0).1 hj3) (As := [.int a1, .int a2, .int a3, .int a4]) (rest := []) (c_X0_renew l G (ke_14 (kf_2_bidders hk0).1 hj3) e5) ⟨rfl, rfl, Nat.le_of_ble_eq_true rfl, Nat.le_of_ble_eq_true rfl⟩ rfl hl.1 rfl (Nat.le_of_ble_eq_true rfl) ⟨Nat.zero_le _, Nat.zero_le _⟩ (pc := 26) dX2_addBidder_26 (fun H locs hP hS => ?_)
    change W p l e _ s m _ below meth c H locs _ _ _ (F0 m (26 + 3) ls [])
    refine lv_aload_n (pc := 29) hx hb dX2_addBidder_29 rfl (lv_at hl 0 rfl) ?_
    refine lv_dup (pc := 30) hx hb dX2_addBidder_30 rfl ?_
    refine gt_X2_27 X hP hk0 dX2_addBidder_31 ?_
    refine lv_iconst (pc := 34) (v := 1) hx hb dX2_addBidder_34 (by decide) ?_
    refine lv_iadd (pc := 35) hx hb dX2_addBidder_35 ?_
    obtain ⟨σ6, e7, h⟩ := bnd1 h
    refine pt_X2_27 X hP hS hk0 dX2_addBidder_36 (fun H locs hP hS => ?_)
    rw [Option.some.inj e7] at hP
    refine lv_aload_n (pc := 39) hx hb dX2_addBidder_39 rfl (lv_at hl 0 rfl) ?_
    refine gt_X2_27 X hP hk0 dX2_addBidder_40 ?_
    refine lv_iconst (pc := 43) (v := 1) hx hb dX2_addBidder_43 (by decide) ?_
    refine lv_isub (pc := 44) hx hb dX2_addBidder_44 ?_
    obtain ⟨rfl, rfl⟩ := inj2 h
    exact r_iret X hP hS dX2_addBidder_45
  · have h := ineg c1 h
    refine lv_bipush (pc := 9) (v := (-2)) hx hb dX2_addBidder_9 (by decide) ?_
    obtain ⟨rfl, rfl⟩ := inj2 h
    exact r_iret X hP hS dX2_addBidder_11
def f_X2_setAlight (k0 : Nat) (a1 : Int32) (σ : Mem) : Option Mem :=
  bd1 (some (pI σ k0 7 a1)) fun σ1 =>
  bd1 (some (pI σ1 k0 8 (0 : Int32))) fun σ3 =>
  bd1 (some (pI σ3 k0 9 (0 : Int32))) fun σ5 =>
  bd1 (some (pI σ5 k0 10 (0 : Int32))) fun σ7 =>
  bd1 (some (pI σ7 k0 11 (-9 : Int32))) fun σ9 =>
  some σ9
abbrev RM_X2_setAlight : Room := { frames := 0, cells := 0, slots := 0, locals := 0 }
set_option maxHeartbeats 4000000 in
set_option maxRecDepth 100000 in
theorem c_X2_setAlight (l : Launch) (G : Gh) {k0 : Nat} {a1 : Int32} {σ : Mem} {σr : Mem} (hk0 : kd k0 = 2) (h : f_X2_setAlight k0 a1 σ = some σr) : Met l yX2_setAlight [Cond.code yX2_setAlight prog_4_method_10_code 2 none] RM_X2_setAlight (va_Pc [.ref (ga G k0), .int a1] (Pre G σ)) (QG G none σr) 0 0 (AA G) := by
  refine ct_of (by decide) (fun p e s m below meth c X hP => ?_)
  have hx := X.hx
  have hb := X.hb
  have hS : va_S (AA G) s.heap s.heap [] := va_S.rf
  have hl := lv_entry ([.ref (ga G k0), .int a1]) (n := 2) (Nat.le_of_ble_eq_true rfl)
  rw [lg_entry_eq]
  generalize (lg_sl ([.ref (ga G k0), .int a1]) ++ List.replicate (2 - (lg_sl ([.ref (ga G k0), .int a1])).length) Slot.unset).toArray = ls at hl ⊢
  have hl : lv_has ls 2 [(0, .ref (ga G k0)), (1, .int a1)] := hl
  unfold f_X2_setAlight at h
  refine lv_aload_n (pc := 0) hx hb dX2_setAlight_0 rfl (lv_at hl 0 rfl) ?_
  refine lv_iload_n (pc := 1) hx hb dX2_setAlight_1 rfl (lv_at hl 1 rfl) ?_
  obtain ⟨σ1, e2, h⟩ := bnd1 h
  refine pt_X2_40 X hP hS hk0 dX2_setAlight_2 (fun H locs hP hS => ?_)
  rw [Option.some.inj e2] at hP
  refine lv_aload_n (pc := 5) hx hb dX2_setAlight_5 rfl (lv_at hl 0 rfl) ?_
  refine lv_iconst (pc := 6) (v := 0) hx hb dX2_setAlight_6 (by decide) ?_
  obtain ⟨σ3, e4, h⟩ := bnd1 h
  refine pt_X2_43 X hP hS hk0 dX2_setAlight_7 (fun H locs hP hS => ?_)
  rw [Option.some.inj e4] at hP
  refine lv_aload_n (pc := 10) hx hb dX2_setAlight_10 rfl (lv_at hl 0 rfl) ?_
  refine lv_iconst (pc := 11) (v := 0) hx hb dX2_setAlight_11 (by decide) ?_
  obtain ⟨σ5, e6, h⟩ := bnd1 h
  refine pt_X2_46 X hP hS hk0 dX2_setAlight_12 (fun H locs hP hS => ?_)
  rw [Option.some.inj e6] at hP
  refine lv_aload_n (pc := 15) hx hb dX2_setAlight_15 rfl (lv_at hl 0 rfl) ?_
  refine lv_iconst (pc := 16) (v := 0) hx hb dX2_setAlight_16 (by decide) ?_
  obtain ⟨σ7, e8, h⟩ := bnd1 h
  refine pt_X2_49 X hP hS hk0 dX2_setAlight_17 (fun H locs hP hS => ?_)
  rw [Option.some.inj e8] at hP
  refine lv_aload_n (pc := 20) hx hb dX2_setAlight_20 rfl (lv_at hl 0 rfl) ?_
  refine lv_bipush (pc := 21) (v := (-9)) hx hb dX2_setAlight_21 (by decide) ?_
  obtain ⟨σ9, e10, h⟩ := bnd1 h
  refine pt_X2_52 X hP hS hk0 dX2_setAlight_23 (fun H locs hP hS => ?_)
  rw [Option.some.inj e10] at hP
  obtain rfl := Option.some.inj h
  exact r_vret X hP hS dX2_setAlight_26
def f_J9_floorMod_7cf53 (a0 : Int32) (a1 : Int32) (σ : Mem) : Option (Int32 × Mem) :=
  grd (¬ a1 = 0) <|
  if (0 : Int32) ≤ (a0 ^^^ a1) then
    some ((a0 - a0 / a1 * a1), σ)
  else
    if (a0 - a0 / a1 * a1) = (0 : Int32) then
      some ((a0 - a0 / a1 * a1), σ)
    else
      some (((a0 - a0 / a1 * a1) + a1), σ)
abbrev RM_J9_floorMod_7cf53 : Room := { frames := 0, cells := 0, slots := 0, locals := 0 }
set_option maxHeartbeats 4000000 in
set_option maxRecDepth 100000 in
theorem c_J9_floorMod_7cf53 (l : Launch) (G : Gh) {a0 : Int32} {a1 : Int32} {σ : Mem} {rr : Int32} {σr : Mem} (h : f_J9_floorMod_7cf53 a0 a1 σ = some (rr, σr)) : Met l yJ9_floorMod_7cf53 [Cond.code yJ9_floorMod_7cf53 prog_13_method_50_code 3 (some .int)] RM_J9_floorMod_7cf53 (va_Pc [.int a0, .int a1] (Pre G σ)) (QG G (some (.int rr)) σr) 0 0 (AA G) := by
  refine ct_ofF (by decide +kernel) (fun p e s m below meth c X hP => ?_)
  have hx := X.hx
  have hb := X.hb
  have hS : va_S (AA G) s.heap s.heap [] := va_S.rf
  have hl := lv_entry ([.int a0, .int a1]) (n := 3) (Nat.le_of_ble_eq_true rfl)
  rw [lg_entry_eq]
  generalize (lg_sl ([.int a0, .int a1]) ++ List.replicate (3 - (lg_sl ([.int a0, .int a1])).length) Slot.unset).toArray = ls at hl ⊢
  have hl : lv_has ls 3 [(0, .int a0), (1, .int a1)] := hl
  unfold f_J9_floorMod_7cf53 at h
  refine lv_iload_n (pc := 0) hx hb dJ9_floorMod_7cf53_0 rfl (lv_at hl 0 rfl) ?_
  refine lv_iload_n (pc := 1) hx hb dJ9_floorMod_7cf53_1 rfl (lv_at hl 1 rfl) ?_
  obtain ⟨g1, h⟩ := grd_inv h
  refine lv_irem (pc := 2) hx hb dJ9_floorMod_7cf53_2 g1 ?_
  refine lv_istore_n (pc := 3) (lv' := [(2, .int (a0 - a0 / a1 * a1)), (0, .int a0), (1, .int a1)]) hx hb dJ9_floorMod_7cf53_3 rfl hl (by decide) rfl (fun ls hl => ?_)
  refine lv_iload_n (pc := 4) hx hb dJ9_floorMod_7cf53_4 rfl (lv_at hl 1 rfl) ?_
  refine lv_iload_n (pc := 5) hx hb dJ9_floorMod_7cf53_5 rfl (lv_at hl 2 rfl) ?_
  refine lv_ixor (pc := 6) hx hb dJ9_floorMod_7cf53_6 ?_
  refine lv_if_ge (pc := 7) (tgt := 18) hx hb dJ9_floorMod_7cf53_7 (by decide) (fun c2 => ?_) (fun c2 => ?_)
  · have h := ipos c2 h
    refine lv_iload_n (pc := 18) hx hb dJ9_floorMod_7cf53_18 rfl (lv_at hl 0 rfl) ?_
    obtain ⟨rfl, rfl⟩ := inj2 h
    exact r_iret X hP hS dJ9_floorMod_7cf53_19
  · have h := ineg c2 h
    refine lv_iload_n (pc := 10) hx hb dJ9_floorMod_7cf53_10 rfl (lv_at hl 0 rfl) ?_
    refine lv_if_eq (pc := 11) (tgt := 18) hx hb dJ9_floorMod_7cf53_11 (by decide) (fun c3 => ?_) (fun c3 => ?_)
    · have h := ipos c3 h
      refine lv_iload_n (pc := 18) hx hb dJ9_floorMod_7cf53_18 rfl (lv_at hl 0 rfl) ?_
      obtain ⟨rfl, rfl⟩ := inj2 h
      exact r_iret X hP hS dJ9_floorMod_7cf53_19
    · have h := ineg c3 h
      refine lv_iload_n (pc := 14) hx hb dJ9_floorMod_7cf53_14 rfl (lv_at hl 0 rfl) ?_
      refine lv_iload_n (pc := 15) hx hb dJ9_floorMod_7cf53_15 rfl (lv_at hl 2 rfl) ?_
      refine lv_iadd (pc := 16) hx hb dJ9_floorMod_7cf53_16 ?_
      obtain ⟨rfl, rfl⟩ := inj2 h
      exact r_iret X hP hS dJ9_floorMod_7cf53_17
def f_X2_burnsNow (k0 : Nat) (σ : Mem) : Option (Int32 × Mem) :=
  bd2 (f_J9_floorMod_7cf53 (gI σ k0 8) (12 : Int32) σ) fun r3 σ1 =>
  bd1 (ixo (k0 + 3) r3) fun j4 =>
  some (((1 : Int32) + (gI σ1 (k0 + 3) j4)), σ1)
abbrev RM_X2_burnsNow : Room := { frames := 1, cells := 0, slots := 0, locals := 22 }
set_option maxHeartbeats 4000000 in
set_option maxRecDepth 100000 in
theorem c_X2_burnsNow (l : Launch) (G : Gh) {k0 : Nat} {σ : Mem} {rr : Int32} {σr : Mem} (hk0 : kd k0 = 2) (h : f_X2_burnsNow k0 σ = some (rr, σr)) : Met l yX2_burnsNow [Cond.code yX2_burnsNow prog_4_method_11_code 1 (some .int)] RM_X2_burnsNow (va_Pc [.ref (ga G k0)] (Pre G σ)) (QG G (some (.int rr)) σr) 0 0 (AA G) := by
  refine ct_of (by decide) (fun p e s m below meth c X hP => ?_)
  have hx := X.hx
  have hb := X.hb
  have hS : va_S (AA G) s.heap s.heap [] := va_S.rf
  have hl := lv_entry ([.ref (ga G k0)]) (n := 1) (Nat.le_of_ble_eq_true rfl)
  rw [lg_entry_eq]
  generalize (lg_sl ([.ref (ga G k0)]) ++ List.replicate (1 - (lg_sl ([.ref (ga G k0)])).length) Slot.unset).toArray = ls at hl ⊢
  have hl : lv_has ls 1 [(0, .ref (ga G k0))] := hl
  unfold f_X2_burnsNow at h
  refine lv_iconst (pc := 0) (v := 1) hx hb dX2_burnsNow_0 (by decide) ?_
  refine lv_aload_n (pc := 1) hx hb dX2_burnsNow_1 rfl (lv_at hl 0 rfl) ?_
  refine gt_X2_30 X hP hk0 dX2_burnsNow_2 ?_
  refine lv_aload_n (pc := 5) hx hb dX2_burnsNow_5 rfl (lv_at hl 0 rfl) ?_
  refine gt_X2_43 X hP hk0 dX2_burnsNow_6 ?_
  refine lv_bipush (pc := 9) (v := (12)) hx hb dX2_burnsNow_9 (by decide) ?_
  obtain ⟨r3, σ1, e2, h⟩ := bnd2 h
  refine cl_X2_85 X hP hS (As := [.int (gI σ k0 8), .int (12 : Int32)]) (rest := [.ref (ga G (k0 + 3)), .int (1 : Int32)]) (c_J9_floorMod_7cf53 l G  e2) ⟨rfl, rfl, Nat.le_of_ble_eq_true rfl, Nat.le_of_ble_eq_true rfl⟩ rfl hl.1 rfl (Nat.le_of_ble_eq_true rfl) ⟨Nat.zero_le _, Nat.zero_le _⟩ (pc := 11) dX2_burnsNow_11 (fun H locs hP hS => ?_)
  change W p l e _ s m _ below meth c H locs _ _ _ (F0 m (11 + 3) ls (.int r3 :: [.ref (ga G (k0 + 3)), .int (1 : Int32)]))
  obtain ⟨j4, hj5, h⟩ := bnd1 h
  refine r_iald (pc := 14) X hP (kf_2_draughts hk0).1 hj5 dX2_burnsNow_14 ?_
  refine lv_iadd (pc := 15) hx hb dX2_burnsNow_15 ?_
  obtain ⟨rfl, rfl⟩ := inj2 h
  exact r_iret X hP hS dX2_burnsNow_16
def f_X2_callOf (k0 : Nat) (a1 : Int32) (σ : Mem) : Option (Int32 × Mem) :=
  bd2 (f_X2_burning k0 σ) fun r3 σ1 =>
  onr r3 (
    bd2 (f_X2_bidderAt k0 a1 σ1) fun r8 σ6 =>
    onr r8 (
      some ((0 : Int32), σ6)
      ) fun q9 => grd (kd q9 = 0) <|
      some ((0 : Int32), σ6)
    ) fun q4 => grd (kd q4 = 3) <|
    bd2 (f_X2_bidderAt k0 a1 σ1) fun r13 σ11 =>
    onr r13 (
      some ((0 : Int32), σ11)
      ) fun q14 => grd (kd q14 = 0) <|
      if a1 = (gI σ11 k0 11) then
        some ((0 : Int32), σ11)
      else
        bd2 (f_X2_burnsNow k0 σ11) fun r19 σ17 =>
        bd2 (f_X0_isReady q14 (gI σ11 k0 8) ((gI σ11 q4 0) - (gI σ11 k0 9)) r19 (gI σ17 k0 10) σ17) fun r22 σ20 =>
        if r22 = (0 : Int32) then
          some ((0 : Int32), σ20)
        else
          bd2 (f_X0_raise q14 (gI σ20 k0 5) σ20) fun r26 σ24 =>
          bd2 (f_X0_limitFor q14 (gI σ24 q4 1) σ24) fun r29 σ27 =>
          if r29 < ((gI σ20 k0 10) + r26) then
            some ((0 : Int32), σ27)
          else
            some (((gI σ20 k0 10) + r26), σ27)
abbrev RM_X2_callOf : Room := { frames := 2, cells := 0, slots := 0, locals := 43 }
set_option maxHeartbeats 4000000 in
set_option maxRecDepth 100000 in
theorem c_X2_callOf (l : Launch) (G : Gh) {k0 : Nat} {a1 : Int32} {σ : Mem} {rr : Int32} {σr : Mem} (hk0 : kd k0 = 2) (h : f_X2_callOf k0 a1 σ = some (rr, σr)) : Met l yX2_callOf [Cond.code yX2_callOf prog_4_method_12_code 5 (some .int)] RM_X2_callOf (va_Pc [.ref (ga G k0), .int a1] (Pre G σ)) (QG G (some (.int rr)) σr) 0 0 (AA G) := by
  refine ct_of (by decide) (fun p e s m below meth c X hP => ?_)
  have hx := X.hx
  have hb := X.hb
  have hS : va_S (AA G) s.heap s.heap [] := va_S.rf
  have hl := lv_entry ([.ref (ga G k0), .int a1]) (n := 5) (Nat.le_of_ble_eq_true rfl)
  rw [lg_entry_eq]
  generalize (lg_sl ([.ref (ga G k0), .int a1]) ++ List.replicate (5 - (lg_sl ([.ref (ga G k0), .int a1])).length) Slot.unset).toArray = ls at hl ⊢
  have hl : lv_has ls 5 [(0, .ref (ga G k0)), (1, .int a1)] := hl
  unfold f_X2_callOf at h
  refine lv_aload_n (pc := 0) hx hb dX2_callOf_0 rfl (lv_at hl 0 rfl) ?_
  obtain ⟨r3, σ1, e2, h⟩ := bnd2 h
  rcases r3 with _ | q4
  · have h := onr_n h
    refine cl_X2_91 X hP hS hk0 (As := []) (rest := []) (c_X2_burning l G hk0 e2) ⟨rfl, rfl, Nat.le_of_ble_eq_true rfl, Nat.le_of_ble_eq_true rfl⟩ rfl hl.1 rfl (Nat.le_of_ble_eq_true rfl) ⟨Nat.zero_le _, Nat.zero_le _⟩ (pc := 1) dX2_callOf_1 (fun H locs hP hS => ?_)
    change W p l e _ s m _ below meth c H locs _ _ _ (F0 m (1 + 3) ls (.null :: []))
    refine lv_astore_nN (pc := 4) (lv' := [(2, .null), (0, .ref (ga G k0)), (1, .int a1)]) hx hb dX2_callOf_4 rfl hl (by decide) rfl (fun ls hl => ?_)
    refine lv_aload_n (pc := 5) hx hb dX2_callOf_5 rfl (lv_at hl 1 rfl) ?_
    refine lv_iload_n (pc := 6) hx hb dX2_callOf_6 rfl (lv_at hl 2 rfl) ?_
    obtain ⟨r8, σ6, e7, h⟩ := bnd2 h
    rcases r8 with _ | q9
    · have h := onr_n h
      refine cl_X2_95 X hP hS hk0 (As := [.int a1]) (rest := []) (c_X2_bidderAt l G hk0 e7) ⟨rfl, rfl, Nat.le_of_ble_eq_true rfl, Nat.le_of_ble_eq_true rfl⟩ rfl hl.1 rfl (Nat.le_of_ble_eq_true rfl) ⟨Nat.zero_le _, Nat.zero_le _⟩ (pc := 7) dX2_callOf_7 (fun H locs hP hS => ?_)
      change W p l e _ s m _ below meth c H locs _ _ _ (F0 m (7 + 3) ls (.null :: []))
      refine lv_astore_nN (pc := 10) (lv' := [(3, .null), (2, .null), (0, .ref (ga G k0)), (1, .int a1)]) hx hb dX2_callOf_10 rfl hl (by decide) rfl (fun ls hl => ?_)
      refine lv_aload_nN (pc := 11) hx hb dX2_callOf_11 rfl (lv_at hl 1 rfl) ?_
      refine lv_ifnullN (pc := 12) (tgt := 27) hx hb dX2_callOf_12 (by decide) ?_
      refine lv_iconst (pc := 27) (v := 0) hx hb dX2_callOf_27 (by decide) ?_
      obtain ⟨rfl, rfl⟩ := inj2 h
      exact r_iret X hP hS dX2_callOf_28
    · have h := onr_s h
      obtain ⟨hq10, h⟩ := grd_inv h
      refine cl_X2_95 X hP hS hk0 (As := [.int a1]) (rest := []) (c_X2_bidderAt l G hk0 e7) ⟨rfl, rfl, Nat.le_of_ble_eq_true rfl, Nat.le_of_ble_eq_true rfl⟩ rfl hl.1 rfl (Nat.le_of_ble_eq_true rfl) ⟨Nat.zero_le _, Nat.zero_le _⟩ (pc := 7) dX2_callOf_7 (fun H locs hP hS => ?_)
      change W p l e _ s m _ below meth c H locs _ _ _ (F0 m (7 + 3) ls (.ref (ga G q9) :: []))
      refine lv_astore_n (pc := 10) (lv' := [(3, .ref (ga G q9)), (2, .null), (0, .ref (ga G k0)), (1, .int a1)]) hx hb dX2_callOf_10 rfl hl (by decide) rfl (fun ls hl => ?_)
      refine lv_aload_nN (pc := 11) hx hb dX2_callOf_11 rfl (lv_at hl 1 rfl) ?_
      refine lv_ifnullN (pc := 12) (tgt := 27) hx hb dX2_callOf_12 (by decide) ?_
      refine lv_iconst (pc := 27) (v := 0) hx hb dX2_callOf_27 (by decide) ?_
      obtain ⟨rfl, rfl⟩ := inj2 h
      exact r_iret X hP hS dX2_callOf_28
  · have h := onr_s h
    obtain ⟨hq5, h⟩ := grd_inv h
    refine cl_X2_91 X hP hS hk0 (As := []) (rest := []) (c_X2_burning l G hk0 e2) ⟨rfl, rfl, Nat.le_of_ble_eq_true rfl, Nat.le_of_ble_eq_true rfl⟩ rfl hl.1 rfl (Nat.le_of_ble_eq_true rfl) ⟨Nat.zero_le _, Nat.zero_le _⟩ (pc := 1) dX2_callOf_1 (fun H locs hP hS => ?_)
    change W p l e _ s m _ below meth c H locs _ _ _ (F0 m (1 + 3) ls (.ref (ga G q4) :: []))
    refine lv_astore_n (pc := 4) (lv' := [(2, .ref (ga G q4)), (0, .ref (ga G k0)), (1, .int a1)]) hx hb dX2_callOf_4 rfl hl (by decide) rfl (fun ls hl => ?_)
    refine lv_aload_n (pc := 5) hx hb dX2_callOf_5 rfl (lv_at hl 1 rfl) ?_
    refine lv_iload_n (pc := 6) hx hb dX2_callOf_6 rfl (lv_at hl 2 rfl) ?_
    obtain ⟨r13, σ11, e12, h⟩ := bnd2 h
    rcases r13 with _ | q14
    · have h := onr_n h
      refine cl_X2_95 X hP hS hk0 (As := [.int a1]) (rest := []) (c_X2_bidderAt l G hk0 e12) ⟨rfl, rfl, Nat.le_of_ble_eq_true rfl, Nat.le_of_ble_eq_true rfl⟩ rfl hl.1 rfl (Nat.le_of_ble_eq_true rfl) ⟨Nat.zero_le _, Nat.zero_le _⟩ (pc := 7) dX2_callOf_7 (fun H locs hP hS => ?_)
      change W p l e _ s m _ below meth c H locs _ _ _ (F0 m (7 + 3) ls (.null :: []))
      refine lv_astore_nN (pc := 10) (lv' := [(3, .null), (2, .ref (ga G q4)), (0, .ref (ga G k0)), (1, .int a1)]) hx hb dX2_callOf_10 rfl hl (by decide) rfl (fun ls hl => ?_)
      refine lv_aload_n (pc := 11) hx hb dX2_callOf_11 rfl (lv_at hl 1 rfl) ?_
      refine lv_ifnull (pc := 12) hx hb dX2_callOf_12 ?_
      refine lv_aload_nN (pc := 15) hx hb dX2_callOf_15 rfl (lv_at hl 0 rfl) ?_
      refine lv_ifnullN (pc := 16) (tgt := 27) hx hb dX2_callOf_16 (by decide) ?_
      refine lv_iconst (pc := 27) (v := 0) hx hb dX2_callOf_27 (by decide) ?_
      obtain ⟨rfl, rfl⟩ := inj2 h
      exact r_iret X hP hS dX2_callOf_28
    · have h := onr_s h
      obtain ⟨hq15, h⟩ := grd_inv h
      refine cl_X2_95 X hP hS hk0 (As := [.int a1]) (rest := []) (c_X2_bidderAt l G hk0 e12) ⟨rfl, rfl, Nat.le_of_ble_eq_true rfl, Nat.le_of_ble_eq_true rfl⟩ rfl hl.1 rfl (Nat.le_of_ble_eq_true rfl) ⟨Nat.zero_le _, Nat.zero_le _⟩ (pc := 7) dX2_callOf_7 (fun H locs hP hS => ?_)
      change W p l e _ s m _ below meth c H locs _ _ _ (F0 m (7 + 3) ls (.ref (ga G q14) :: []))
      refine lv_astore_n (pc := 10) (lv' := [(3, .ref (ga G q14)), (2, .ref (ga G q4)), (0, .ref (ga G k0)), (1, .int a1)]) hx hb dX2_callOf_10 rfl hl (by decide) rfl (fun ls hl => ?_)
      refine lv_aload_n (pc := 11) hx hb dX2_callOf_11 rfl (lv_at hl 1 rfl) ?_
      refine lv_ifnull (pc := 12) hx hb dX2_callOf_12 ?_
      refine lv_aload_n (pc := 15) hx hb dX2_callOf_15 rfl (lv_at hl 0 rfl) ?_
      refine lv_ifnull (pc := 16) hx hb dX2_callOf_16 ?_
      refine lv_iload_n (pc := 19) hx hb dX2_callOf_19 rfl (lv_at hl 3 rfl) ?_
      refine lv_aload_n (pc := 20) hx hb dX2_callOf_20 rfl (lv_at hl 2 rfl) ?_
      refine gt_X2_52 X hP hk0 dX2_callOf_21 ?_
      refine lv_icmp_ne (pc := 24) (tgt := 29) hx hb dX2_callOf_24 (by decide) (fun c16 => ?_) (fun c16 => ?_)
      · have h := ineg c16 h
        refine lv_aload_n (pc := 29) hx hb dX2_callOf_29 rfl (lv_at hl 0 rfl) ?_
        refine lv_aload_n (pc := 30) hx hb dX2_callOf_30 rfl (lv_at hl 2 rfl) ?_
        refine gt_X2_43 X hP hk0 dX2_callOf_31 ?_
        refine lv_aload_n (pc := 34) hx hb dX2_callOf_34 rfl (lv_at hl 1 rfl) ?_
        refine gt_X2_99 X hP hq5 dX2_callOf_35 ?_
        refine lv_aload_n (pc := 38) hx hb dX2_callOf_38 rfl (lv_at hl 2 rfl) ?_
        refine gt_X2_46 X hP hk0 dX2_callOf_39 ?_
        refine lv_isub (pc := 42) hx hb dX2_callOf_42 ?_
        refine lv_aload_n (pc := 43) hx hb dX2_callOf_43 rfl (lv_at hl 2 rfl) ?_
        obtain ⟨r19, σ17, e18, h⟩ := bnd2 h
        refine cl_X2_102 X hP hS hk0 (As := []) (rest := [.int ((gI σ11 q4 0) - (gI σ11 k0 9)), .int (gI σ11 k0 8), .ref (ga G q14)]) (c_X2_burnsNow l G hk0 e18) ⟨rfl, rfl, Nat.le_of_ble_eq_true rfl, Nat.le_of_ble_eq_true rfl⟩ rfl hl.1 rfl (Nat.le_of_ble_eq_true rfl) ⟨Nat.zero_le _, Nat.zero_le _⟩ (pc := 44) dX2_callOf_44 (fun H locs hP hS => ?_)
        change W p l e _ s m _ below meth c H locs _ _ _ (F0 m (44 + 3) ls (.int r19 :: [.int ((gI σ11 q4 0) - (gI σ11 k0 9)), .int (gI σ11 k0 8), .ref (ga G q14)]))
        refine lv_aload_n (pc := 47) hx hb dX2_callOf_47 rfl (lv_at hl 2 rfl) ?_
        refine gt_X2_49 X hP hk0 dX2_callOf_48 ?_
        obtain ⟨r22, σ20, e21, h⟩ := bnd2 h
        refine cl_X2_106 X hP hS hq15 (As := [.int (gI σ11 k0 8), .int ((gI σ11 q4 0) - (gI σ11 k0 9)), .int r19, .int (gI σ17 k0 10)]) (rest := []) (c_X0_isReady l G hq15 e21) ⟨rfl, rfl, Nat.le_of_ble_eq_true rfl, Nat.le_of_ble_eq_true rfl⟩ rfl hl.1 rfl (Nat.le_of_ble_eq_true rfl) ⟨Nat.zero_le _, Nat.zero_le _⟩ (pc := 51) dX2_callOf_51 (fun H locs hP hS => ?_)
        change W p l e _ s m _ below meth c H locs _ _ _ (F0 m (51 + 3) ls (.int r22 :: []))
        refine lv_if_ne (pc := 54) (tgt := 59) hx hb dX2_callOf_54 (by decide) (fun c23 => ?_) (fun c23 => ?_)
        · have h := ineg c23 h
          refine lv_aload_n (pc := 59) hx hb dX2_callOf_59 rfl (lv_at hl 2 rfl) ?_
          refine gt_X2_49 X hP hk0 dX2_callOf_60 ?_
          refine lv_aload_n (pc := 63) hx hb dX2_callOf_63 rfl (lv_at hl 0 rfl) ?_
          refine lv_aload_n (pc := 64) hx hb dX2_callOf_64 rfl (lv_at hl 2 rfl) ?_
          refine gt_X2_34 X hP hk0 dX2_callOf_65 ?_
          obtain ⟨r26, σ24, e25, h⟩ := bnd2 h
          refine cl_X2_110 X hP hS hq15 (As := [.int (gI σ20 k0 5)]) (rest := [.int (gI σ20 k0 10)]) (c_X0_raise l G hq15 e25) ⟨rfl, rfl, Nat.le_of_ble_eq_true rfl, Nat.le_of_ble_eq_true rfl⟩ rfl hl.1 rfl (Nat.le_of_ble_eq_true rfl) ⟨Nat.zero_le _, Nat.zero_le _⟩ (pc := 68) dX2_callOf_68 (fun H locs hP hS => ?_)
          change W p l e _ s m _ below meth c H locs _ _ _ (F0 m (68 + 3) ls (.int r26 :: [.int (gI σ20 k0 10)]))
          refine lv_iadd (pc := 71) hx hb dX2_callOf_71 ?_
          refine lv_istore (pc := 72) (lv' := [(4, .int ((gI σ20 k0 10) + r26)), (3, .ref (ga G q14)), (2, .ref (ga G q4)), (0, .ref (ga G k0)), (1, .int a1)]) hx hb dX2_callOf_72 hl (by decide) rfl (fun ls hl => ?_)
          refine lv_iload (pc := 74) hx hb dX2_callOf_74 (lv_at hl 0 rfl) ?_
          refine lv_aload_n (pc := 76) hx hb dX2_callOf_76 rfl (lv_at hl 1 rfl) ?_
          refine lv_aload_n (pc := 77) hx hb dX2_callOf_77 rfl (lv_at hl 2 rfl) ?_
          refine gt_X2_114 X hP hq5 dX2_callOf_78 ?_
          obtain ⟨r29, σ27, e28, h⟩ := bnd2 h
          refine cl_X2_117 X hP hS hq15 (As := [.int (gI σ24 q4 1)]) (rest := [.int ((gI σ20 k0 10) + r26)]) (c_X0_limitFor l G hq15 e28) ⟨rfl, rfl, Nat.le_of_ble_eq_true rfl, Nat.le_of_ble_eq_true rfl⟩ rfl hl.1 rfl (Nat.le_of_ble_eq_true rfl) ⟨Nat.zero_le _, Nat.zero_le _⟩ (pc := 81) dX2_callOf_81 (fun H locs hP hS => ?_)
          change W p l e _ s m _ below meth c H locs _ _ _ (F0 m (81 + 3) ls (.int r29 :: [.int ((gI σ20 k0 10) + r26)]))
          refine lv_icmp_gt (pc := 84) (tgt := 92) hx hb dX2_callOf_84 (by decide) (fun c30 => ?_) (fun c30 => ?_)
          · have h := ipos c30 h
            refine lv_iconst (pc := 92) (v := 0) hx hb dX2_callOf_92 (by decide) ?_
            obtain ⟨rfl, rfl⟩ := inj2 h
            exact r_iret X hP hS dX2_callOf_93
          · have h := ineg c30 h
            refine lv_iload (pc := 87) hx hb dX2_callOf_87 (lv_at hl 0 rfl) ?_
            refine lv_goto (pc := 89) (tgt := 93) hx hb dX2_callOf_89 (by decide) ?_
            obtain ⟨rfl, rfl⟩ := inj2 h
            exact r_iret X hP hS dX2_callOf_93
        · have h := ipos c23 h
          refine lv_iconst (pc := 57) (v := 0) hx hb dX2_callOf_57 (by decide) ?_
          obtain ⟨rfl, rfl⟩ := inj2 h
          exact r_iret X hP hS dX2_callOf_58
      · have h := ipos c16 h
        refine lv_iconst (pc := 27) (v := 0) hx hb dX2_callOf_27 (by decide) ?_
        obtain ⟨rfl, rfl⟩ := inj2 h
        exact r_iret X hP hS dX2_callOf_28
def f_X4_add (k0 : Nat) (a1 : Int32) (a2 : Int32) (a3 : Int32) (σ : Mem) : Option Mem :=
  if (gI σ k0 1) < (20 : Int32) then
    bd1 (ixo (k0 + 1) ((gI σ k0 1) * (3 : Int32))) fun j2 =>
    bd1 (some (pI σ (k0 + 1) j2 a1)) fun σ4 =>
    bd1 (ixo (k0 + 1) (((gI σ4 k0 1) * (3 : Int32)) + (1 : Int32))) fun j6 =>
    bd1 (some (pI σ4 (k0 + 1) j6 a2)) fun σ8 =>
    bd1 (ixo (k0 + 1) (((gI σ8 k0 1) * (3 : Int32)) + (2 : Int32))) fun j10 =>
    bd1 (some (pI σ8 (k0 + 1) j10 a3)) fun σ12 =>
    bd1 (some (pI σ12 k0 1 ((gI σ12 k0 1) + (1 : Int32)))) fun σ14 =>
    some σ14
  else
    some σ
abbrev RM_X4_add : Room := { frames := 0, cells := 0, slots := 0, locals := 0 }
set_option maxHeartbeats 4000000 in
set_option maxRecDepth 100000 in
theorem c_X4_add (l : Launch) (G : Gh) {k0 : Nat} {a1 : Int32} {a2 : Int32} {a3 : Int32} {σ : Mem} {σr : Mem} (hk0 : kd k0 = 4) (h : f_X4_add k0 a1 a2 a3 σ = some σr) : Met l yX4_add [Cond.code yX4_add prog_6_method_3_code 4 none] RM_X4_add (va_Pc [.ref (ga G k0), .int a1, .int a2, .int a3] (Pre G σ)) (QG G none σr) 0 0 (AA G) := by
  refine ct_of (by decide) (fun p e s m below meth c X hP => ?_)
  have hx := X.hx
  have hb := X.hb
  have hS : va_S (AA G) s.heap s.heap [] := va_S.rf
  have hl := lv_entry ([.ref (ga G k0), .int a1, .int a2, .int a3]) (n := 4) (Nat.le_of_ble_eq_true rfl)
  rw [lg_entry_eq]
  generalize (lg_sl ([.ref (ga G k0), .int a1, .int a2, .int a3]) ++ List.replicate (4 - (lg_sl ([.ref (ga G k0), .int a1, .int a2, .int a3])).length) Slot.unset).toArray = ls at hl ⊢
  have hl : lv_has ls 4 [(0, .ref (ga G k0)), (1, .int a1), (2, .int a2), (3, .int a3)] := hl
  unfold f_X4_add at h
  refine lv_aload_n (pc := 0) hx hb dX4_add_0 rfl (lv_at hl 0 rfl) ?_
  refine gt_X4_15 X hP hk0 dX4_add_1 ?_
  refine lv_bipush (pc := 4) (v := (20)) hx hb dX4_add_4 (by decide) ?_
  refine lv_icmp_lt (pc := 6) (tgt := 10) hx hb dX4_add_6 (by decide) (fun c1 => ?_) (fun c1 => ?_)
  · have h := ipos c1 h
    refine lv_aload_n (pc := 10) hx hb dX4_add_10 rfl (lv_at hl 0 rfl) ?_
    refine gt_X4_11 X hP hk0 dX4_add_11 ?_
    refine lv_aload_n (pc := 14) hx hb dX4_add_14 rfl (lv_at hl 0 rfl) ?_
    refine gt_X4_15 X hP hk0 dX4_add_15 ?_
    refine lv_iconst (pc := 18) (v := 3) hx hb dX4_add_18 (by decide) ?_
    refine lv_imul (pc := 19) hx hb dX4_add_19 ?_
    refine lv_iload_n (pc := 20) hx hb dX4_add_20 rfl (lv_at hl 1 rfl) ?_
    obtain ⟨j2, hj3, h⟩ := bnd1 h
    obtain ⟨σ4, e5, h⟩ := bnd1 h
    refine r_iast (pc := 21) X hP hS (kf_4_cells hk0).1 hj3 dX4_add_21 (fun H locs hP hS => ?_)
    rw [Option.some.inj e5] at hP
    refine lv_aload_n (pc := 22) hx hb dX4_add_22 rfl (lv_at hl 0 rfl) ?_
    refine gt_X4_11 X hP hk0 dX4_add_23 ?_
    refine lv_aload_n (pc := 26) hx hb dX4_add_26 rfl (lv_at hl 0 rfl) ?_
    refine gt_X4_15 X hP hk0 dX4_add_27 ?_
    refine lv_iconst (pc := 30) (v := 3) hx hb dX4_add_30 (by decide) ?_
    refine lv_imul (pc := 31) hx hb dX4_add_31 ?_
    refine lv_iconst (pc := 32) (v := 1) hx hb dX4_add_32 (by decide) ?_
    refine lv_iadd (pc := 33) hx hb dX4_add_33 ?_
    refine lv_iload_n (pc := 34) hx hb dX4_add_34 rfl (lv_at hl 2 rfl) ?_
    obtain ⟨j6, hj7, h⟩ := bnd1 h
    obtain ⟨σ8, e9, h⟩ := bnd1 h
    refine r_iast (pc := 35) X hP hS (kf_4_cells hk0).1 hj7 dX4_add_35 (fun H locs hP hS => ?_)
    rw [Option.some.inj e9] at hP
    refine lv_aload_n (pc := 36) hx hb dX4_add_36 rfl (lv_at hl 0 rfl) ?_
    refine gt_X4_11 X hP hk0 dX4_add_37 ?_
    refine lv_aload_n (pc := 40) hx hb dX4_add_40 rfl (lv_at hl 0 rfl) ?_
    refine gt_X4_15 X hP hk0 dX4_add_41 ?_
    refine lv_iconst (pc := 44) (v := 3) hx hb dX4_add_44 (by decide) ?_
    refine lv_imul (pc := 45) hx hb dX4_add_45 ?_
    refine lv_iconst (pc := 46) (v := 2) hx hb dX4_add_46 (by decide) ?_
    refine lv_iadd (pc := 47) hx hb dX4_add_47 ?_
    refine lv_iload_n (pc := 48) hx hb dX4_add_48 rfl (lv_at hl 3 rfl) ?_
    obtain ⟨j10, hj11, h⟩ := bnd1 h
    obtain ⟨σ12, e13, h⟩ := bnd1 h
    refine r_iast (pc := 49) X hP hS (kf_4_cells hk0).1 hj11 dX4_add_49 (fun H locs hP hS => ?_)
    rw [Option.some.inj e13] at hP
    refine lv_aload_n (pc := 50) hx hb dX4_add_50 rfl (lv_at hl 0 rfl) ?_
    refine lv_dup (pc := 51) hx hb dX4_add_51 rfl ?_
    refine gt_X4_15 X hP hk0 dX4_add_52 ?_
    refine lv_iconst (pc := 55) (v := 1) hx hb dX4_add_55 (by decide) ?_
    refine lv_iadd (pc := 56) hx hb dX4_add_56 ?_
    obtain ⟨σ14, e15, h⟩ := bnd1 h
    refine pt_X4_15 X hP hS hk0 dX4_add_57 (fun H locs hP hS => ?_)
    rw [Option.some.inj e15] at hP
    obtain rfl := Option.some.inj h
    exact r_vret X hP hS dX4_add_60
  · have h := ineg c1 h
    obtain rfl := Option.some.inj h
    exact r_vret X hP hS dX4_add_9
def f_X2_takeCall (k0 : Nat) (a1 : Int32) (a2 : Int32) (a3 : Nat) (σ : Mem) : Option Mem :=
  bd1 (some (pI σ k0 10 a2)) fun σ1 =>
  bd1 (some (pI σ1 k0 11 a1)) fun σ3 =>
  bd1 (f_X4_add a3 (gI σ3 k0 8) a1 a2 σ3) fun σ5 =>
  some σ5
abbrev RM_X2_takeCall : Room := { frames := 1, cells := 0, slots := 0, locals := 23 }
set_option maxHeartbeats 4000000 in
set_option maxRecDepth 100000 in
theorem c_X2_takeCall (l : Launch) (G : Gh) {k0 : Nat} {a1 : Int32} {a2 : Int32} {a3 : Nat} {σ : Mem} {σr : Mem} (hk0 : kd k0 = 2) (hk3 : kd a3 = 4) (h : f_X2_takeCall k0 a1 a2 a3 σ = some σr) : Met l yX2_takeCall [Cond.code yX2_takeCall prog_4_method_13_code 4 none] RM_X2_takeCall (va_Pc [.ref (ga G k0), .int a1, .int a2, .ref (ga G a3)] (Pre G σ)) (QG G none σr) 0 0 (AA G) := by
  refine ct_of (by decide) (fun p e s m below meth c X hP => ?_)
  have hx := X.hx
  have hb := X.hb
  have hS : va_S (AA G) s.heap s.heap [] := va_S.rf
  have hl := lv_entry ([.ref (ga G k0), .int a1, .int a2, .ref (ga G a3)]) (n := 4) (Nat.le_of_ble_eq_true rfl)
  rw [lg_entry_eq]
  generalize (lg_sl ([.ref (ga G k0), .int a1, .int a2, .ref (ga G a3)]) ++ List.replicate (4 - (lg_sl ([.ref (ga G k0), .int a1, .int a2, .ref (ga G a3)])).length) Slot.unset).toArray = ls at hl ⊢
  have hl : lv_has ls 4 [(0, .ref (ga G k0)), (1, .int a1), (2, .int a2), (3, .ref (ga G a3))] := hl
  unfold f_X2_takeCall at h
  refine lv_aload_n (pc := 0) hx hb dX2_takeCall_0 rfl (lv_at hl 0 rfl) ?_
  refine lv_iload_n (pc := 1) hx hb dX2_takeCall_1 rfl (lv_at hl 2 rfl) ?_
  obtain ⟨σ1, e2, h⟩ := bnd1 h
  refine pt_X2_49 X hP hS hk0 dX2_takeCall_2 (fun H locs hP hS => ?_)
  rw [Option.some.inj e2] at hP
  refine lv_aload_n (pc := 5) hx hb dX2_takeCall_5 rfl (lv_at hl 0 rfl) ?_
  refine lv_iload_n (pc := 6) hx hb dX2_takeCall_6 rfl (lv_at hl 1 rfl) ?_
  obtain ⟨σ3, e4, h⟩ := bnd1 h
  refine pt_X2_52 X hP hS hk0 dX2_takeCall_7 (fun H locs hP hS => ?_)
  rw [Option.some.inj e4] at hP
  refine lv_aload_n (pc := 10) hx hb dX2_takeCall_10 rfl (lv_at hl 3 rfl) ?_
  refine lv_ifnull (pc := 11) hx hb dX2_takeCall_11 ?_
  refine lv_aload_n (pc := 14) hx hb dX2_takeCall_14 rfl (lv_at hl 3 rfl) ?_
  refine lv_aload_n (pc := 15) hx hb dX2_takeCall_15 rfl (lv_at hl 0 rfl) ?_
  refine gt_X2_43 X hP hk0 dX2_takeCall_16 ?_
  refine lv_iload_n (pc := 19) hx hb dX2_takeCall_19 rfl (lv_at hl 1 rfl) ?_
  refine lv_iload_n (pc := 20) hx hb dX2_takeCall_20 rfl (lv_at hl 2 rfl) ?_
  obtain ⟨σ5, e6, h⟩ := bnd1 h
  refine cl_X2_120 X hP hS hk3 (As := [.int (gI σ3 k0 8), .int a1, .int a2]) (rest := []) (c_X4_add l G hk3 e6) ⟨rfl, rfl, Nat.le_of_ble_eq_true rfl, Nat.le_of_ble_eq_true rfl⟩ rfl hl.1 rfl (Nat.le_of_ble_eq_true rfl) ⟨Nat.zero_le _, Nat.zero_le _⟩ (pc := 21) dX2_takeCall_21 (fun H locs hP hS => ?_)
  change W p l e _ s m _ below meth c H locs _ _ _ (F0 m (21 + 3) ls [])
  obtain rfl := Option.some.inj h
  exact r_vret X hP hS dX2_takeCall_24
def f_X3_sell (k0 : Nat) (a1 : Int32) (a2 : Int32) (σ : Mem) : Option Mem :=
  bd1 (some (pI σ k0 2 (1 : Int32))) fun σ1 =>
  bd1 (some (pI σ1 k0 3 a2)) fun σ3 =>
  bd1 (some (pI σ3 k0 4 a1)) fun σ5 =>
  some σ5
abbrev RM_X3_sell : Room := { frames := 0, cells := 0, slots := 0, locals := 0 }
set_option maxHeartbeats 4000000 in
set_option maxRecDepth 100000 in
theorem c_X3_sell (l : Launch) (G : Gh) {k0 : Nat} {a1 : Int32} {a2 : Int32} {σ : Mem} {σr : Mem} (hk0 : kd k0 = 3) (h : f_X3_sell k0 a1 a2 σ = some σr) : Met l yX3_sell [Cond.code yX3_sell prog_5_method_3_code 3 none] RM_X3_sell (va_Pc [.ref (ga G k0), .int a1, .int a2] (Pre G σ)) (QG G none σr) 0 0 (AA G) := by
  refine ct_of (by decide) (fun p e s m below meth c X hP => ?_)
  have hx := X.hx
  have hb := X.hb
  have hS : va_S (AA G) s.heap s.heap [] := va_S.rf
  have hl := lv_entry ([.ref (ga G k0), .int a1, .int a2]) (n := 3) (Nat.le_of_ble_eq_true rfl)
  rw [lg_entry_eq]
  generalize (lg_sl ([.ref (ga G k0), .int a1, .int a2]) ++ List.replicate (3 - (lg_sl ([.ref (ga G k0), .int a1, .int a2])).length) Slot.unset).toArray = ls at hl ⊢
  have hl : lv_has ls 3 [(0, .ref (ga G k0)), (1, .int a1), (2, .int a2)] := hl
  unfold f_X3_sell at h
  refine lv_aload_n (pc := 0) hx hb dX3_sell_0 rfl (lv_at hl 0 rfl) ?_
  refine lv_iconst (pc := 1) (v := 1) hx hb dX3_sell_1 (by decide) ?_
  obtain ⟨σ1, e2, h⟩ := bnd1 h
  refine pt_X3_18 X hP hS hk0 (by decide) dX3_sell_2 (fun H locs hP hS => ?_)
  rw [Option.some.inj e2] at hP
  refine lv_aload_n (pc := 5) hx hb dX3_sell_5 rfl (lv_at hl 0 rfl) ?_
  refine lv_iload_n (pc := 6) hx hb dX3_sell_6 rfl (lv_at hl 2 rfl) ?_
  obtain ⟨σ3, e4, h⟩ := bnd1 h
  refine pt_X3_22 X hP hS hk0 dX3_sell_7 (fun H locs hP hS => ?_)
  rw [Option.some.inj e4] at hP
  refine lv_aload_n (pc := 10) hx hb dX3_sell_10 rfl (lv_at hl 0 rfl) ?_
  refine lv_iload_n (pc := 11) hx hb dX3_sell_11 rfl (lv_at hl 1 rfl) ?_
  obtain ⟨σ5, e6, h⟩ := bnd1 h
  refine pt_X3_25 X hP hS hk0 dX3_sell_12 (fun H locs hP hS => ?_)
  rw [Option.some.inj e6] at hP
  obtain rfl := Option.some.inj h
  exact r_vret X hP hS dX3_sell_15
def F_X2_putOut_21 (k0z : Nat) (σ : Mem) : Option Mem :=
  bd2 (f_X2_bidderAt k0z (gI σ k0z 11) σ) fun r8 σ6 =>
  onr r8 (
    bd1 (some (pI σ6 k0z 7 (-9 : Int32))) fun σ11 =>
    some σ11
    ) fun q9 => grd (kd q9 = 0) <|
    bd1 (some (pI σ6 q9 3 (if ((gI σ6 q9 3) - (gI σ6 k0z 10)) < (0 : Int32) then (0 : Int32) else ((gI σ6 q9 3) - (gI σ6 k0z 10))))) fun σ13 =>
    bd1 (some (pI σ13 k0z 7 (-9 : Int32))) fun σ15 =>
    some σ15
def f_X2_putOut (k0 : Nat) (σ : Mem) : Option Mem :=
  bd2 (f_X2_burning k0 σ) fun r3 σ1 =>
  onr r3 (
    F_X2_putOut_21 k0  σ1
    ) fun q4 => grd (kd q4 = 3) <|
    bd1 (f_X3_sell q4 (gI σ1 k0 11) (gI σ1 k0 10) σ1) fun σ17 =>
    F_X2_putOut_21 k0  σ17
abbrev RM_X2_putOut : Room := { frames := 2, cells := 0, slots := 0, locals := 41 }
set_option maxHeartbeats 4000000 in
set_option maxRecDepth 100000 in
theorem w_X2_putOut_21 {l : Launch} {G : Gh} {p : Program} {e : Env} {s : State} {m : MethodId} {args : Array Value} {below : List Frame} {meth : Method} {c : Code} (X : Cx G p s m args meth c prog_4_method_16_code RX2 3 none) {k0z : Nat} (hz0 : kd k0z = 2) {σr : Mem} : ∀ (σ : Mem) (H : Heap) (locs : List Loc) (ls : Array Slot), PW G σ H → va_S (AA G) s.heap H locs → lv_has ls 3 [(0, .ref (ga G k0z))] → F_X2_putOut_21 k0z  σ = some σr → W p l e RM_X2_putOut s m args below meth c H locs 0 0 (MQ below (QG G none σr) args s 0 0 (AA G)) (F0 m 21 ls []) := by
  have hx := X.hx
  have hb := X.hb
  intro  σ H locs ls hP hS hl h
  unfold F_X2_putOut_21 at h
  refine lv_aload_n (pc := 21) hx hb dX2_putOut_21 rfl (lv_at hl 0 rfl) ?_
  refine lv_aload_n (pc := 22) hx hb dX2_putOut_22 rfl (lv_at hl 0 rfl) ?_
  refine gt_X2_52 X hP hz0 dX2_putOut_23 ?_
  obtain ⟨r8, σ6, e7, h⟩ := bnd2 h
  rcases r8 with _ | q9
  · have h := onr_n h
    refine cl_X2_95 X hP hS hz0 (As := [.int (gI σ k0z 11)]) (rest := []) (c_X2_bidderAt l G hz0 e7) ⟨rfl, rfl, Nat.le_of_ble_eq_true rfl, Nat.le_of_ble_eq_true rfl⟩ rfl hl.1 rfl (Nat.le_of_ble_eq_true rfl) ⟨Nat.zero_le _, Nat.zero_le _⟩ (pc := 26) dX2_putOut_26 (fun H locs hP hS => ?_)
    change W p l e _ s m _ below meth c H locs _ _ _ (F0 m (26 + 3) ls (.null :: []))
    refine lv_astore_nN (pc := 29) (lv' := [(2, .null), (0, .ref (ga G k0z))]) hx hb dX2_putOut_29 rfl hl (by decide) rfl (fun ls hl => ?_)
    refine lv_aload_nN (pc := 30) hx hb dX2_putOut_30 rfl (lv_at hl 0 rfl) ?_
    refine lv_ifnullN (pc := 31) (tgt := 51) hx hb dX2_putOut_31 (by decide) ?_
    refine lv_aload_n (pc := 51) hx hb dX2_putOut_51 rfl (lv_at hl 1 rfl) ?_
    refine lv_bipush (pc := 52) (v := (-9)) hx hb dX2_putOut_52 (by decide) ?_
    obtain ⟨σ11, e12, h⟩ := bnd1 h
    refine pt_X2_40 X hP hS hz0 dX2_putOut_54 (fun H locs hP hS => ?_)
    rw [Option.some.inj e12] at hP
    obtain rfl := Option.some.inj h
    exact r_vret X hP hS dX2_putOut_57
  · have h := onr_s h
    obtain ⟨hq10, h⟩ := grd_inv h
    refine cl_X2_95 X hP hS hz0 (As := [.int (gI σ k0z 11)]) (rest := []) (c_X2_bidderAt l G hz0 e7) ⟨rfl, rfl, Nat.le_of_ble_eq_true rfl, Nat.le_of_ble_eq_true rfl⟩ rfl hl.1 rfl (Nat.le_of_ble_eq_true rfl) ⟨Nat.zero_le _, Nat.zero_le _⟩ (pc := 26) dX2_putOut_26 (fun H locs hP hS => ?_)
    change W p l e _ s m _ below meth c H locs _ _ _ (F0 m (26 + 3) ls (.ref (ga G q9) :: []))
    refine lv_astore_n (pc := 29) (lv' := [(2, .ref (ga G q9)), (0, .ref (ga G k0z))]) hx hb dX2_putOut_29 rfl hl (by decide) rfl (fun ls hl => ?_)
    refine lv_aload_n (pc := 30) hx hb dX2_putOut_30 rfl (lv_at hl 0 rfl) ?_
    refine lv_ifnull (pc := 31) hx hb dX2_putOut_31 ?_
    refine lv_aload_n (pc := 34) hx hb dX2_putOut_34 rfl (lv_at hl 0 rfl) ?_
    refine lv_aload_n (pc := 35) hx hb dX2_putOut_35 rfl (lv_at hl 0 rfl) ?_
    refine gt_X2_143 X hP hq10 dX2_putOut_36 ?_
    refine lv_aload_n (pc := 39) hx hb dX2_putOut_39 rfl (lv_at hl 1 rfl) ?_
    refine gt_X2_49 X hP hz0 dX2_putOut_40 ?_
    refine lv_isub (pc := 43) hx hb dX2_putOut_43 ?_
    refine lv_iconst (pc := 44) (v := 0) hx hb dX2_putOut_44 (by decide) ?_
    refine va_mmax (pc := 45) hx hb (X.hml.trans hl.1.symm) X.hown (X.tb tw_635 rfl) (X.tb tw_636 rfl) (X.tb tw_17 rfl) (X.tb tw_637 rfl) (Nat.le_of_ble_eq_true rfl) (Nat.le_of_ble_eq_true rfl) (Nat.le_of_ble_eq_true rfl) (Nat.le_of_ble_eq_true rfl) dX2_putOut_45 ?_
    obtain ⟨σ13, e14, h⟩ := bnd1 h
    refine pt_X2_143 X hP hS hq10 dX2_putOut_48 (fun H locs hP hS => ?_)
    rw [Option.some.inj e14] at hP
    refine lv_aload_n (pc := 51) hx hb dX2_putOut_51 rfl (lv_at hl 1 rfl) ?_
    refine lv_bipush (pc := 52) (v := (-9)) hx hb dX2_putOut_52 (by decide) ?_
    obtain ⟨σ15, e16, h⟩ := bnd1 h
    refine pt_X2_40 X hP hS hz0 dX2_putOut_54 (fun H locs hP hS => ?_)
    rw [Option.some.inj e16] at hP
    obtain rfl := Option.some.inj h
    exact r_vret X hP hS dX2_putOut_57
set_option maxHeartbeats 4000000 in
set_option maxRecDepth 100000 in
theorem c_X2_putOut (l : Launch) (G : Gh) {k0 : Nat} {σ : Mem} {σr : Mem} (hk0 : kd k0 = 2) (h : f_X2_putOut k0 σ = some σr) : Met l yX2_putOut [Cond.code yX2_putOut prog_4_method_16_code 3 none] RM_X2_putOut (va_Pc [.ref (ga G k0)] (Pre G σ)) (QG G none σr) 0 0 (AA G) := by
  refine ct_of (by decide) (fun p e s m below meth c X hP => ?_)
  have hx := X.hx
  have hb := X.hb
  have hS : va_S (AA G) s.heap s.heap [] := va_S.rf
  have hl := lv_entry ([.ref (ga G k0)]) (n := 3) (Nat.le_of_ble_eq_true rfl)
  rw [lg_entry_eq]
  generalize (lg_sl ([.ref (ga G k0)]) ++ List.replicate (3 - (lg_sl ([.ref (ga G k0)])).length) Slot.unset).toArray = ls at hl ⊢
  have hl : lv_has ls 3 [(0, .ref (ga G k0))] := hl
  unfold f_X2_putOut at h
  refine lv_aload_n (pc := 0) hx hb dX2_putOut_0 rfl (lv_at hl 0 rfl) ?_
  obtain ⟨r3, σ1, e2, h⟩ := bnd2 h
  rcases r3 with _ | q4
  · have h := onr_n h
    refine cl_X2_91 X hP hS hk0 (As := []) (rest := []) (c_X2_burning l G hk0 e2) ⟨rfl, rfl, Nat.le_of_ble_eq_true rfl, Nat.le_of_ble_eq_true rfl⟩ rfl hl.1 rfl (Nat.le_of_ble_eq_true rfl) ⟨Nat.zero_le _, Nat.zero_le _⟩ (pc := 1) dX2_putOut_1 (fun H locs hP hS => ?_)
    change W p l e _ s m _ below meth c H locs _ _ _ (F0 m (1 + 3) ls (.null :: []))
    refine lv_astore_nN (pc := 4) (lv' := [(1, .null), (0, .ref (ga G k0))]) hx hb dX2_putOut_4 rfl hl (by decide) rfl (fun ls hl => ?_)
    refine lv_aload_nN (pc := 5) hx hb dX2_putOut_5 rfl (lv_at hl 0 rfl) ?_
    refine lv_ifnullN (pc := 6) (tgt := 21) hx hb dX2_putOut_6 (by decide) ?_
    exact w_X2_putOut_21 X  hk0   _ _ _ _ hP hS (lv_sub hl [1] rfl) h
  · have h := onr_s h
    obtain ⟨hq5, h⟩ := grd_inv h
    refine cl_X2_91 X hP hS hk0 (As := []) (rest := []) (c_X2_burning l G hk0 e2) ⟨rfl, rfl, Nat.le_of_ble_eq_true rfl, Nat.le_of_ble_eq_true rfl⟩ rfl hl.1 rfl (Nat.le_of_ble_eq_true rfl) ⟨Nat.zero_le _, Nat.zero_le _⟩ (pc := 1) dX2_putOut_1 (fun H locs hP hS => ?_)
    change W p l e _ s m _ below meth c H locs _ _ _ (F0 m (1 + 3) ls (.ref (ga G q4) :: []))
    refine lv_astore_n (pc := 4) (lv' := [(1, .ref (ga G q4)), (0, .ref (ga G k0))]) hx hb dX2_putOut_4 rfl hl (by decide) rfl (fun ls hl => ?_)
    refine lv_aload_n (pc := 5) hx hb dX2_putOut_5 rfl (lv_at hl 0 rfl) ?_
    refine lv_ifnull (pc := 6) hx hb dX2_putOut_6 ?_
    refine lv_aload_n (pc := 9) hx hb dX2_putOut_9 rfl (lv_at hl 0 rfl) ?_
    refine lv_aload_n (pc := 10) hx hb dX2_putOut_10 rfl (lv_at hl 1 rfl) ?_
    refine gt_X2_52 X hP hk0 dX2_putOut_11 ?_
    refine lv_aload_n (pc := 14) hx hb dX2_putOut_14 rfl (lv_at hl 1 rfl) ?_
    refine gt_X2_49 X hP hk0 dX2_putOut_15 ?_
    obtain ⟨σ17, e18, h⟩ := bnd1 h
    refine cl_X2_140 X hP hS hq5 (As := [.int (gI σ1 k0 11), .int (gI σ1 k0 10)]) (rest := []) (c_X3_sell l G hq5 e18) ⟨rfl, rfl, Nat.le_of_ble_eq_true rfl, Nat.le_of_ble_eq_true rfl⟩ rfl hl.1 rfl (Nat.le_of_ble_eq_true rfl) ⟨Nat.zero_le _, Nat.zero_le _⟩ (pc := 18) dX2_putOut_18 (fun H locs hP hS => ?_)
    change W p l e _ s m _ below meth c H locs _ _ _ (F0 m (18 + 3) ls [])
    exact w_X2_putOut_21 X  hk0   _ _ _ _ hP hS (lv_sub hl [1] rfl) h
def F_X2_goOneTick_2 (k0z : Nat) (k1z : Nat) (rec1 : Int32 → Mem → Option Mem) : Int32 → Mem → Option Mem := fun v2 σ =>
  if (gI σ k0z 3) ≤ v2 then
    bd2 (f_X2_burnsNow k0z σ) fun r4 σ2 =>
    bd1 (some (pI σ2 k0z 9 ((gI σ k0z 9) + r4))) fun σ5 =>
    bd1 (some (pI σ5 k0z 8 ((gI σ5 k0z 8) + (1 : Int32)))) fun σ7 =>
    bd2 (f_X2_burning k0z σ7) fun r11 σ9 =>
    onr r11 (
      some σ9
      ) fun q12 => grd (kd q12 = 3) <|
      if (gI σ9 k0z 9) < (gI σ9 q12 0) then
        some σ9
      else
        bd1 (f_X2_putOut k0z σ9) fun σ15 =>
        some σ15
  else
    bd2 (f_X2_callOf k0z v2 σ) fun r19 σ17 =>
    if r19 ≤ (0 : Int32) then
      rec1 (v2 + (1 : Int32)) σ17
    else
      bd1 (f_X2_takeCall k0z v2 r19 k1z σ17) fun σ21 =>
      rec1 (v2 + (1 : Int32)) σ21
def f_X2_goOneTick (k0 : Nat) (a1 : Nat) (σ : Mem) : Option Mem :=
  iterF (F_X2_goOneTick_2 k0 a1) (fun _ _ => none) FU (0 : Int32) σ
abbrev RM_X2_goOneTick : Room := { frames := 3, cells := 0, slots := 0, locals := 67 }
set_option maxHeartbeats 4000000 in
set_option maxRecDepth 100000 in
theorem w_X2_goOneTick_2 {l : Launch} {G : Gh} {p : Program} {e : Env} {s : State} {m : MethodId} {args : Array Value} {below : List Frame} {meth : Method} {c : Code} (X : Cx G p s m args meth c prog_4_method_15_code RX2 4 none) {k0z : Nat} {k1z : Nat} (hz0 : kd k0z = 2) (hz1 : kd k1z = 4) {σr : Mem} : ∀ (n : Nat) (v2 : Int32) (σ : Mem) (H : Heap) (locs : List Loc) (ls : Array Slot), PW G σ H → va_S (AA G) s.heap H locs → lv_has ls 4 [(0, .ref (ga G k0z)), (1, .ref (ga G k1z)), (2, .int v2)] → iterF (F_X2_goOneTick_2 k0z k1z) (fun _ _ => none) n v2 σ = some σr → W p l e RM_X2_goOneTick s m args below meth c H locs 0 0 (MQ below (QG G none σr) args s 0 0 (AA G)) (F0 m 2 ls []) := by
  have hx := X.hx
  have hb := X.hb
  intro n
  induction n with
  | zero => intro v2 σ H locs ls hP hS hl h; exact nnone (α := Mem) h
  | succ n ih1 =>
    intro v2 σ H locs ls hP hS hl h
    have h : F_X2_goOneTick_2 k0z k1z (iterF (F_X2_goOneTick_2 k0z k1z) (fun _ _ => none) n) v2 σ = some _ := h
    unfold F_X2_goOneTick_2 at h
    refine lv_iload_n (pc := 2) hx hb dX2_goOneTick_2 rfl (lv_at hl 2 rfl) ?_
    refine lv_aload_n (pc := 3) hx hb dX2_goOneTick_3 rfl (lv_at hl 0 rfl) ?_
    refine gt_X2_27 X hP hz0 dX2_goOneTick_4 ?_
    refine lv_icmp_ge (pc := 7) (tgt := 33) hx hb dX2_goOneTick_7 (by decide) (fun c1 => ?_) (fun c1 => ?_)
    · have h := ipos c1 h
      refine lv_aload_n (pc := 33) hx hb dX2_goOneTick_33 rfl (lv_at hl 0 rfl) ?_
      refine lv_dup (pc := 34) hx hb dX2_goOneTick_34 rfl ?_
      refine gt_X2_46 X hP hz0 dX2_goOneTick_35 ?_
      refine lv_aload_n (pc := 38) hx hb dX2_goOneTick_38 rfl (lv_at hl 0 rfl) ?_
      obtain ⟨r4, σ2, e3, h⟩ := bnd2 h
      refine cl_X2_102 X hP hS hz0 (As := []) (rest := [.int (gI σ k0z 9), .ref (ga G k0z)]) (c_X2_burnsNow l G hz0 e3) ⟨rfl, rfl, Nat.le_of_ble_eq_true rfl, Nat.le_of_ble_eq_true rfl⟩ rfl hl.1 rfl (Nat.le_of_ble_eq_true rfl) ⟨Nat.zero_le _, Nat.zero_le _⟩ (pc := 39) dX2_goOneTick_39 (fun H locs hP hS => ?_)
      change W p l e _ s m _ below meth c H locs _ _ _ (F0 m (39 + 3) ls (.int r4 :: [.int (gI σ k0z 9), .ref (ga G k0z)]))
      refine lv_iadd (pc := 42) hx hb dX2_goOneTick_42 ?_
      obtain ⟨σ5, e6, h⟩ := bnd1 h
      refine pt_X2_46 X hP hS hz0 dX2_goOneTick_43 (fun H locs hP hS => ?_)
      rw [Option.some.inj e6] at hP
      refine lv_aload_n (pc := 46) hx hb dX2_goOneTick_46 rfl (lv_at hl 0 rfl) ?_
      refine lv_dup (pc := 47) hx hb dX2_goOneTick_47 rfl ?_
      refine gt_X2_43 X hP hz0 dX2_goOneTick_48 ?_
      refine lv_iconst (pc := 51) (v := 1) hx hb dX2_goOneTick_51 (by decide) ?_
      refine lv_iadd (pc := 52) hx hb dX2_goOneTick_52 ?_
      obtain ⟨σ7, e8, h⟩ := bnd1 h
      refine pt_X2_43 X hP hS hz0 dX2_goOneTick_53 (fun H locs hP hS => ?_)
      rw [Option.some.inj e8] at hP
      refine lv_aload_n (pc := 56) hx hb dX2_goOneTick_56 rfl (lv_at hl 0 rfl) ?_
      obtain ⟨r11, σ9, e10, h⟩ := bnd2 h
      rcases r11 with _ | q12
      · have h := onr_n h
        refine cl_X2_91 X hP hS hz0 (As := []) (rest := []) (c_X2_burning l G hz0 e10) ⟨rfl, rfl, Nat.le_of_ble_eq_true rfl, Nat.le_of_ble_eq_true rfl⟩ rfl hl.1 rfl (Nat.le_of_ble_eq_true rfl) ⟨Nat.zero_le _, Nat.zero_le _⟩ (pc := 57) dX2_goOneTick_57 (fun H locs hP hS => ?_)
        change W p l e _ s m _ below meth c H locs _ _ _ (F0 m (57 + 3) ls (.null :: []))
        refine lv_astore_nN (pc := 60) (lv' := [(2, .null), (0, .ref (ga G k0z)), (1, .ref (ga G k1z))]) hx hb dX2_goOneTick_60 rfl hl (by decide) rfl (fun ls hl => ?_)
        refine lv_aload_nN (pc := 61) hx hb dX2_goOneTick_61 rfl (lv_at hl 0 rfl) ?_
        refine lv_ifnullN (pc := 62) (tgt := 80) hx hb dX2_goOneTick_62 (by decide) ?_
        obtain rfl := Option.some.inj h
        exact r_vret X hP hS dX2_goOneTick_80
      · have h := onr_s h
        obtain ⟨hq13, h⟩ := grd_inv h
        refine cl_X2_91 X hP hS hz0 (As := []) (rest := []) (c_X2_burning l G hz0 e10) ⟨rfl, rfl, Nat.le_of_ble_eq_true rfl, Nat.le_of_ble_eq_true rfl⟩ rfl hl.1 rfl (Nat.le_of_ble_eq_true rfl) ⟨Nat.zero_le _, Nat.zero_le _⟩ (pc := 57) dX2_goOneTick_57 (fun H locs hP hS => ?_)
        change W p l e _ s m _ below meth c H locs _ _ _ (F0 m (57 + 3) ls (.ref (ga G q12) :: []))
        refine lv_astore_n (pc := 60) (lv' := [(2, .ref (ga G q12)), (0, .ref (ga G k0z)), (1, .ref (ga G k1z))]) hx hb dX2_goOneTick_60 rfl hl (by decide) rfl (fun ls hl => ?_)
        refine lv_aload_n (pc := 61) hx hb dX2_goOneTick_61 rfl (lv_at hl 0 rfl) ?_
        refine lv_ifnull (pc := 62) hx hb dX2_goOneTick_62 ?_
        refine lv_aload_n (pc := 65) hx hb dX2_goOneTick_65 rfl (lv_at hl 1 rfl) ?_
        refine gt_X2_46 X hP hz0 dX2_goOneTick_66 ?_
        refine lv_aload_n (pc := 69) hx hb dX2_goOneTick_69 rfl (lv_at hl 0 rfl) ?_
        refine gt_X2_99 X hP hq13 dX2_goOneTick_70 ?_
        refine lv_icmp_lt (pc := 73) (tgt := 80) hx hb dX2_goOneTick_73 (by decide) (fun c14 => ?_) (fun c14 => ?_)
        · have h := ipos c14 h
          obtain rfl := Option.some.inj h
          exact r_vret X hP hS dX2_goOneTick_80
        · have h := ineg c14 h
          refine lv_aload_n (pc := 76) hx hb dX2_goOneTick_76 rfl (lv_at hl 1 rfl) ?_
          obtain ⟨σ15, e16, h⟩ := bnd1 h
          refine cl_X2_137 X hP hS hz0 (As := []) (rest := []) (c_X2_putOut l G hz0 e16) ⟨rfl, rfl, Nat.le_of_ble_eq_true rfl, Nat.le_of_ble_eq_true rfl⟩ rfl hl.1 rfl (Nat.le_of_ble_eq_true rfl) ⟨Nat.zero_le _, Nat.zero_le _⟩ (pc := 77) dX2_goOneTick_77 (fun H locs hP hS => ?_)
          change W p l e _ s m _ below meth c H locs _ _ _ (F0 m (77 + 3) ls [])
          obtain rfl := Option.some.inj h
          exact r_vret X hP hS dX2_goOneTick_80
    · have h := ineg c1 h
      refine lv_aload_n (pc := 10) hx hb dX2_goOneTick_10 rfl (lv_at hl 0 rfl) ?_
      refine lv_iload_n (pc := 11) hx hb dX2_goOneTick_11 rfl (lv_at hl 2 rfl) ?_
      obtain ⟨r19, σ17, e18, h⟩ := bnd2 h
      refine cl_X2_130 X hP hS hz0 (As := [.int v2]) (rest := []) (c_X2_callOf l G hz0 e18) ⟨rfl, rfl, Nat.le_of_ble_eq_true rfl, Nat.le_of_ble_eq_true rfl⟩ rfl hl.1 rfl (Nat.le_of_ble_eq_true rfl) ⟨Nat.zero_le _, Nat.zero_le _⟩ (pc := 12) dX2_goOneTick_12 (fun H locs hP hS => ?_)
      change W p l e _ s m _ below meth c H locs _ _ _ (F0 m (12 + 3) ls (.int r19 :: []))
      refine lv_istore_n (pc := 15) (lv' := [(3, .int r19), (0, .ref (ga G k0z)), (1, .ref (ga G k1z)), (2, .int v2)]) hx hb dX2_goOneTick_15 rfl hl (by decide) rfl (fun ls hl => ?_)
      refine lv_iload_n (pc := 16) hx hb dX2_goOneTick_16 rfl (lv_at hl 0 rfl) ?_
      refine lv_if_le (pc := 17) (tgt := 27) hx hb dX2_goOneTick_17 (by decide) (fun c20 => ?_) (fun c20 => ?_)
      · have h := ipos c20 h
        refine lv_iinc (pc := 27) (v := (v2 + (1 : Int32))) (lv' := [(2, .int (v2 + (1 : Int32))), (3, .int r19), (0, .ref (ga G k0z)), (1, .ref (ga G k1z))]) hx hb dX2_goOneTick_27 hl (k := 3) rfl (congrArg (fun z => v2 + z) (by decide)) (by decide) rfl (fun ls hl => ?_)
        refine lv_goto (pc := 30) (tgt := 2) hx hb dX2_goOneTick_30 (by decide) ?_
        exact ih1 _ _ _ _ _ hP hS (lv_sub hl [2, 3, 0] rfl) h
      · have h := ineg c20 h
        refine lv_aload_n (pc := 20) hx hb dX2_goOneTick_20 rfl (lv_at hl 1 rfl) ?_
        refine lv_iload_n (pc := 21) hx hb dX2_goOneTick_21 rfl (lv_at hl 3 rfl) ?_
        refine lv_iload_n (pc := 22) hx hb dX2_goOneTick_22 rfl (lv_at hl 0 rfl) ?_
        refine lv_aload_n (pc := 23) hx hb dX2_goOneTick_23 rfl (lv_at hl 2 rfl) ?_
        obtain ⟨σ21, e22, h⟩ := bnd1 h
        refine cl_X2_133 X hP hS hz0 (As := [.int v2, .int r19, .ref (ga G k1z)]) (rest := []) (c_X2_takeCall l G hz0 hz1 e22) ⟨rfl, rfl, Nat.le_of_ble_eq_true rfl, Nat.le_of_ble_eq_true rfl⟩ rfl hl.1 rfl (Nat.le_of_ble_eq_true rfl) ⟨Nat.zero_le _, Nat.zero_le _⟩ (pc := 24) dX2_goOneTick_24 (fun H locs hP hS => ?_)
        change W p l e _ s m _ below meth c H locs _ _ _ (F0 m (24 + 3) ls [])
        refine lv_iinc (pc := 27) (v := (v2 + (1 : Int32))) (lv' := [(2, .int (v2 + (1 : Int32))), (3, .int r19), (0, .ref (ga G k0z)), (1, .ref (ga G k1z))]) hx hb dX2_goOneTick_27 hl (k := 3) rfl (congrArg (fun z => v2 + z) (by decide)) (by decide) rfl (fun ls hl => ?_)
        refine lv_goto (pc := 30) (tgt := 2) hx hb dX2_goOneTick_30 (by decide) ?_
        exact ih1 _ _ _ _ _ hP hS (lv_sub hl [2, 3, 0] rfl) h
set_option maxHeartbeats 4000000 in
set_option maxRecDepth 100000 in
theorem c_X2_goOneTick (l : Launch) (G : Gh) {k0 : Nat} {a1 : Nat} {σ : Mem} {σr : Mem} (hk0 : kd k0 = 2) (hk1 : kd a1 = 4) (h : f_X2_goOneTick k0 a1 σ = some σr) : Met l yX2_goOneTick [Cond.code yX2_goOneTick prog_4_method_15_code 4 none] RM_X2_goOneTick (va_Pc [.ref (ga G k0), .ref (ga G a1)] (Pre G σ)) (QG G none σr) 0 0 (AA G) := by
  refine ct_of (by decide) (fun p e s m below meth c X hP => ?_)
  have hx := X.hx
  have hb := X.hb
  have hS : va_S (AA G) s.heap s.heap [] := va_S.rf
  have hl := lv_entry ([.ref (ga G k0), .ref (ga G a1)]) (n := 4) (Nat.le_of_ble_eq_true rfl)
  rw [lg_entry_eq]
  generalize (lg_sl ([.ref (ga G k0), .ref (ga G a1)]) ++ List.replicate (4 - (lg_sl ([.ref (ga G k0), .ref (ga G a1)])).length) Slot.unset).toArray = ls at hl ⊢
  have hl : lv_has ls 4 [(0, .ref (ga G k0)), (1, .ref (ga G a1))] := hl
  unfold f_X2_goOneTick at h
  refine lv_iconst (pc := 0) (v := 0) hx hb dX2_goOneTick_0 (by decide) ?_
  refine lv_istore_n (pc := 1) (lv' := [(2, .int (0 : Int32)), (0, .ref (ga G k0)), (1, .ref (ga G a1))]) hx hb dX2_goOneTick_1 rfl hl (by decide) rfl (fun ls hl => ?_)
  exact w_X2_goOneTick_2 X  hk0 hk1  FU _ _ _ _ _ hP hS (lv_sub hl [1, 2, 0] rfl) h
def F_X2_goTicks_5 (k0z : Nat) (p1 : Int32) (k2z : Nat) (rec1 : Int32 → Int32 → Mem → Option (Int32 × Mem)) : Int32 → Int32 → Mem → Option (Int32 × Mem) := fun v3 v4 σ =>
  if p1 ≤ v4 then
    some (v3, σ)
  else
    bd2 (f_X2_burning k0z σ) fun r4 σ2 =>
    onr r4 (
      some (v3, σ2)
      ) fun q5 => grd (kd q5 = 3) <|
      bd1 (f_X2_goOneTick k0z k2z σ2) fun σ7 =>
      rec1 (v3 + (1 : Int32)) (v4 + (1 : Int32)) σ7
def f_X2_goTicks (k0 : Nat) (a1 : Int32) (a2 : Nat) (σ : Mem) : Option (Int32 × Mem) :=
  iterF (F_X2_goTicks_5 k0 a1 a2) (fun _ _ _ => none) FU (0 : Int32) (0 : Int32) σ
abbrev RM_X2_goTicks : Room := { frames := 4, cells := 0, slots := 0, locals := 90 }
set_option maxHeartbeats 4000000 in
set_option maxRecDepth 100000 in
theorem w_X2_goTicks_5 {l : Launch} {G : Gh} {p : Program} {e : Env} {s : State} {m : MethodId} {args : Array Value} {below : List Frame} {meth : Method} {c : Code} (X : Cx G p s m args meth c prog_4_method_14_code RX2 5 (some .int)) {k0z : Nat} {p1 : Int32} {k2z : Nat} (hz0 : kd k0z = 2) (hz2 : kd k2z = 4) {rr : Int32} {σr : Mem} : ∀ (n : Nat) (v3 : Int32) (v4 : Int32) (σ : Mem) (H : Heap) (locs : List Loc) (ls : Array Slot), PW G σ H → va_S (AA G) s.heap H locs → lv_has ls 5 [(0, .ref (ga G k0z)), (1, .int p1), (2, .ref (ga G k2z)), (3, .int v3), (4, .int v4)] → iterF (F_X2_goTicks_5 k0z p1 k2z) (fun _ _ _ => none) n v3 v4 σ = some (rr, σr) → W p l e RM_X2_goTicks s m args below meth c H locs 0 0 (MQ below (QG G (some (.int rr)) σr) args s 0 0 (AA G)) (F0 m 5 ls []) := by
  have hx := X.hx
  have hb := X.hb
  intro n
  induction n with
  | zero => intro v3 v4 σ H locs ls hP hS hl h; exact nnone (α := (Int32 × Mem)) h
  | succ n ih1 =>
    intro v3 v4 σ H locs ls hP hS hl h
    have h : F_X2_goTicks_5 k0z p1 k2z (iterF (F_X2_goTicks_5 k0z p1 k2z) (fun _ _ _ => none) n) v3 v4 σ = some _ := h
    unfold F_X2_goTicks_5 at h
    refine lv_iload (pc := 5) hx hb dX2_goTicks_5 (lv_at hl 4 rfl) ?_
    refine lv_iload_n (pc := 7) hx hb dX2_goTicks_7 rfl (lv_at hl 1 rfl) ?_
    refine lv_icmp_ge (pc := 8) (tgt := 32) hx hb dX2_goTicks_8 (by decide) (fun c1 => ?_) (fun c1 => ?_)
    · have h := ipos c1 h
      refine lv_iload_n (pc := 32) hx hb dX2_goTicks_32 rfl (lv_at hl 3 rfl) ?_
      obtain ⟨rfl, rfl⟩ := inj2 h
      exact r_iret X hP hS dX2_goTicks_33
    · have h := ineg c1 h
      refine lv_aload_n (pc := 11) hx hb dX2_goTicks_11 rfl (lv_at hl 0 rfl) ?_
      obtain ⟨r4, σ2, e3, h⟩ := bnd2 h
      rcases r4 with _ | q5
      · have h := onr_n h
        refine cl_X2_91 X hP hS hz0 (As := []) (rest := []) (c_X2_burning l G hz0 e3) ⟨rfl, rfl, Nat.le_of_ble_eq_true rfl, Nat.le_of_ble_eq_true rfl⟩ rfl hl.1 rfl (Nat.le_of_ble_eq_true rfl) ⟨Nat.zero_le _, Nat.zero_le _⟩ (pc := 12) dX2_goTicks_12 (fun H locs hP hS => ?_)
        change W p l e _ s m _ below meth c H locs _ _ _ (F0 m (12 + 3) ls (.null :: []))
        refine lv_ifnullN (pc := 15) (tgt := 32) hx hb dX2_goTicks_15 (by decide) ?_
        refine lv_iload_n (pc := 32) hx hb dX2_goTicks_32 rfl (lv_at hl 3 rfl) ?_
        obtain ⟨rfl, rfl⟩ := inj2 h
        exact r_iret X hP hS dX2_goTicks_33
      · have h := onr_s h
        obtain ⟨hq6, h⟩ := grd_inv h
        refine cl_X2_91 X hP hS hz0 (As := []) (rest := []) (c_X2_burning l G hz0 e3) ⟨rfl, rfl, Nat.le_of_ble_eq_true rfl, Nat.le_of_ble_eq_true rfl⟩ rfl hl.1 rfl (Nat.le_of_ble_eq_true rfl) ⟨Nat.zero_le _, Nat.zero_le _⟩ (pc := 12) dX2_goTicks_12 (fun H locs hP hS => ?_)
        change W p l e _ s m _ below meth c H locs _ _ _ (F0 m (12 + 3) ls (.ref (ga G q5) :: []))
        refine lv_ifnull (pc := 15) hx hb dX2_goTicks_15 ?_
        refine lv_aload_n (pc := 18) hx hb dX2_goTicks_18 rfl (lv_at hl 0 rfl) ?_
        refine lv_aload_n (pc := 19) hx hb dX2_goTicks_19 rfl (lv_at hl 2 rfl) ?_
        obtain ⟨σ7, e8, h⟩ := bnd1 h
        refine cl_X2_126 X hP hS hz0 (As := [.ref (ga G k2z)]) (rest := []) (c_X2_goOneTick l G hz0 hz2 e8) ⟨rfl, rfl, Nat.le_of_ble_eq_true rfl, Nat.le_of_ble_eq_true rfl⟩ rfl hl.1 rfl (Nat.le_of_ble_eq_true rfl) ⟨Nat.zero_le _, Nat.zero_le _⟩ (pc := 20) dX2_goTicks_20 (fun H locs hP hS => ?_)
        change W p l e _ s m _ below meth c H locs _ _ _ (F0 m (20 + 3) ls [])
        refine lv_iinc (pc := 23) (v := (v3 + (1 : Int32))) (lv' := [(3, .int (v3 + (1 : Int32))), (0, .ref (ga G k0z)), (1, .int p1), (2, .ref (ga G k2z)), (4, .int v4)]) hx hb dX2_goTicks_23 hl (k := 3) rfl (congrArg (fun z => v3 + z) (by decide)) (by decide) rfl (fun ls hl => ?_)
        refine lv_iinc (pc := 26) (v := (v4 + (1 : Int32))) (lv' := [(4, .int (v4 + (1 : Int32))), (3, .int (v3 + (1 : Int32))), (0, .ref (ga G k0z)), (1, .int p1), (2, .ref (ga G k2z))]) hx hb dX2_goTicks_26 hl (k := 4) rfl (congrArg (fun z => v4 + z) (by decide)) (by decide) rfl (fun ls hl => ?_)
        refine lv_goto (pc := 29) (tgt := 5) hx hb dX2_goTicks_29 (by decide) ?_
        exact ih1 _ _ _ _ _ _ hP hS (lv_sub hl [2, 3, 4, 1, 0] rfl) h
set_option maxHeartbeats 4000000 in
set_option maxRecDepth 100000 in
theorem c_X2_goTicks (l : Launch) (G : Gh) {k0 : Nat} {a1 : Int32} {a2 : Nat} {σ : Mem} {rr : Int32} {σr : Mem} (hk0 : kd k0 = 2) (hk2 : kd a2 = 4) (h : f_X2_goTicks k0 a1 a2 σ = some (rr, σr)) : Met l yX2_goTicks [Cond.code yX2_goTicks prog_4_method_14_code 5 (some .int)] RM_X2_goTicks (va_Pc [.ref (ga G k0), .int a1, .ref (ga G a2)] (Pre G σ)) (QG G (some (.int rr)) σr) 0 0 (AA G) := by
  refine ct_of (by decide) (fun p e s m below meth c X hP => ?_)
  have hx := X.hx
  have hb := X.hb
  have hS : va_S (AA G) s.heap s.heap [] := va_S.rf
  have hl := lv_entry ([.ref (ga G k0), .int a1, .ref (ga G a2)]) (n := 5) (Nat.le_of_ble_eq_true rfl)
  rw [lg_entry_eq]
  generalize (lg_sl ([.ref (ga G k0), .int a1, .ref (ga G a2)]) ++ List.replicate (5 - (lg_sl ([.ref (ga G k0), .int a1, .ref (ga G a2)])).length) Slot.unset).toArray = ls at hl ⊢
  have hl : lv_has ls 5 [(0, .ref (ga G k0)), (1, .int a1), (2, .ref (ga G a2))] := hl
  unfold f_X2_goTicks at h
  refine lv_iconst (pc := 0) (v := 0) hx hb dX2_goTicks_0 (by decide) ?_
  refine lv_istore_n (pc := 1) (lv' := [(3, .int (0 : Int32)), (0, .ref (ga G k0)), (1, .int a1), (2, .ref (ga G a2))]) hx hb dX2_goTicks_1 rfl hl (by decide) rfl (fun ls hl => ?_)
  refine lv_iconst (pc := 2) (v := 0) hx hb dX2_goTicks_2 (by decide) ?_
  refine lv_istore (pc := 3) (lv' := [(4, .int (0 : Int32)), (3, .int (0 : Int32)), (0, .ref (ga G k0)), (1, .int a1), (2, .ref (ga G a2))]) hx hb dX2_goTicks_3 hl (by decide) rfl (fun ls hl => ?_)
  exact w_X2_goTicks_5 X  hk0 hk2  FU _ _ _ _ _ _ hP hS (lv_sub hl [2, 3, 4, 1, 0] rfl) h
def F_X2_soldLots_4 (k0z : Nat) (rec1 : Int32 → Int32 → Mem → Option (Int32 × Mem)) : Int32 → Int32 → Mem → Option (Int32 × Mem) := fun v1 v2 σ =>
  if (gI σ k0z 1) ≤ v2 then
    some (v1, σ)
  else
    bd1 (ixo (k0z + 1) v2) fun j2 =>
    if (gI σ ((k0z + 1) + 3 + j2) 2) = (0 : Int32) then
      rec1 (v1 + (0 : Int32)) (v2 + (1 : Int32)) σ
    else
      rec1 (v1 + (1 : Int32)) (v2 + (1 : Int32)) σ
def f_X2_soldLots (k0 : Nat) (σ : Mem) : Option (Int32 × Mem) :=
  iterF (F_X2_soldLots_4 k0) (fun _ _ _ => none) FU (0 : Int32) (0 : Int32) σ
abbrev RM_X2_soldLots : Room := { frames := 0, cells := 0, slots := 0, locals := 0 }
set_option maxHeartbeats 4000000 in
set_option maxRecDepth 100000 in
theorem w_X2_soldLots_4 {l : Launch} {G : Gh} {p : Program} {e : Env} {s : State} {m : MethodId} {args : Array Value} {below : List Frame} {meth : Method} {c : Code} (X : Cx G p s m args meth c prog_4_method_17_code RX2 3 (some .int)) {k0z : Nat} (hz0 : kd k0z = 2) {rr : Int32} {σr : Mem} : ∀ (n : Nat) (v1 : Int32) (v2 : Int32) (σ : Mem) (H : Heap) (locs : List Loc) (ls : Array Slot), PW G σ H → va_S (AA G) s.heap H locs → lv_has ls 3 [(0, .ref (ga G k0z)), (1, .int v1), (2, .int v2)] → iterF (F_X2_soldLots_4 k0z) (fun _ _ _ => none) n v1 v2 σ = some (rr, σr) → W p l e RM_X2_soldLots s m args below meth c H locs 0 0 (MQ below (QG G (some (.int rr)) σr) args s 0 0 (AA G)) (F0 m 4 ls []) := by
  have hx := X.hx
  have hb := X.hb
  intro n
  induction n with
  | zero => intro v1 v2 σ H locs ls hP hS hl h; exact nnone (α := (Int32 × Mem)) h
  | succ n ih1 =>
    intro v1 v2 σ H locs ls hP hS hl h
    have h : F_X2_soldLots_4 k0z (iterF (F_X2_soldLots_4 k0z) (fun _ _ _ => none) n) v1 v2 σ = some _ := h
    unfold F_X2_soldLots_4 at h
    refine lv_iload_n (pc := 4) hx hb dX2_soldLots_4 rfl (lv_at hl 2 rfl) ?_
    refine lv_aload_n (pc := 5) hx hb dX2_soldLots_5 rfl (lv_at hl 0 rfl) ?_
    refine gt_X2_17 X hP hz0 dX2_soldLots_6 ?_
    refine lv_icmp_ge (pc := 9) (tgt := 38) hx hb dX2_soldLots_9 (by decide) (fun c1 => ?_) (fun c1 => ?_)
    · have h := ipos c1 h
      refine lv_iload_n (pc := 38) hx hb dX2_soldLots_38 rfl (lv_at hl 1 rfl) ?_
      obtain ⟨rfl, rfl⟩ := inj2 h
      exact r_iret X hP hS dX2_soldLots_39
    · have h := ineg c1 h
      refine lv_iload_n (pc := 12) hx hb dX2_soldLots_12 rfl (lv_at hl 1 rfl) ?_
      refine lv_aload_n (pc := 13) hx hb dX2_soldLots_13 rfl (lv_at hl 0 rfl) ?_
      refine gt_X2_11 X hP hz0 dX2_soldLots_14 ?_
      refine lv_iload_n (pc := 17) hx hb dX2_soldLots_17 rfl (lv_at hl 2 rfl) ?_
      obtain ⟨j2, hj3, h⟩ := bnd1 h
      refine r_ald15 (pc := 18) X hP (kf_2_lots hz0).1 hj3 dX2_soldLots_18 ?_
      refine gt_X2_74 X hP (ke_15 (kf_2_lots hz0).1 hj3) dX2_soldLots_19 ?_
      refine lv_if_eq (pc := 22) (tgt := 29) hx hb dX2_soldLots_22 (by decide) (fun c4 => ?_) (fun c4 => ?_)
      · have h := ipos c4 h
        refine lv_iconst (pc := 29) (v := 0) hx hb dX2_soldLots_29 (by decide) ?_
        refine lv_iadd (pc := 30) hx hb dX2_soldLots_30 ?_
        refine lv_istore_n (pc := 31) (lv' := [(1, .int (v1 + (0 : Int32))), (0, .ref (ga G k0z)), (2, .int v2)]) hx hb dX2_soldLots_31 rfl hl (by decide) rfl (fun ls hl => ?_)
        refine lv_iinc (pc := 32) (v := (v2 + (1 : Int32))) (lv' := [(2, .int (v2 + (1 : Int32))), (1, .int (v1 + (0 : Int32))), (0, .ref (ga G k0z))]) hx hb dX2_soldLots_32 hl (k := 2) rfl (congrArg (fun z => v2 + z) (by decide)) (by decide) rfl (fun ls hl => ?_)
        refine lv_goto (pc := 35) (tgt := 4) hx hb dX2_soldLots_35 (by decide) ?_
        exact ih1 _ _ _ _ _ _ hP hS (lv_sub hl [2, 1, 0] rfl) h
      · have h := ineg c4 h
        refine lv_iconst (pc := 25) (v := 1) hx hb dX2_soldLots_25 (by decide) ?_
        refine lv_goto (pc := 26) (tgt := 30) hx hb dX2_soldLots_26 (by decide) ?_
        refine lv_iadd (pc := 30) hx hb dX2_soldLots_30 ?_
        refine lv_istore_n (pc := 31) (lv' := [(1, .int (v1 + (1 : Int32))), (0, .ref (ga G k0z)), (2, .int v2)]) hx hb dX2_soldLots_31 rfl hl (by decide) rfl (fun ls hl => ?_)
        refine lv_iinc (pc := 32) (v := (v2 + (1 : Int32))) (lv' := [(2, .int (v2 + (1 : Int32))), (1, .int (v1 + (1 : Int32))), (0, .ref (ga G k0z))]) hx hb dX2_soldLots_32 hl (k := 2) rfl (congrArg (fun z => v2 + z) (by decide)) (by decide) rfl (fun ls hl => ?_)
        refine lv_goto (pc := 35) (tgt := 4) hx hb dX2_soldLots_35 (by decide) ?_
        exact ih1 _ _ _ _ _ _ hP hS (lv_sub hl [2, 1, 0] rfl) h
set_option maxHeartbeats 4000000 in
set_option maxRecDepth 100000 in
theorem c_X2_soldLots (l : Launch) (G : Gh) {k0 : Nat} {σ : Mem} {rr : Int32} {σr : Mem} (hk0 : kd k0 = 2) (h : f_X2_soldLots k0 σ = some (rr, σr)) : Met l yX2_soldLots [Cond.code yX2_soldLots prog_4_method_17_code 3 (some .int)] RM_X2_soldLots (va_Pc [.ref (ga G k0)] (Pre G σ)) (QG G (some (.int rr)) σr) 0 0 (AA G) := by
  refine ct_of (by decide) (fun p e s m below meth c X hP => ?_)
  have hx := X.hx
  have hb := X.hb
  have hS : va_S (AA G) s.heap s.heap [] := va_S.rf
  have hl := lv_entry ([.ref (ga G k0)]) (n := 3) (Nat.le_of_ble_eq_true rfl)
  rw [lg_entry_eq]
  generalize (lg_sl ([.ref (ga G k0)]) ++ List.replicate (3 - (lg_sl ([.ref (ga G k0)])).length) Slot.unset).toArray = ls at hl ⊢
  have hl : lv_has ls 3 [(0, .ref (ga G k0))] := hl
  unfold f_X2_soldLots at h
  refine lv_iconst (pc := 0) (v := 0) hx hb dX2_soldLots_0 (by decide) ?_
  refine lv_istore_n (pc := 1) (lv' := [(1, .int (0 : Int32)), (0, .ref (ga G k0))]) hx hb dX2_soldLots_1 rfl hl (by decide) rfl (fun ls hl => ?_)
  refine lv_iconst (pc := 2) (v := 0) hx hb dX2_soldLots_2 (by decide) ?_
  refine lv_istore_n (pc := 3) (lv' := [(2, .int (0 : Int32)), (1, .int (0 : Int32)), (0, .ref (ga G k0))]) hx hb dX2_soldLots_3 rfl hl (by decide) rfl (fun ls hl => ?_)
  exact w_X2_soldLots_4 X  hk0  FU _ _ _ _ _ _ hP hS (lv_sub hl [2, 1, 0] rfl) h
def F_X2_lotsSoldTo_4 (k0z : Nat) (p1 : Int32) (rec1 : Int32 → Int32 → Mem → Option (Int32 × Mem)) : Int32 → Int32 → Mem → Option (Int32 × Mem) := fun v2 v3 σ =>
  if (gI σ k0z 1) ≤ v3 then
    some (v2, σ)
  else
    bd1 (ixo (k0z + 1) v3) fun j2 =>
    if (gI σ ((k0z + 1) + 3 + j2) 2) = (0 : Int32) then
      rec1 (v2 + (0 : Int32)) (v3 + (1 : Int32)) σ
    else
      bd1 (ixo (k0z + 1) v3) fun j5 =>
      if (gI σ ((k0z + 1) + 3 + j5) 4) = p1 then
        rec1 (v2 + (1 : Int32)) (v3 + (1 : Int32)) σ
      else
        rec1 (v2 + (0 : Int32)) (v3 + (1 : Int32)) σ
def f_X2_lotsSoldTo (k0 : Nat) (a1 : Int32) (σ : Mem) : Option (Int32 × Mem) :=
  iterF (F_X2_lotsSoldTo_4 k0 a1) (fun _ _ _ => none) FU (0 : Int32) (0 : Int32) σ
abbrev RM_X2_lotsSoldTo : Room := { frames := 0, cells := 0, slots := 0, locals := 0 }
set_option maxHeartbeats 4000000 in
set_option maxRecDepth 100000 in
theorem w_X2_lotsSoldTo_4 {l : Launch} {G : Gh} {p : Program} {e : Env} {s : State} {m : MethodId} {args : Array Value} {below : List Frame} {meth : Method} {c : Code} (X : Cx G p s m args meth c prog_4_method_18_code RX2 4 (some .int)) {k0z : Nat} {p1 : Int32} (hz0 : kd k0z = 2) {rr : Int32} {σr : Mem} : ∀ (n : Nat) (v2 : Int32) (v3 : Int32) (σ : Mem) (H : Heap) (locs : List Loc) (ls : Array Slot), PW G σ H → va_S (AA G) s.heap H locs → lv_has ls 4 [(0, .ref (ga G k0z)), (1, .int p1), (2, .int v2), (3, .int v3)] → iterF (F_X2_lotsSoldTo_4 k0z p1) (fun _ _ _ => none) n v2 v3 σ = some (rr, σr) → W p l e RM_X2_lotsSoldTo s m args below meth c H locs 0 0 (MQ below (QG G (some (.int rr)) σr) args s 0 0 (AA G)) (F0 m 4 ls []) := by
  have hx := X.hx
  have hb := X.hb
  intro n
  induction n with
  | zero => intro v2 v3 σ H locs ls hP hS hl h; exact nnone (α := (Int32 × Mem)) h
  | succ n ih1 =>
    intro v2 v3 σ H locs ls hP hS hl h
    have h : F_X2_lotsSoldTo_4 k0z p1 (iterF (F_X2_lotsSoldTo_4 k0z p1) (fun _ _ _ => none) n) v2 v3 σ = some _ := h
    unfold F_X2_lotsSoldTo_4 at h
    refine lv_iload_n (pc := 4) hx hb dX2_lotsSoldTo_4 rfl (lv_at hl 3 rfl) ?_
    refine lv_aload_n (pc := 5) hx hb dX2_lotsSoldTo_5 rfl (lv_at hl 0 rfl) ?_
    refine gt_X2_17 X hP hz0 dX2_lotsSoldTo_6 ?_
    refine lv_icmp_ge (pc := 9) (tgt := 51) hx hb dX2_lotsSoldTo_9 (by decide) (fun c1 => ?_) (fun c1 => ?_)
    · have h := ipos c1 h
      refine lv_iload_n (pc := 51) hx hb dX2_lotsSoldTo_51 rfl (lv_at hl 2 rfl) ?_
      obtain ⟨rfl, rfl⟩ := inj2 h
      exact r_iret X hP hS dX2_lotsSoldTo_52
    · have h := ineg c1 h
      refine lv_iload_n (pc := 12) hx hb dX2_lotsSoldTo_12 rfl (lv_at hl 2 rfl) ?_
      refine lv_aload_n (pc := 13) hx hb dX2_lotsSoldTo_13 rfl (lv_at hl 0 rfl) ?_
      refine gt_X2_11 X hP hz0 dX2_lotsSoldTo_14 ?_
      refine lv_iload_n (pc := 17) hx hb dX2_lotsSoldTo_17 rfl (lv_at hl 3 rfl) ?_
      obtain ⟨j2, hj3, h⟩ := bnd1 h
      refine r_ald15 (pc := 18) X hP (kf_2_lots hz0).1 hj3 dX2_lotsSoldTo_18 ?_
      refine gt_X2_74 X hP (ke_15 (kf_2_lots hz0).1 hj3) dX2_lotsSoldTo_19 ?_
      refine lv_if_eq (pc := 22) (tgt := 42) hx hb dX2_lotsSoldTo_22 (by decide) (fun c4 => ?_) (fun c4 => ?_)
      · have h := ipos c4 h
        refine lv_iconst (pc := 42) (v := 0) hx hb dX2_lotsSoldTo_42 (by decide) ?_
        refine lv_iadd (pc := 43) hx hb dX2_lotsSoldTo_43 ?_
        refine lv_istore_n (pc := 44) (lv' := [(2, .int (v2 + (0 : Int32))), (0, .ref (ga G k0z)), (1, .int p1), (3, .int v3)]) hx hb dX2_lotsSoldTo_44 rfl hl (by decide) rfl (fun ls hl => ?_)
        refine lv_iinc (pc := 45) (v := (v3 + (1 : Int32))) (lv' := [(3, .int (v3 + (1 : Int32))), (2, .int (v2 + (0 : Int32))), (0, .ref (ga G k0z)), (1, .int p1)]) hx hb dX2_lotsSoldTo_45 hl (k := 3) rfl (congrArg (fun z => v3 + z) (by decide)) (by decide) rfl (fun ls hl => ?_)
        refine lv_goto (pc := 48) (tgt := 4) hx hb dX2_lotsSoldTo_48 (by decide) ?_
        exact ih1 _ _ _ _ _ _ hP hS (lv_sub hl [2, 3, 1, 0] rfl) h
      · have h := ineg c4 h
        refine lv_aload_n (pc := 25) hx hb dX2_lotsSoldTo_25 rfl (lv_at hl 0 rfl) ?_
        refine gt_X2_11 X hP hz0 dX2_lotsSoldTo_26 ?_
        refine lv_iload_n (pc := 29) hx hb dX2_lotsSoldTo_29 rfl (lv_at hl 3 rfl) ?_
        obtain ⟨j5, hj6, h⟩ := bnd1 h
        refine r_ald15 (pc := 30) X hP (kf_2_lots hz0).1 hj6 dX2_lotsSoldTo_30 ?_
        refine gt_X2_149 X hP (ke_15 (kf_2_lots hz0).1 hj6) dX2_lotsSoldTo_31 ?_
        refine lv_iload_n (pc := 34) hx hb dX2_lotsSoldTo_34 rfl (lv_at hl 1 rfl) ?_
        refine lv_icmp_ne (pc := 35) (tgt := 42) hx hb dX2_lotsSoldTo_35 (by decide) (fun c7 => ?_) (fun c7 => ?_)
        · have h := ineg c7 h
          refine lv_iconst (pc := 42) (v := 0) hx hb dX2_lotsSoldTo_42 (by decide) ?_
          refine lv_iadd (pc := 43) hx hb dX2_lotsSoldTo_43 ?_
          refine lv_istore_n (pc := 44) (lv' := [(2, .int (v2 + (0 : Int32))), (0, .ref (ga G k0z)), (1, .int p1), (3, .int v3)]) hx hb dX2_lotsSoldTo_44 rfl hl (by decide) rfl (fun ls hl => ?_)
          refine lv_iinc (pc := 45) (v := (v3 + (1 : Int32))) (lv' := [(3, .int (v3 + (1 : Int32))), (2, .int (v2 + (0 : Int32))), (0, .ref (ga G k0z)), (1, .int p1)]) hx hb dX2_lotsSoldTo_45 hl (k := 3) rfl (congrArg (fun z => v3 + z) (by decide)) (by decide) rfl (fun ls hl => ?_)
          refine lv_goto (pc := 48) (tgt := 4) hx hb dX2_lotsSoldTo_48 (by decide) ?_
          exact ih1 _ _ _ _ _ _ hP hS (lv_sub hl [2, 3, 1, 0] rfl) h
        · have h := ipos c7 h
          refine lv_iconst (pc := 38) (v := 1) hx hb dX2_lotsSoldTo_38 (by decide) ?_
          refine lv_goto (pc := 39) (tgt := 43) hx hb dX2_lotsSoldTo_39 (by decide) ?_
          refine lv_iadd (pc := 43) hx hb dX2_lotsSoldTo_43 ?_
          refine lv_istore_n (pc := 44) (lv' := [(2, .int (v2 + (1 : Int32))), (0, .ref (ga G k0z)), (1, .int p1), (3, .int v3)]) hx hb dX2_lotsSoldTo_44 rfl hl (by decide) rfl (fun ls hl => ?_)
          refine lv_iinc (pc := 45) (v := (v3 + (1 : Int32))) (lv' := [(3, .int (v3 + (1 : Int32))), (2, .int (v2 + (1 : Int32))), (0, .ref (ga G k0z)), (1, .int p1)]) hx hb dX2_lotsSoldTo_45 hl (k := 3) rfl (congrArg (fun z => v3 + z) (by decide)) (by decide) rfl (fun ls hl => ?_)
          refine lv_goto (pc := 48) (tgt := 4) hx hb dX2_lotsSoldTo_48 (by decide) ?_
          exact ih1 _ _ _ _ _ _ hP hS (lv_sub hl [2, 3, 1, 0] rfl) h
set_option maxHeartbeats 4000000 in
set_option maxRecDepth 100000 in
theorem c_X2_lotsSoldTo (l : Launch) (G : Gh) {k0 : Nat} {a1 : Int32} {σ : Mem} {rr : Int32} {σr : Mem} (hk0 : kd k0 = 2) (h : f_X2_lotsSoldTo k0 a1 σ = some (rr, σr)) : Met l yX2_lotsSoldTo [Cond.code yX2_lotsSoldTo prog_4_method_18_code 4 (some .int)] RM_X2_lotsSoldTo (va_Pc [.ref (ga G k0), .int a1] (Pre G σ)) (QG G (some (.int rr)) σr) 0 0 (AA G) := by
  refine ct_of (by decide) (fun p e s m below meth c X hP => ?_)
  have hx := X.hx
  have hb := X.hb
  have hS : va_S (AA G) s.heap s.heap [] := va_S.rf
  have hl := lv_entry ([.ref (ga G k0), .int a1]) (n := 4) (Nat.le_of_ble_eq_true rfl)
  rw [lg_entry_eq]
  generalize (lg_sl ([.ref (ga G k0), .int a1]) ++ List.replicate (4 - (lg_sl ([.ref (ga G k0), .int a1])).length) Slot.unset).toArray = ls at hl ⊢
  have hl : lv_has ls 4 [(0, .ref (ga G k0)), (1, .int a1)] := hl
  unfold f_X2_lotsSoldTo at h
  refine lv_iconst (pc := 0) (v := 0) hx hb dX2_lotsSoldTo_0 (by decide) ?_
  refine lv_istore_n (pc := 1) (lv' := [(2, .int (0 : Int32)), (0, .ref (ga G k0)), (1, .int a1)]) hx hb dX2_lotsSoldTo_1 rfl hl (by decide) rfl (fun ls hl => ?_)
  refine lv_iconst (pc := 2) (v := 0) hx hb dX2_lotsSoldTo_2 (by decide) ?_
  refine lv_istore_n (pc := 3) (lv' := [(3, .int (0 : Int32)), (2, .int (0 : Int32)), (0, .ref (ga G k0)), (1, .int a1)]) hx hb dX2_lotsSoldTo_3 rfl hl (by decide) rfl (fun ls hl => ?_)
  exact w_X2_lotsSoldTo_4 X  hk0  FU _ _ _ _ _ _ hP hS (lv_sub hl [2, 3, 1, 0] rfl) h
def F_X2_allPrices_4 (k0z : Nat) (rec1 : Int32 → Int32 → Mem → Option (Int32 × Mem)) : Int32 → Int32 → Mem → Option (Int32 × Mem) := fun v1 v2 σ =>
  if (gI σ k0z 1) ≤ v2 then
    some (v1, σ)
  else
    bd1 (ixo (k0z + 1) v2) fun j2 =>
    if (gI σ ((k0z + 1) + 3 + j2) 2) = (0 : Int32) then
      rec1 (v1 + (0 : Int32)) (v2 + (1 : Int32)) σ
    else
      bd1 (ixo (k0z + 1) v2) fun j5 =>
      rec1 (v1 + (gI σ ((k0z + 1) + 3 + j5) 3)) (v2 + (1 : Int32)) σ
def f_X2_allPrices (k0 : Nat) (σ : Mem) : Option (Int32 × Mem) :=
  iterF (F_X2_allPrices_4 k0) (fun _ _ _ => none) FU (0 : Int32) (0 : Int32) σ
abbrev RM_X2_allPrices : Room := { frames := 0, cells := 0, slots := 0, locals := 0 }
set_option maxHeartbeats 4000000 in
set_option maxRecDepth 100000 in
theorem w_X2_allPrices_4 {l : Launch} {G : Gh} {p : Program} {e : Env} {s : State} {m : MethodId} {args : Array Value} {below : List Frame} {meth : Method} {c : Code} (X : Cx G p s m args meth c prog_4_method_19_code RX2 3 (some .int)) {k0z : Nat} (hz0 : kd k0z = 2) {rr : Int32} {σr : Mem} : ∀ (n : Nat) (v1 : Int32) (v2 : Int32) (σ : Mem) (H : Heap) (locs : List Loc) (ls : Array Slot), PW G σ H → va_S (AA G) s.heap H locs → lv_has ls 3 [(0, .ref (ga G k0z)), (1, .int v1), (2, .int v2)] → iterF (F_X2_allPrices_4 k0z) (fun _ _ _ => none) n v1 v2 σ = some (rr, σr) → W p l e RM_X2_allPrices s m args below meth c H locs 0 0 (MQ below (QG G (some (.int rr)) σr) args s 0 0 (AA G)) (F0 m 4 ls []) := by
  have hx := X.hx
  have hb := X.hb
  intro n
  induction n with
  | zero => intro v1 v2 σ H locs ls hP hS hl h; exact nnone (α := (Int32 × Mem)) h
  | succ n ih1 =>
    intro v1 v2 σ H locs ls hP hS hl h
    have h : F_X2_allPrices_4 k0z (iterF (F_X2_allPrices_4 k0z) (fun _ _ _ => none) n) v1 v2 σ = some _ := h
    unfold F_X2_allPrices_4 at h
    refine lv_iload_n (pc := 4) hx hb dX2_allPrices_4 rfl (lv_at hl 2 rfl) ?_
    refine lv_aload_n (pc := 5) hx hb dX2_allPrices_5 rfl (lv_at hl 0 rfl) ?_
    refine gt_X2_17 X hP hz0 dX2_allPrices_6 ?_
    refine lv_icmp_ge (pc := 9) (tgt := 46) hx hb dX2_allPrices_9 (by decide) (fun c1 => ?_) (fun c1 => ?_)
    · have h := ipos c1 h
      refine lv_iload_n (pc := 46) hx hb dX2_allPrices_46 rfl (lv_at hl 1 rfl) ?_
      obtain ⟨rfl, rfl⟩ := inj2 h
      exact r_iret X hP hS dX2_allPrices_47
    · have h := ineg c1 h
      refine lv_iload_n (pc := 12) hx hb dX2_allPrices_12 rfl (lv_at hl 1 rfl) ?_
      refine lv_aload_n (pc := 13) hx hb dX2_allPrices_13 rfl (lv_at hl 0 rfl) ?_
      refine gt_X2_11 X hP hz0 dX2_allPrices_14 ?_
      refine lv_iload_n (pc := 17) hx hb dX2_allPrices_17 rfl (lv_at hl 2 rfl) ?_
      obtain ⟨j2, hj3, h⟩ := bnd1 h
      refine r_ald15 (pc := 18) X hP (kf_2_lots hz0).1 hj3 dX2_allPrices_18 ?_
      refine gt_X2_74 X hP (ke_15 (kf_2_lots hz0).1 hj3) dX2_allPrices_19 ?_
      refine lv_if_eq (pc := 22) (tgt := 37) hx hb dX2_allPrices_22 (by decide) (fun c4 => ?_) (fun c4 => ?_)
      · have h := ipos c4 h
        refine lv_iconst (pc := 37) (v := 0) hx hb dX2_allPrices_37 (by decide) ?_
        refine lv_iadd (pc := 38) hx hb dX2_allPrices_38 ?_
        refine lv_istore_n (pc := 39) (lv' := [(1, .int (v1 + (0 : Int32))), (0, .ref (ga G k0z)), (2, .int v2)]) hx hb dX2_allPrices_39 rfl hl (by decide) rfl (fun ls hl => ?_)
        refine lv_iinc (pc := 40) (v := (v2 + (1 : Int32))) (lv' := [(2, .int (v2 + (1 : Int32))), (1, .int (v1 + (0 : Int32))), (0, .ref (ga G k0z))]) hx hb dX2_allPrices_40 hl (k := 2) rfl (congrArg (fun z => v2 + z) (by decide)) (by decide) rfl (fun ls hl => ?_)
        refine lv_goto (pc := 43) (tgt := 4) hx hb dX2_allPrices_43 (by decide) ?_
        exact ih1 _ _ _ _ _ _ hP hS (lv_sub hl [2, 1, 0] rfl) h
      · have h := ineg c4 h
        refine lv_aload_n (pc := 25) hx hb dX2_allPrices_25 rfl (lv_at hl 0 rfl) ?_
        refine gt_X2_11 X hP hz0 dX2_allPrices_26 ?_
        refine lv_iload_n (pc := 29) hx hb dX2_allPrices_29 rfl (lv_at hl 2 rfl) ?_
        obtain ⟨j5, hj6, h⟩ := bnd1 h
        refine r_ald15 (pc := 30) X hP (kf_2_lots hz0).1 hj6 dX2_allPrices_30 ?_
        refine gt_X2_152 X hP (ke_15 (kf_2_lots hz0).1 hj6) dX2_allPrices_31 ?_
        refine lv_goto (pc := 34) (tgt := 38) hx hb dX2_allPrices_34 (by decide) ?_
        refine lv_iadd (pc := 38) hx hb dX2_allPrices_38 ?_
        refine lv_istore_n (pc := 39) (lv' := [(1, .int (v1 + (gI σ ((k0z + 1) + 3 + j5) 3))), (0, .ref (ga G k0z)), (2, .int v2)]) hx hb dX2_allPrices_39 rfl hl (by decide) rfl (fun ls hl => ?_)
        refine lv_iinc (pc := 40) (v := (v2 + (1 : Int32))) (lv' := [(2, .int (v2 + (1 : Int32))), (1, .int (v1 + (gI σ ((k0z + 1) + 3 + j5) 3))), (0, .ref (ga G k0z))]) hx hb dX2_allPrices_40 hl (k := 2) rfl (congrArg (fun z => v2 + z) (by decide)) (by decide) rfl (fun ls hl => ?_)
        refine lv_goto (pc := 43) (tgt := 4) hx hb dX2_allPrices_43 (by decide) ?_
        exact ih1 _ _ _ _ _ _ hP hS (lv_sub hl [2, 1, 0] rfl) h
set_option maxHeartbeats 4000000 in
set_option maxRecDepth 100000 in
theorem c_X2_allPrices (l : Launch) (G : Gh) {k0 : Nat} {σ : Mem} {rr : Int32} {σr : Mem} (hk0 : kd k0 = 2) (h : f_X2_allPrices k0 σ = some (rr, σr)) : Met l yX2_allPrices [Cond.code yX2_allPrices prog_4_method_19_code 3 (some .int)] RM_X2_allPrices (va_Pc [.ref (ga G k0)] (Pre G σ)) (QG G (some (.int rr)) σr) 0 0 (AA G) := by
  refine ct_of (by decide) (fun p e s m below meth c X hP => ?_)
  have hx := X.hx
  have hb := X.hb
  have hS : va_S (AA G) s.heap s.heap [] := va_S.rf
  have hl := lv_entry ([.ref (ga G k0)]) (n := 3) (Nat.le_of_ble_eq_true rfl)
  rw [lg_entry_eq]
  generalize (lg_sl ([.ref (ga G k0)]) ++ List.replicate (3 - (lg_sl ([.ref (ga G k0)])).length) Slot.unset).toArray = ls at hl ⊢
  have hl : lv_has ls 3 [(0, .ref (ga G k0))] := hl
  unfold f_X2_allPrices at h
  refine lv_iconst (pc := 0) (v := 0) hx hb dX2_allPrices_0 (by decide) ?_
  refine lv_istore_n (pc := 1) (lv' := [(1, .int (0 : Int32)), (0, .ref (ga G k0))]) hx hb dX2_allPrices_1 rfl hl (by decide) rfl (fun ls hl => ?_)
  refine lv_iconst (pc := 2) (v := 0) hx hb dX2_allPrices_2 (by decide) ?_
  refine lv_istore_n (pc := 3) (lv' := [(2, .int (0 : Int32)), (1, .int (0 : Int32)), (0, .ref (ga G k0))]) hx hb dX2_allPrices_3 rfl hl (by decide) rfl (fun ls hl => ?_)
  exact w_X2_allPrices_4 X  hk0  FU _ _ _ _ _ _ hP hS (lv_sub hl [2, 1, 0] rfl) h
def F_X2_allPurses_4 (k0z : Nat) (rec1 : Int32 → Int32 → Mem → Option (Int32 × Mem)) : Int32 → Int32 → Mem → Option (Int32 × Mem) := fun v1 v2 σ =>
  if (gI σ k0z 3) ≤ v2 then
    some (v1, σ)
  else
    bd1 (ixo (k0z + 2) v2) fun j2 =>
    rec1 (v1 + (gI σ ((k0z + 2) + 7 + j2) 3)) (v2 + (1 : Int32)) σ
def f_X2_allPurses (k0 : Nat) (σ : Mem) : Option (Int32 × Mem) :=
  iterF (F_X2_allPurses_4 k0) (fun _ _ _ => none) FU (0 : Int32) (0 : Int32) σ
abbrev RM_X2_allPurses : Room := { frames := 0, cells := 0, slots := 0, locals := 0 }
set_option maxHeartbeats 4000000 in
set_option maxRecDepth 100000 in
theorem w_X2_allPurses_4 {l : Launch} {G : Gh} {p : Program} {e : Env} {s : State} {m : MethodId} {args : Array Value} {below : List Frame} {meth : Method} {c : Code} (X : Cx G p s m args meth c prog_4_method_20_code RX2 3 (some .int)) {k0z : Nat} (hz0 : kd k0z = 2) {rr : Int32} {σr : Mem} : ∀ (n : Nat) (v1 : Int32) (v2 : Int32) (σ : Mem) (H : Heap) (locs : List Loc) (ls : Array Slot), PW G σ H → va_S (AA G) s.heap H locs → lv_has ls 3 [(0, .ref (ga G k0z)), (1, .int v1), (2, .int v2)] → iterF (F_X2_allPurses_4 k0z) (fun _ _ _ => none) n v1 v2 σ = some (rr, σr) → W p l e RM_X2_allPurses s m args below meth c H locs 0 0 (MQ below (QG G (some (.int rr)) σr) args s 0 0 (AA G)) (F0 m 4 ls []) := by
  have hx := X.hx
  have hb := X.hb
  intro n
  induction n with
  | zero => intro v1 v2 σ H locs ls hP hS hl h; exact nnone (α := (Int32 × Mem)) h
  | succ n ih1 =>
    intro v1 v2 σ H locs ls hP hS hl h
    have h : F_X2_allPurses_4 k0z (iterF (F_X2_allPurses_4 k0z) (fun _ _ _ => none) n) v1 v2 σ = some _ := h
    unfold F_X2_allPurses_4 at h
    refine lv_iload_n (pc := 4) hx hb dX2_allPurses_4 rfl (lv_at hl 2 rfl) ?_
    refine lv_aload_n (pc := 5) hx hb dX2_allPurses_5 rfl (lv_at hl 0 rfl) ?_
    refine gt_X2_27 X hP hz0 dX2_allPurses_6 ?_
    refine lv_icmp_ge (pc := 9) (tgt := 30) hx hb dX2_allPurses_9 (by decide) (fun c1 => ?_) (fun c1 => ?_)
    · have h := ipos c1 h
      refine lv_iload_n (pc := 30) hx hb dX2_allPurses_30 rfl (lv_at hl 1 rfl) ?_
      obtain ⟨rfl, rfl⟩ := inj2 h
      exact r_iret X hP hS dX2_allPurses_31
    · have h := ineg c1 h
      refine lv_iload_n (pc := 12) hx hb dX2_allPurses_12 rfl (lv_at hl 1 rfl) ?_
      refine lv_aload_n (pc := 13) hx hb dX2_allPurses_13 rfl (lv_at hl 0 rfl) ?_
      refine gt_X2_23 X hP hz0 dX2_allPurses_14 ?_
      refine lv_iload_n (pc := 17) hx hb dX2_allPurses_17 rfl (lv_at hl 2 rfl) ?_
      obtain ⟨j2, hj3, h⟩ := bnd1 h
      refine r_ald14 (pc := 18) X hP (kf_2_bidders hz0).1 hj3 dX2_allPurses_18 ?_
      refine gt_X2_143 X hP (ke_14 (kf_2_bidders hz0).1 hj3) dX2_allPurses_19 ?_
      refine lv_iadd (pc := 22) hx hb dX2_allPurses_22 ?_
      refine lv_istore_n (pc := 23) (lv' := [(1, .int (v1 + (gI σ ((k0z + 2) + 7 + j2) 3))), (0, .ref (ga G k0z)), (2, .int v2)]) hx hb dX2_allPurses_23 rfl hl (by decide) rfl (fun ls hl => ?_)
      refine lv_iinc (pc := 24) (v := (v2 + (1 : Int32))) (lv' := [(2, .int (v2 + (1 : Int32))), (1, .int (v1 + (gI σ ((k0z + 2) + 7 + j2) 3))), (0, .ref (ga G k0z))]) hx hb dX2_allPurses_24 hl (k := 2) rfl (congrArg (fun z => v2 + z) (by decide)) (by decide) rfl (fun ls hl => ?_)
      refine lv_goto (pc := 27) (tgt := 4) hx hb dX2_allPurses_27 (by decide) ?_
      exact ih1 _ _ _ _ _ _ hP hS (lv_sub hl [2, 1, 0] rfl) h
set_option maxHeartbeats 4000000 in
set_option maxRecDepth 100000 in
theorem c_X2_allPurses (l : Launch) (G : Gh) {k0 : Nat} {σ : Mem} {rr : Int32} {σr : Mem} (hk0 : kd k0 = 2) (h : f_X2_allPurses k0 σ = some (rr, σr)) : Met l yX2_allPurses [Cond.code yX2_allPurses prog_4_method_20_code 3 (some .int)] RM_X2_allPurses (va_Pc [.ref (ga G k0)] (Pre G σ)) (QG G (some (.int rr)) σr) 0 0 (AA G) := by
  refine ct_of (by decide) (fun p e s m below meth c X hP => ?_)
  have hx := X.hx
  have hb := X.hb
  have hS : va_S (AA G) s.heap s.heap [] := va_S.rf
  have hl := lv_entry ([.ref (ga G k0)]) (n := 3) (Nat.le_of_ble_eq_true rfl)
  rw [lg_entry_eq]
  generalize (lg_sl ([.ref (ga G k0)]) ++ List.replicate (3 - (lg_sl ([.ref (ga G k0)])).length) Slot.unset).toArray = ls at hl ⊢
  have hl : lv_has ls 3 [(0, .ref (ga G k0))] := hl
  unfold f_X2_allPurses at h
  refine lv_iconst (pc := 0) (v := 0) hx hb dX2_allPurses_0 (by decide) ?_
  refine lv_istore_n (pc := 1) (lv' := [(1, .int (0 : Int32)), (0, .ref (ga G k0))]) hx hb dX2_allPurses_1 rfl hl (by decide) rfl (fun ls hl => ?_)
  refine lv_iconst (pc := 2) (v := 0) hx hb dX2_allPurses_2 (by decide) ?_
  refine lv_istore_n (pc := 3) (lv' := [(2, .int (0 : Int32)), (1, .int (0 : Int32)), (0, .ref (ga G k0))]) hx hb dX2_allPurses_3 rfl hl (by decide) rfl (fun ls hl => ?_)
  exact w_X2_allPurses_4 X  hk0  FU _ _ _ _ _ _ hP hS (lv_sub hl [2, 1, 0] rfl) h
def F_X2_bidderOfMost_8 (k0z : Nat) (p1 : Int32) (rec1 : Int32 → Int32 → Int32 → Mem → Option (Int32 × Mem)) : Int32 → Int32 → Int32 → Mem → Option (Int32 × Mem) := fun v2 v3 v4 σ =>
  if (gI σ k0z 3) ≤ v4 then
    some (v2, σ)
  else
    bd1 (ixo (k0z + 2) v4) fun j2 =>
    bd2 (f_X0_limitFor ((k0z + 2) + 7 + j2) p1 σ) fun r6 σ4 =>
    if r6 ≤ v3 then
      rec1 v2 v3 (v4 + (1 : Int32)) σ4
    else
      rec1 v4 r6 (v4 + (1 : Int32)) σ4
def f_X2_bidderOfMost (k0 : Nat) (a1 : Int32) (σ : Mem) : Option (Int32 × Mem) :=
  iterF (F_X2_bidderOfMost_8 k0 a1) (fun _ _ _ _ => none) FU (-3 : Int32) (-1 : Int32) (0 : Int32) σ
abbrev RM_X2_bidderOfMost : Room := { frames := 2, cells := 0, slots := 0, locals := 43 }
set_option maxHeartbeats 4000000 in
set_option maxRecDepth 100000 in
theorem w_X2_bidderOfMost_8 {l : Launch} {G : Gh} {p : Program} {e : Env} {s : State} {m : MethodId} {args : Array Value} {below : List Frame} {meth : Method} {c : Code} (X : Cx G p s m args meth c prog_4_method_21_code RX2 6 (some .int)) {k0z : Nat} {p1 : Int32} (hz0 : kd k0z = 2) {rr : Int32} {σr : Mem} : ∀ (n : Nat) (v2 : Int32) (v3 : Int32) (v4 : Int32) (σ : Mem) (H : Heap) (locs : List Loc) (ls : Array Slot), PW G σ H → va_S (AA G) s.heap H locs → lv_has ls 6 [(0, .ref (ga G k0z)), (1, .int p1), (2, .int v2), (3, .int v3), (4, .int v4)] → iterF (F_X2_bidderOfMost_8 k0z p1) (fun _ _ _ _ => none) n v2 v3 v4 σ = some (rr, σr) → W p l e RM_X2_bidderOfMost s m args below meth c H locs 0 0 (MQ below (QG G (some (.int rr)) σr) args s 0 0 (AA G)) (F0 m 8 ls []) := by
  have hx := X.hx
  have hb := X.hb
  intro n
  induction n with
  | zero => intro v2 v3 v4 σ H locs ls hP hS hl h; exact nnone (α := (Int32 × Mem)) h
  | succ n ih1 =>
    intro v2 v3 v4 σ H locs ls hP hS hl h
    have h : F_X2_bidderOfMost_8 k0z p1 (iterF (F_X2_bidderOfMost_8 k0z p1) (fun _ _ _ _ => none) n) v2 v3 v4 σ = some _ := h
    unfold F_X2_bidderOfMost_8 at h
    refine lv_iload (pc := 8) hx hb dX2_bidderOfMost_8 (lv_at hl 4 rfl) ?_
    refine lv_aload_n (pc := 10) hx hb dX2_bidderOfMost_10 rfl (lv_at hl 0 rfl) ?_
    refine gt_X2_27 X hP hz0 dX2_bidderOfMost_11 ?_
    refine lv_icmp_ge (pc := 14) (tgt := 48) hx hb dX2_bidderOfMost_14 (by decide) (fun c1 => ?_) (fun c1 => ?_)
    · have h := ipos c1 h
      refine lv_iload_n (pc := 48) hx hb dX2_bidderOfMost_48 rfl (lv_at hl 2 rfl) ?_
      obtain ⟨rfl, rfl⟩ := inj2 h
      exact r_iret X hP hS dX2_bidderOfMost_49
    · have h := ineg c1 h
      refine lv_aload_n (pc := 17) hx hb dX2_bidderOfMost_17 rfl (lv_at hl 0 rfl) ?_
      refine gt_X2_23 X hP hz0 dX2_bidderOfMost_18 ?_
      refine lv_iload (pc := 21) hx hb dX2_bidderOfMost_21 (lv_at hl 4 rfl) ?_
      obtain ⟨j2, hj3, h⟩ := bnd1 h
      refine r_ald14 (pc := 23) X hP (kf_2_bidders hz0).1 hj3 dX2_bidderOfMost_23 ?_
      refine lv_iload_n (pc := 24) hx hb dX2_bidderOfMost_24 rfl (lv_at hl 1 rfl) ?_
      obtain ⟨r6, σ4, e5, h⟩ := bnd2 h
      refine cl_X2_117 X hP hS (ke_14 (kf_2_bidders hz0).1 hj3) (As := [.int p1]) (rest := []) (c_X0_limitFor l G (ke_14 (kf_2_bidders hz0).1 hj3) e5) ⟨rfl, rfl, Nat.le_of_ble_eq_true rfl, Nat.le_of_ble_eq_true rfl⟩ rfl hl.1 rfl (Nat.le_of_ble_eq_true rfl) ⟨Nat.zero_le _, Nat.zero_le _⟩ (pc := 25) dX2_bidderOfMost_25 (fun H locs hP hS => ?_)
      change W p l e _ s m _ below meth c H locs _ _ _ (F0 m (25 + 3) ls (.int r6 :: []))
      refine lv_istore (pc := 28) (lv' := [(5, .int r6), (0, .ref (ga G k0z)), (1, .int p1), (2, .int v2), (3, .int v3), (4, .int v4)]) hx hb dX2_bidderOfMost_28 hl (by decide) rfl (fun ls hl => ?_)
      refine lv_iload (pc := 30) hx hb dX2_bidderOfMost_30 (lv_at hl 0 rfl) ?_
      refine lv_iload_n (pc := 32) hx hb dX2_bidderOfMost_32 rfl (lv_at hl 4 rfl) ?_
      refine lv_icmp_le (pc := 33) (tgt := 42) hx hb dX2_bidderOfMost_33 (by decide) (fun c7 => ?_) (fun c7 => ?_)
      · have h := ipos c7 h
        refine lv_iinc (pc := 42) (v := (v4 + (1 : Int32))) (lv' := [(4, .int (v4 + (1 : Int32))), (5, .int r6), (0, .ref (ga G k0z)), (1, .int p1), (2, .int v2), (3, .int v3)]) hx hb dX2_bidderOfMost_42 hl (k := 5) rfl (congrArg (fun z => v4 + z) (by decide)) (by decide) rfl (fun ls hl => ?_)
        refine lv_goto (pc := 45) (tgt := 8) hx hb dX2_bidderOfMost_45 (by decide) ?_
        exact ih1 _ _ _ _ _ _ _ hP hS (lv_sub hl [2, 3, 4, 5, 0] rfl) h
      · have h := ineg c7 h
        refine lv_iload (pc := 36) hx hb dX2_bidderOfMost_36 (lv_at hl 5 rfl) ?_
        refine lv_istore_n (pc := 38) (lv' := [(2, .int v4), (5, .int r6), (0, .ref (ga G k0z)), (1, .int p1), (3, .int v3), (4, .int v4)]) hx hb dX2_bidderOfMost_38 rfl hl (by decide) rfl (fun ls hl => ?_)
        refine lv_iload (pc := 39) hx hb dX2_bidderOfMost_39 (lv_at hl 1 rfl) ?_
        refine lv_istore_n (pc := 41) (lv' := [(3, .int r6), (2, .int v4), (5, .int r6), (0, .ref (ga G k0z)), (1, .int p1), (4, .int v4)]) hx hb dX2_bidderOfMost_41 rfl hl (by decide) rfl (fun ls hl => ?_)
        refine lv_iinc (pc := 42) (v := (v4 + (1 : Int32))) (lv' := [(4, .int (v4 + (1 : Int32))), (3, .int r6), (2, .int v4), (5, .int r6), (0, .ref (ga G k0z)), (1, .int p1)]) hx hb dX2_bidderOfMost_42 hl (k := 5) rfl (congrArg (fun z => v4 + z) (by decide)) (by decide) rfl (fun ls hl => ?_)
        refine lv_goto (pc := 45) (tgt := 8) hx hb dX2_bidderOfMost_45 (by decide) ?_
        exact ih1 _ _ _ _ _ _ _ hP hS (lv_sub hl [4, 5, 2, 1, 0] rfl) h
set_option maxHeartbeats 4000000 in
set_option maxRecDepth 100000 in
theorem c_X2_bidderOfMost (l : Launch) (G : Gh) {k0 : Nat} {a1 : Int32} {σ : Mem} {rr : Int32} {σr : Mem} (hk0 : kd k0 = 2) (h : f_X2_bidderOfMost k0 a1 σ = some (rr, σr)) : Met l yX2_bidderOfMost [Cond.code yX2_bidderOfMost prog_4_method_21_code 6 (some .int)] RM_X2_bidderOfMost (va_Pc [.ref (ga G k0), .int a1] (Pre G σ)) (QG G (some (.int rr)) σr) 0 0 (AA G) := by
  refine ct_of (by decide) (fun p e s m below meth c X hP => ?_)
  have hx := X.hx
  have hb := X.hb
  have hS : va_S (AA G) s.heap s.heap [] := va_S.rf
  have hl := lv_entry ([.ref (ga G k0), .int a1]) (n := 6) (Nat.le_of_ble_eq_true rfl)
  rw [lg_entry_eq]
  generalize (lg_sl ([.ref (ga G k0), .int a1]) ++ List.replicate (6 - (lg_sl ([.ref (ga G k0), .int a1])).length) Slot.unset).toArray = ls at hl ⊢
  have hl : lv_has ls 6 [(0, .ref (ga G k0)), (1, .int a1)] := hl
  unfold f_X2_bidderOfMost at h
  refine lv_bipush (pc := 0) (v := (-3)) hx hb dX2_bidderOfMost_0 (by decide) ?_
  refine lv_istore_n (pc := 2) (lv' := [(2, .int (-3 : Int32)), (0, .ref (ga G k0)), (1, .int a1)]) hx hb dX2_bidderOfMost_2 rfl hl (by decide) rfl (fun ls hl => ?_)
  refine lv_iconst (pc := 3) (v := (-1)) hx hb dX2_bidderOfMost_3 (by decide) ?_
  refine lv_istore_n (pc := 4) (lv' := [(3, .int (-1 : Int32)), (2, .int (-3 : Int32)), (0, .ref (ga G k0)), (1, .int a1)]) hx hb dX2_bidderOfMost_4 rfl hl (by decide) rfl (fun ls hl => ?_)
  refine lv_iconst (pc := 5) (v := 0) hx hb dX2_bidderOfMost_5 (by decide) ?_
  refine lv_istore (pc := 6) (lv' := [(4, .int (0 : Int32)), (3, .int (-1 : Int32)), (2, .int (-3 : Int32)), (0, .ref (ga G k0)), (1, .int a1)]) hx hb dX2_bidderOfMost_6 hl (by decide) rfl (fun ls hl => ?_)
  exact w_X2_bidderOfMost_8 X  hk0  FU _ _ _ _ _ _ _ hP hS (lv_sub hl [3, 4, 2, 1, 0] rfl) h
def f_X4_clear (k0 : Nat) (σ : Mem) : Option Mem :=
  bd1 (some (pI σ k0 1 (0 : Int32))) fun σ1 =>
  some σ1
abbrev RM_X4_clear : Room := { frames := 0, cells := 0, slots := 0, locals := 0 }
set_option maxHeartbeats 4000000 in
set_option maxRecDepth 100000 in
theorem c_X4_clear (l : Launch) (G : Gh) {k0 : Nat} {σ : Mem} {σr : Mem} (hk0 : kd k0 = 4) (h : f_X4_clear k0 σ = some σr) : Met l yX4_clear [Cond.code yX4_clear prog_6_method_2_code 1 none] RM_X4_clear (va_Pc [.ref (ga G k0)] (Pre G σ)) (QG G none σr) 0 0 (AA G) := by
  refine ct_of (by decide) (fun p e s m below meth c X hP => ?_)
  have hx := X.hx
  have hb := X.hb
  have hS : va_S (AA G) s.heap s.heap [] := va_S.rf
  have hl := lv_entry ([.ref (ga G k0)]) (n := 1) (Nat.le_of_ble_eq_true rfl)
  rw [lg_entry_eq]
  generalize (lg_sl ([.ref (ga G k0)]) ++ List.replicate (1 - (lg_sl ([.ref (ga G k0)])).length) Slot.unset).toArray = ls at hl ⊢
  have hl : lv_has ls 1 [(0, .ref (ga G k0))] := hl
  unfold f_X4_clear at h
  refine lv_aload_n (pc := 0) hx hb dX4_clear_0 rfl (lv_at hl 0 rfl) ?_
  refine lv_iconst (pc := 1) (v := 0) hx hb dX4_clear_1 (by decide) ?_
  obtain ⟨σ1, e2, h⟩ := bnd1 h
  refine pt_X4_15 X hP hS hk0 dX4_clear_2 (fun H locs hP hS => ?_)
  rw [Option.some.inj e2] at hP
  obtain rfl := Option.some.inj h
  exact r_vret X hP hS dX4_clear_5
def f_X9_within (a0 : Int32) (a1 : Int32) (a2 : Int32) (σ : Mem) : Option (Int32 × Mem) :=
  if a0 < a1 then
    some ((0 : Int32), σ)
  else
    if a2 < a0 then
      some ((0 : Int32), σ)
    else
      some ((1 : Int32), σ)
abbrev RM_X9_within : Room := { frames := 0, cells := 0, slots := 0, locals := 0 }
set_option maxHeartbeats 4000000 in
set_option maxRecDepth 100000 in
theorem c_X9_within (l : Launch) (G : Gh) {a0 : Int32} {a1 : Int32} {a2 : Int32} {σ : Mem} {rr : Int32} {σr : Mem} (h : f_X9_within a0 a1 a2 σ = some (rr, σr)) : Met l yX9_within [Cond.code yX9_within prog_1_method_49_code 3 (some .boolean)] RM_X9_within (va_Pc [.int a0, .int a1, .int a2] (Pre G σ)) (QG G (some (.int rr)) σr) 0 0 (AA G) := by
  refine ct_of (by decide) (fun p e s m below meth c X hP => ?_)
  have hx := X.hx
  have hb := X.hb
  have hS : va_S (AA G) s.heap s.heap [] := va_S.rf
  have hl := lv_entry ([.int a0, .int a1, .int a2]) (n := 3) (Nat.le_of_ble_eq_true rfl)
  rw [lg_entry_eq]
  generalize (lg_sl ([.int a0, .int a1, .int a2]) ++ List.replicate (3 - (lg_sl ([.int a0, .int a1, .int a2])).length) Slot.unset).toArray = ls at hl ⊢
  have hl : lv_has ls 3 [(0, .int a0), (1, .int a1), (2, .int a2)] := hl
  unfold f_X9_within at h
  refine lv_iload_n (pc := 0) hx hb dX9_within_0 rfl (lv_at hl 0 rfl) ?_
  refine lv_iload_n (pc := 1) hx hb dX9_within_1 rfl (lv_at hl 1 rfl) ?_
  refine lv_icmp_lt (pc := 2) (tgt := 14) hx hb dX9_within_2 (by decide) (fun c1 => ?_) (fun c1 => ?_)
  · have h := ipos c1 h
    refine lv_iconst (pc := 14) (v := 0) hx hb dX9_within_14 (by decide) ?_
    obtain ⟨rfl, rfl⟩ := inj2 h
    exact r_zret X hP hS (by decide) dX9_within_15
  · have h := ineg c1 h
    refine lv_iload_n (pc := 5) hx hb dX9_within_5 rfl (lv_at hl 0 rfl) ?_
    refine lv_iload_n (pc := 6) hx hb dX9_within_6 rfl (lv_at hl 2 rfl) ?_
    refine lv_icmp_gt (pc := 7) (tgt := 14) hx hb dX9_within_7 (by decide) (fun c2 => ?_) (fun c2 => ?_)
    · have h := ipos c2 h
      refine lv_iconst (pc := 14) (v := 0) hx hb dX9_within_14 (by decide) ?_
      obtain ⟨rfl, rfl⟩ := inj2 h
      exact r_zret X hP hS (by decide) dX9_within_15
    · have h := ineg c2 h
      refine lv_iconst (pc := 10) (v := 1) hx hb dX9_within_10 (by decide) ?_
      refine lv_goto (pc := 11) (tgt := 15) hx hb dX9_within_11 (by decide) ?_
      obtain ⟨rfl, rfl⟩ := inj2 h
      exact r_zret X hP hS (by decide) dX9_within_15
def f_X4_has (k0 : Nat) (a1 : Int32) (a2 : Int32) (σ : Mem) : Option (Int32 × Mem) :=
  bd2 (f_X9_within a1 (0 : Int32) ((gI σ k0 1) - (1 : Int32)) σ) fun r3 σ1 =>
  if r3 = (0 : Int32) then
    some ((0 : Int32), σ1)
  else
    bd2 (f_X9_within a2 (0 : Int32) (2 : Int32) σ1) fun r7 σ5 =>
    if r7 = (0 : Int32) then
      some ((0 : Int32), σ5)
    else
      some ((1 : Int32), σ5)
abbrev RM_X4_has : Room := { frames := 1, cells := 0, slots := 0, locals := 22 }
set_option maxHeartbeats 4000000 in
set_option maxRecDepth 100000 in
theorem c_X4_has (l : Launch) (G : Gh) {k0 : Nat} {a1 : Int32} {a2 : Int32} {σ : Mem} {rr : Int32} {σr : Mem} (hk0 : kd k0 = 4) (h : f_X4_has k0 a1 a2 σ = some (rr, σr)) : Met l yX4_has [Cond.code yX4_has prog_6_method_4_code 3 (some .boolean)] RM_X4_has (va_Pc [.ref (ga G k0), .int a1, .int a2] (Pre G σ)) (QG G (some (.int rr)) σr) 0 0 (AA G) := by
  refine ct_of (by decide) (fun p e s m below meth c X hP => ?_)
  have hx := X.hx
  have hb := X.hb
  have hS : va_S (AA G) s.heap s.heap [] := va_S.rf
  have hl := lv_entry ([.ref (ga G k0), .int a1, .int a2]) (n := 3) (Nat.le_of_ble_eq_true rfl)
  rw [lg_entry_eq]
  generalize (lg_sl ([.ref (ga G k0), .int a1, .int a2]) ++ List.replicate (3 - (lg_sl ([.ref (ga G k0), .int a1, .int a2])).length) Slot.unset).toArray = ls at hl ⊢
  have hl : lv_has ls 3 [(0, .ref (ga G k0)), (1, .int a1), (2, .int a2)] := hl
  unfold f_X4_has at h
  refine lv_iload_n (pc := 0) hx hb dX4_has_0 rfl (lv_at hl 1 rfl) ?_
  refine lv_iconst (pc := 1) (v := 0) hx hb dX4_has_1 (by decide) ?_
  refine lv_aload_n (pc := 2) hx hb dX4_has_2 rfl (lv_at hl 0 rfl) ?_
  refine gt_X4_15 X hP hk0 dX4_has_3 ?_
  refine lv_iconst (pc := 6) (v := 1) hx hb dX4_has_6 (by decide) ?_
  refine lv_isub (pc := 7) hx hb dX4_has_7 ?_
  obtain ⟨r3, σ1, e2, h⟩ := bnd2 h
  refine cl_X4_19 X hP hS (As := [.int a1, .int (0 : Int32), .int ((gI σ k0 1) - (1 : Int32))]) (rest := []) (c_X9_within l G  e2) ⟨rfl, rfl, Nat.le_of_ble_eq_true rfl, Nat.le_of_ble_eq_true rfl⟩ rfl hl.1 rfl (Nat.le_of_ble_eq_true rfl) ⟨Nat.zero_le _, Nat.zero_le _⟩ (pc := 8) dX4_has_8 (fun H locs hP hS => ?_)
  change W p l e _ s m _ below meth c H locs _ _ _ (F0 m (8 + 3) ls (.int r3 :: []))
  refine lv_if_eq (pc := 11) (tgt := 27) hx hb dX4_has_11 (by decide) (fun c4 => ?_) (fun c4 => ?_)
  · have h := ipos c4 h
    refine lv_iconst (pc := 27) (v := 0) hx hb dX4_has_27 (by decide) ?_
    obtain ⟨rfl, rfl⟩ := inj2 h
    exact r_zret X hP hS (by decide) dX4_has_28
  · have h := ineg c4 h
    refine lv_iload_n (pc := 14) hx hb dX4_has_14 rfl (lv_at hl 2 rfl) ?_
    refine lv_iconst (pc := 15) (v := 0) hx hb dX4_has_15 (by decide) ?_
    refine lv_iconst (pc := 16) (v := 2) hx hb dX4_has_16 (by decide) ?_
    obtain ⟨r7, σ5, e6, h⟩ := bnd2 h
    refine cl_X4_19 X hP hS (As := [.int a2, .int (0 : Int32), .int (2 : Int32)]) (rest := []) (c_X9_within l G  e6) ⟨rfl, rfl, Nat.le_of_ble_eq_true rfl, Nat.le_of_ble_eq_true rfl⟩ rfl hl.1 rfl (Nat.le_of_ble_eq_true rfl) ⟨Nat.zero_le _, Nat.zero_le _⟩ (pc := 17) dX4_has_17 (fun H locs hP hS => ?_)
    change W p l e _ s m _ below meth c H locs _ _ _ (F0 m (17 + 3) ls (.int r7 :: []))
    refine lv_if_eq (pc := 20) (tgt := 27) hx hb dX4_has_20 (by decide) (fun c8 => ?_) (fun c8 => ?_)
    · have h := ipos c8 h
      refine lv_iconst (pc := 27) (v := 0) hx hb dX4_has_27 (by decide) ?_
      obtain ⟨rfl, rfl⟩ := inj2 h
      exact r_zret X hP hS (by decide) dX4_has_28
    · have h := ineg c8 h
      refine lv_iconst (pc := 23) (v := 1) hx hb dX4_has_23 (by decide) ?_
      refine lv_goto (pc := 24) (tgt := 28) hx hb dX4_has_24 (by decide) ?_
      obtain ⟨rfl, rfl⟩ := inj2 h
      exact r_zret X hP hS (by decide) dX4_has_28
def f_X4_cell (k0 : Nat) (a1 : Int32) (a2 : Int32) (σ : Mem) : Option (Int32 × Mem) :=
  bd2 (f_X4_has k0 a1 a2 σ) fun r3 σ1 =>
  if r3 = (0 : Int32) then
    some ((-9 : Int32), σ1)
  else
    bd1 (ixo (k0 + 1) ((a1 * (3 : Int32)) + a2)) fun j5 =>
    some ((gI σ1 (k0 + 1) j5), σ1)
abbrev RM_X4_cell : Room := { frames := 2, cells := 0, slots := 0, locals := 44 }
set_option maxHeartbeats 4000000 in
set_option maxRecDepth 100000 in
theorem c_X4_cell (l : Launch) (G : Gh) {k0 : Nat} {a1 : Int32} {a2 : Int32} {σ : Mem} {rr : Int32} {σr : Mem} (hk0 : kd k0 = 4) (h : f_X4_cell k0 a1 a2 σ = some (rr, σr)) : Met l yX4_cell [Cond.code yX4_cell prog_6_method_5_code 3 (some .int)] RM_X4_cell (va_Pc [.ref (ga G k0), .int a1, .int a2] (Pre G σ)) (QG G (some (.int rr)) σr) 0 0 (AA G) := by
  refine ct_of (by decide) (fun p e s m below meth c X hP => ?_)
  have hx := X.hx
  have hb := X.hb
  have hS : va_S (AA G) s.heap s.heap [] := va_S.rf
  have hl := lv_entry ([.ref (ga G k0), .int a1, .int a2]) (n := 3) (Nat.le_of_ble_eq_true rfl)
  rw [lg_entry_eq]
  generalize (lg_sl ([.ref (ga G k0), .int a1, .int a2]) ++ List.replicate (3 - (lg_sl ([.ref (ga G k0), .int a1, .int a2])).length) Slot.unset).toArray = ls at hl ⊢
  have hl : lv_has ls 3 [(0, .ref (ga G k0)), (1, .int a1), (2, .int a2)] := hl
  unfold f_X4_cell at h
  refine lv_aload_n (pc := 0) hx hb dX4_cell_0 rfl (lv_at hl 0 rfl) ?_
  refine lv_iload_n (pc := 1) hx hb dX4_cell_1 rfl (lv_at hl 1 rfl) ?_
  refine lv_iload_n (pc := 2) hx hb dX4_cell_2 rfl (lv_at hl 2 rfl) ?_
  obtain ⟨r3, σ1, e2, h⟩ := bnd2 h
  refine cl_X4_23 X hP hS hk0 (As := [.int a1, .int a2]) (rest := []) (c_X4_has l G hk0 e2) ⟨rfl, rfl, Nat.le_of_ble_eq_true rfl, Nat.le_of_ble_eq_true rfl⟩ rfl hl.1 rfl (Nat.le_of_ble_eq_true rfl) ⟨Nat.zero_le _, Nat.zero_le _⟩ (pc := 3) dX4_cell_3 (fun H locs hP hS => ?_)
  change W p l e _ s m _ below meth c H locs _ _ _ (F0 m (3 + 3) ls (.int r3 :: []))
  refine lv_if_eq (pc := 6) (tgt := 22) hx hb dX4_cell_6 (by decide) (fun c4 => ?_) (fun c4 => ?_)
  · have h := ipos c4 h
    refine lv_bipush (pc := 22) (v := (-9)) hx hb dX4_cell_22 (by decide) ?_
    obtain ⟨rfl, rfl⟩ := inj2 h
    exact r_iret X hP hS dX4_cell_24
  · have h := ineg c4 h
    refine lv_aload_n (pc := 9) hx hb dX4_cell_9 rfl (lv_at hl 0 rfl) ?_
    refine gt_X4_11 X hP hk0 dX4_cell_10 ?_
    refine lv_iload_n (pc := 13) hx hb dX4_cell_13 rfl (lv_at hl 1 rfl) ?_
    refine lv_iconst (pc := 14) (v := 3) hx hb dX4_cell_14 (by decide) ?_
    refine lv_imul (pc := 15) hx hb dX4_cell_15 ?_
    refine lv_iload_n (pc := 16) hx hb dX4_cell_16 rfl (lv_at hl 2 rfl) ?_
    refine lv_iadd (pc := 17) hx hb dX4_cell_17 ?_
    obtain ⟨j5, hj6, h⟩ := bnd1 h
    refine r_iald (pc := 18) X hP (kf_4_cells hk0).1 hj6 dX4_cell_18 ?_
    refine lv_goto (pc := 19) (tgt := 24) hx hb dX4_cell_19 (by decide) ?_
    obtain ⟨rfl, rfl⟩ := inj2 h
    exact r_iret X hP hS dX4_cell_24
def f_X4_setCell (k0 : Nat) (a1 : Int32) (a2 : Int32) (a3 : Int32) (σ : Mem) : Option Mem :=
  bd2 (f_X4_has k0 a1 a2 σ) fun r3 σ1 =>
  if r3 = (0 : Int32) then
    some σ1
  else
    bd1 (ixo (k0 + 1) ((a1 * (3 : Int32)) + a2)) fun j5 =>
    bd1 (some (pI σ1 (k0 + 1) j5 a3)) fun σ7 =>
    some σ7
abbrev RM_X4_setCell : Room := { frames := 2, cells := 0, slots := 0, locals := 44 }
set_option maxHeartbeats 4000000 in
set_option maxRecDepth 100000 in
theorem c_X4_setCell (l : Launch) (G : Gh) {k0 : Nat} {a1 : Int32} {a2 : Int32} {a3 : Int32} {σ : Mem} {σr : Mem} (hk0 : kd k0 = 4) (h : f_X4_setCell k0 a1 a2 a3 σ = some σr) : Met l yX4_setCell [Cond.code yX4_setCell prog_6_method_6_code 4 none] RM_X4_setCell (va_Pc [.ref (ga G k0), .int a1, .int a2, .int a3] (Pre G σ)) (QG G none σr) 0 0 (AA G) := by
  refine ct_of (by decide) (fun p e s m below meth c X hP => ?_)
  have hx := X.hx
  have hb := X.hb
  have hS : va_S (AA G) s.heap s.heap [] := va_S.rf
  have hl := lv_entry ([.ref (ga G k0), .int a1, .int a2, .int a3]) (n := 4) (Nat.le_of_ble_eq_true rfl)
  rw [lg_entry_eq]
  generalize (lg_sl ([.ref (ga G k0), .int a1, .int a2, .int a3]) ++ List.replicate (4 - (lg_sl ([.ref (ga G k0), .int a1, .int a2, .int a3])).length) Slot.unset).toArray = ls at hl ⊢
  have hl : lv_has ls 4 [(0, .ref (ga G k0)), (1, .int a1), (2, .int a2), (3, .int a3)] := hl
  unfold f_X4_setCell at h
  refine lv_aload_n (pc := 0) hx hb dX4_setCell_0 rfl (lv_at hl 0 rfl) ?_
  refine lv_iload_n (pc := 1) hx hb dX4_setCell_1 rfl (lv_at hl 1 rfl) ?_
  refine lv_iload_n (pc := 2) hx hb dX4_setCell_2 rfl (lv_at hl 2 rfl) ?_
  obtain ⟨r3, σ1, e2, h⟩ := bnd2 h
  refine cl_X4_23 X hP hS hk0 (As := [.int a1, .int a2]) (rest := []) (c_X4_has l G hk0 e2) ⟨rfl, rfl, Nat.le_of_ble_eq_true rfl, Nat.le_of_ble_eq_true rfl⟩ rfl hl.1 rfl (Nat.le_of_ble_eq_true rfl) ⟨Nat.zero_le _, Nat.zero_le _⟩ (pc := 3) dX4_setCell_3 (fun H locs hP hS => ?_)
  change W p l e _ s m _ below meth c H locs _ _ _ (F0 m (3 + 3) ls (.int r3 :: []))
  refine lv_if_eq (pc := 6) (tgt := 20) hx hb dX4_setCell_6 (by decide) (fun c4 => ?_) (fun c4 => ?_)
  · have h := ipos c4 h
    obtain rfl := Option.some.inj h
    exact r_vret X hP hS dX4_setCell_20
  · have h := ineg c4 h
    refine lv_aload_n (pc := 9) hx hb dX4_setCell_9 rfl (lv_at hl 0 rfl) ?_
    refine gt_X4_11 X hP hk0 dX4_setCell_10 ?_
    refine lv_iload_n (pc := 13) hx hb dX4_setCell_13 rfl (lv_at hl 1 rfl) ?_
    refine lv_iconst (pc := 14) (v := 3) hx hb dX4_setCell_14 (by decide) ?_
    refine lv_imul (pc := 15) hx hb dX4_setCell_15 ?_
    refine lv_iload_n (pc := 16) hx hb dX4_setCell_16 rfl (lv_at hl 2 rfl) ?_
    refine lv_iadd (pc := 17) hx hb dX4_setCell_17 ?_
    refine lv_iload_n (pc := 18) hx hb dX4_setCell_18 rfl (lv_at hl 3 rfl) ?_
    obtain ⟨j5, hj6, h⟩ := bnd1 h
    obtain ⟨σ7, e8, h⟩ := bnd1 h
    refine r_iast (pc := 19) X hP hS (kf_4_cells hk0).1 hj6 dX4_setCell_19 (fun H locs hP hS => ?_)
    rw [Option.some.inj e8] at hP
    obtain rfl := Option.some.inj h
    exact r_vret X hP hS dX4_setCell_20
def F_X4_isSameRow_2 (k0z : Nat) (p1 : Int32) (k2z : Nat) (rec1 : Int32 → Mem → Option (Int32 × Mem)) : Int32 → Mem → Option (Int32 × Mem) := fun v3 σ =>
  if (3 : Int32) ≤ v3 then
    some ((1 : Int32), σ)
  else
    bd2 (f_X4_cell k0z p1 v3 σ) fun r4 σ2 =>
    bd2 (f_X4_cell k2z p1 v3 σ2) fun r7 σ5 =>
    if r4 = r7 then
      rec1 (v3 + (1 : Int32)) σ5
    else
      some ((0 : Int32), σ5)
def f_X4_isSameRow (k0 : Nat) (a1 : Int32) (a2 : Nat) (σ : Mem) : Option (Int32 × Mem) :=
  iterF (F_X4_isSameRow_2 k0 a1 a2) (fun _ _ => none) FU (0 : Int32) σ
abbrev RM_X4_isSameRow : Room := { frames := 3, cells := 0, slots := 0, locals := 66 }
set_option maxHeartbeats 4000000 in
set_option maxRecDepth 100000 in
theorem w_X4_isSameRow_2 {l : Launch} {G : Gh} {p : Program} {e : Env} {s : State} {m : MethodId} {args : Array Value} {below : List Frame} {meth : Method} {c : Code} (X : Cx G p s m args meth c prog_6_method_8_code RX4 4 (some .boolean)) {k0z : Nat} {p1 : Int32} {k2z : Nat} (hz0 : kd k0z = 4) (hz2 : kd k2z = 4) {rr : Int32} {σr : Mem} : ∀ (n : Nat) (v3 : Int32) (σ : Mem) (H : Heap) (locs : List Loc) (ls : Array Slot), PW G σ H → va_S (AA G) s.heap H locs → lv_has ls 4 [(0, .ref (ga G k0z)), (1, .int p1), (2, .ref (ga G k2z)), (3, .int v3)] → iterF (F_X4_isSameRow_2 k0z p1 k2z) (fun _ _ => none) n v3 σ = some (rr, σr) → W p l e RM_X4_isSameRow s m args below meth c H locs 0 0 (MQ below (QG G (some (.int rr)) σr) args s 0 0 (AA G)) (F0 m 2 ls []) := by
  have hx := X.hx
  have hb := X.hb
  intro n
  induction n with
  | zero => intro v3 σ H locs ls hP hS hl h; exact nnone (α := (Int32 × Mem)) h
  | succ n ih1 =>
    intro v3 σ H locs ls hP hS hl h
    have h : F_X4_isSameRow_2 k0z p1 k2z (iterF (F_X4_isSameRow_2 k0z p1 k2z) (fun _ _ => none) n) v3 σ = some _ := h
    unfold F_X4_isSameRow_2 at h
    refine lv_iload_n (pc := 2) hx hb dX4_isSameRow_2 rfl (lv_at hl 3 rfl) ?_
    refine lv_iconst (pc := 3) (v := 3) hx hb dX4_isSameRow_3 (by decide) ?_
    refine lv_icmp_ge (pc := 4) (tgt := 30) hx hb dX4_isSameRow_4 (by decide) (fun c1 => ?_) (fun c1 => ?_)
    · have h := ipos c1 h
      refine lv_iconst (pc := 30) (v := 1) hx hb dX4_isSameRow_30 (by decide) ?_
      obtain ⟨rfl, rfl⟩ := inj2 h
      exact r_zret X hP hS (by decide) dX4_isSameRow_31
    · have h := ineg c1 h
      refine lv_aload_n (pc := 7) hx hb dX4_isSameRow_7 rfl (lv_at hl 0 rfl) ?_
      refine lv_iload_n (pc := 8) hx hb dX4_isSameRow_8 rfl (lv_at hl 1 rfl) ?_
      refine lv_iload_n (pc := 9) hx hb dX4_isSameRow_9 rfl (lv_at hl 3 rfl) ?_
      obtain ⟨r4, σ2, e3, h⟩ := bnd2 h
      refine cl_X4_31 X hP hS hz0 (As := [.int p1, .int v3]) (rest := []) (c_X4_cell l G hz0 e3) ⟨rfl, rfl, Nat.le_of_ble_eq_true rfl, Nat.le_of_ble_eq_true rfl⟩ rfl hl.1 rfl (Nat.le_of_ble_eq_true rfl) ⟨Nat.zero_le _, Nat.zero_le _⟩ (pc := 10) dX4_isSameRow_10 (fun H locs hP hS => ?_)
      change W p l e _ s m _ below meth c H locs _ _ _ (F0 m (10 + 3) ls (.int r4 :: []))
      refine lv_aload_n (pc := 13) hx hb dX4_isSameRow_13 rfl (lv_at hl 2 rfl) ?_
      refine lv_iload_n (pc := 14) hx hb dX4_isSameRow_14 rfl (lv_at hl 1 rfl) ?_
      refine lv_iload_n (pc := 15) hx hb dX4_isSameRow_15 rfl (lv_at hl 3 rfl) ?_
      obtain ⟨r7, σ5, e6, h⟩ := bnd2 h
      refine cl_X4_31 X hP hS hz2 (As := [.int p1, .int v3]) (rest := [.int r4]) (c_X4_cell l G hz2 e6) ⟨rfl, rfl, Nat.le_of_ble_eq_true rfl, Nat.le_of_ble_eq_true rfl⟩ rfl hl.1 rfl (Nat.le_of_ble_eq_true rfl) ⟨Nat.zero_le _, Nat.zero_le _⟩ (pc := 16) dX4_isSameRow_16 (fun H locs hP hS => ?_)
      change W p l e _ s m _ below meth c H locs _ _ _ (F0 m (16 + 3) ls (.int r7 :: [.int r4]))
      refine lv_icmp_eq (pc := 19) (tgt := 24) hx hb dX4_isSameRow_19 (by decide) (fun c8 => ?_) (fun c8 => ?_)
      · have h := ipos c8 h
        refine lv_iinc (pc := 24) (v := (v3 + (1 : Int32))) (lv' := [(3, .int (v3 + (1 : Int32))), (0, .ref (ga G k0z)), (1, .int p1), (2, .ref (ga G k2z))]) hx hb dX4_isSameRow_24 hl (k := 3) rfl (congrArg (fun z => v3 + z) (by decide)) (by decide) rfl (fun ls hl => ?_)
        refine lv_goto (pc := 27) (tgt := 2) hx hb dX4_isSameRow_27 (by decide) ?_
        exact ih1 _ _ _ _ _ hP hS (lv_sub hl [1, 2, 3, 0] rfl) h
      · have h := ineg c8 h
        refine lv_iconst (pc := 22) (v := 0) hx hb dX4_isSameRow_22 (by decide) ?_
        obtain ⟨rfl, rfl⟩ := inj2 h
        exact r_zret X hP hS (by decide) dX4_isSameRow_23
set_option maxHeartbeats 4000000 in
set_option maxRecDepth 100000 in
theorem c_X4_isSameRow (l : Launch) (G : Gh) {k0 : Nat} {a1 : Int32} {a2 : Nat} {σ : Mem} {rr : Int32} {σr : Mem} (hk0 : kd k0 = 4) (hk2 : kd a2 = 4) (h : f_X4_isSameRow k0 a1 a2 σ = some (rr, σr)) : Met l yX4_isSameRow [Cond.code yX4_isSameRow prog_6_method_8_code 4 (some .boolean)] RM_X4_isSameRow (va_Pc [.ref (ga G k0), .int a1, .ref (ga G a2)] (Pre G σ)) (QG G (some (.int rr)) σr) 0 0 (AA G) := by
  refine ct_of (by decide) (fun p e s m below meth c X hP => ?_)
  have hx := X.hx
  have hb := X.hb
  have hS : va_S (AA G) s.heap s.heap [] := va_S.rf
  have hl := lv_entry ([.ref (ga G k0), .int a1, .ref (ga G a2)]) (n := 4) (Nat.le_of_ble_eq_true rfl)
  rw [lg_entry_eq]
  generalize (lg_sl ([.ref (ga G k0), .int a1, .ref (ga G a2)]) ++ List.replicate (4 - (lg_sl ([.ref (ga G k0), .int a1, .ref (ga G a2)])).length) Slot.unset).toArray = ls at hl ⊢
  have hl : lv_has ls 4 [(0, .ref (ga G k0)), (1, .int a1), (2, .ref (ga G a2))] := hl
  unfold f_X4_isSameRow at h
  refine lv_iconst (pc := 0) (v := 0) hx hb dX4_isSameRow_0 (by decide) ?_
  refine lv_istore_n (pc := 1) (lv' := [(3, .int (0 : Int32)), (0, .ref (ga G k0)), (1, .int a1), (2, .ref (ga G a2))]) hx hb dX4_isSameRow_1 rfl hl (by decide) rfl (fun ls hl => ?_)
  exact w_X4_isSameRow_2 X  hk0 hk2  FU _ _ _ _ _ hP hS (lv_sub hl [1, 2, 3, 0] rfl) h
def F_X4_judgedBy_2 (k0z : Nat) (k1z : Nat) (rec1 : Int32 → Mem → Option (Int32 × Mem)) : Int32 → Mem → Option (Int32 × Mem) := fun v2 σ =>
  if (gI σ k0z 1) ≤ v2 then
    if (gI σ k1z 1) ≤ (gI σ k0z 1) then
      some ((0 : Int32), σ)
    else
      some ((222 : Int32), σ)
  else
    if (gI σ k1z 1) ≤ v2 then
      some ((v2 + (1 : Int32)), σ)
    else
      bd2 (f_X4_isSameRow k0z v2 k1z σ) fun r6 σ4 =>
      if r6 = (0 : Int32) then
        some ((v2 + (1 : Int32)), σ4)
      else
        rec1 (v2 + (1 : Int32)) σ4
def f_X4_judgedBy (k0 : Nat) (a1 : Nat) (σ : Mem) : Option (Int32 × Mem) :=
  iterF (F_X4_judgedBy_2 k0 a1) (fun _ _ => none) FU (0 : Int32) σ
abbrev RM_X4_judgedBy : Room := { frames := 4, cells := 0, slots := 0, locals := 89 }
set_option maxHeartbeats 4000000 in
set_option maxRecDepth 100000 in
theorem w_X4_judgedBy_2 {l : Launch} {G : Gh} {p : Program} {e : Env} {s : State} {m : MethodId} {args : Array Value} {below : List Frame} {meth : Method} {c : Code} (X : Cx G p s m args meth c prog_6_method_7_code RX4 3 (some .int)) {k0z : Nat} {k1z : Nat} (hz0 : kd k0z = 4) (hz1 : kd k1z = 4) {rr : Int32} {σr : Mem} : ∀ (n : Nat) (v2 : Int32) (σ : Mem) (H : Heap) (locs : List Loc) (ls : Array Slot), PW G σ H → va_S (AA G) s.heap H locs → lv_has ls 3 [(0, .ref (ga G k0z)), (1, .ref (ga G k1z)), (2, .int v2)] → iterF (F_X4_judgedBy_2 k0z k1z) (fun _ _ => none) n v2 σ = some (rr, σr) → W p l e RM_X4_judgedBy s m args below meth c H locs 0 0 (MQ below (QG G (some (.int rr)) σr) args s 0 0 (AA G)) (F0 m 2 ls []) := by
  have hx := X.hx
  have hb := X.hb
  intro n
  induction n with
  | zero => intro v2 σ H locs ls hP hS hl h; exact nnone (α := (Int32 × Mem)) h
  | succ n ih1 =>
    intro v2 σ H locs ls hP hS hl h
    have h : F_X4_judgedBy_2 k0z k1z (iterF (F_X4_judgedBy_2 k0z k1z) (fun _ _ => none) n) v2 σ = some _ := h
    unfold F_X4_judgedBy_2 at h
    refine lv_iload_n (pc := 2) hx hb dX4_judgedBy_2 rfl (lv_at hl 2 rfl) ?_
    refine lv_aload_n (pc := 3) hx hb dX4_judgedBy_3 rfl (lv_at hl 0 rfl) ?_
    refine gt_X4_15 X hP hz0 dX4_judgedBy_4 ?_
    refine lv_icmp_ge (pc := 7) (tgt := 37) hx hb dX4_judgedBy_7 (by decide) (fun c1 => ?_) (fun c1 => ?_)
    · have h := ipos c1 h
      refine lv_aload_n (pc := 37) hx hb dX4_judgedBy_37 rfl (lv_at hl 0 rfl) ?_
      refine gt_X4_15 X hP hz0 dX4_judgedBy_38 ?_
      refine lv_aload_n (pc := 41) hx hb dX4_judgedBy_41 rfl (lv_at hl 1 rfl) ?_
      refine gt_X4_15 X hP hz1 dX4_judgedBy_42 ?_
      refine lv_icmp_ge (pc := 45) (tgt := 54) hx hb dX4_judgedBy_45 (by decide) (fun c2 => ?_) (fun c2 => ?_)
      · have h := ipos c2 h
        refine lv_iconst (pc := 54) (v := 0) hx hb dX4_judgedBy_54 (by decide) ?_
        obtain ⟨rfl, rfl⟩ := inj2 h
        exact r_iret X hP hS dX4_judgedBy_55
      · have h := ineg c2 h
        refine lv_sipush (pc := 48) (v := (222)) hx hb dX4_judgedBy_48 (by decide) ?_
        refine lv_goto (pc := 51) (tgt := 55) hx hb dX4_judgedBy_51 (by decide) ?_
        obtain ⟨rfl, rfl⟩ := inj2 h
        exact r_iret X hP hS dX4_judgedBy_55
    · have h := ineg c1 h
      refine lv_iload_n (pc := 10) hx hb dX4_judgedBy_10 rfl (lv_at hl 2 rfl) ?_
      refine lv_aload_n (pc := 11) hx hb dX4_judgedBy_11 rfl (lv_at hl 1 rfl) ?_
      refine gt_X4_15 X hP hz1 dX4_judgedBy_12 ?_
      refine lv_icmp_ge (pc := 15) (tgt := 27) hx hb dX4_judgedBy_15 (by decide) (fun c3 => ?_) (fun c3 => ?_)
      · have h := ipos c3 h
        refine lv_iload_n (pc := 27) hx hb dX4_judgedBy_27 rfl (lv_at hl 2 rfl) ?_
        refine lv_iconst (pc := 28) (v := 1) hx hb dX4_judgedBy_28 (by decide) ?_
        refine lv_iadd (pc := 29) hx hb dX4_judgedBy_29 ?_
        obtain ⟨rfl, rfl⟩ := inj2 h
        exact r_iret X hP hS dX4_judgedBy_30
      · have h := ineg c3 h
        refine lv_aload_n (pc := 18) hx hb dX4_judgedBy_18 rfl (lv_at hl 0 rfl) ?_
        refine lv_iload_n (pc := 19) hx hb dX4_judgedBy_19 rfl (lv_at hl 2 rfl) ?_
        refine lv_aload_n (pc := 20) hx hb dX4_judgedBy_20 rfl (lv_at hl 1 rfl) ?_
        obtain ⟨r6, σ4, e5, h⟩ := bnd2 h
        refine cl_X4_27 X hP hS hz0 (As := [.int v2, .ref (ga G k1z)]) (rest := []) (c_X4_isSameRow l G hz0 hz1 e5) ⟨rfl, rfl, Nat.le_of_ble_eq_true rfl, Nat.le_of_ble_eq_true rfl⟩ rfl hl.1 rfl (Nat.le_of_ble_eq_true rfl) ⟨Nat.zero_le _, Nat.zero_le _⟩ (pc := 21) dX4_judgedBy_21 (fun H locs hP hS => ?_)
        change W p l e _ s m _ below meth c H locs _ _ _ (F0 m (21 + 3) ls (.int r6 :: []))
        refine lv_if_ne (pc := 24) (tgt := 31) hx hb dX4_judgedBy_24 (by decide) (fun c7 => ?_) (fun c7 => ?_)
        · have h := ineg c7 h
          refine lv_iinc (pc := 31) (v := (v2 + (1 : Int32))) (lv' := [(2, .int (v2 + (1 : Int32))), (0, .ref (ga G k0z)), (1, .ref (ga G k1z))]) hx hb dX4_judgedBy_31 hl (k := 2) rfl (congrArg (fun z => v2 + z) (by decide)) (by decide) rfl (fun ls hl => ?_)
          refine lv_goto (pc := 34) (tgt := 2) hx hb dX4_judgedBy_34 (by decide) ?_
          exact ih1 _ _ _ _ _ hP hS (lv_sub hl [1, 2, 0] rfl) h
        · have h := ipos c7 h
          refine lv_iload_n (pc := 27) hx hb dX4_judgedBy_27 rfl (lv_at hl 2 rfl) ?_
          refine lv_iconst (pc := 28) (v := 1) hx hb dX4_judgedBy_28 (by decide) ?_
          refine lv_iadd (pc := 29) hx hb dX4_judgedBy_29 ?_
          obtain ⟨rfl, rfl⟩ := inj2 h
          exact r_iret X hP hS dX4_judgedBy_30
set_option maxHeartbeats 4000000 in
set_option maxRecDepth 100000 in
theorem c_X4_judgedBy (l : Launch) (G : Gh) {k0 : Nat} {a1 : Nat} {σ : Mem} {rr : Int32} {σr : Mem} (hk0 : kd k0 = 4) (hk1 : kd a1 = 4) (h : f_X4_judgedBy k0 a1 σ = some (rr, σr)) : Met l yX4_judgedBy [Cond.code yX4_judgedBy prog_6_method_7_code 3 (some .int)] RM_X4_judgedBy (va_Pc [.ref (ga G k0), .ref (ga G a1)] (Pre G σ)) (QG G (some (.int rr)) σr) 0 0 (AA G) := by
  refine ct_of (by decide) (fun p e s m below meth c X hP => ?_)
  have hx := X.hx
  have hb := X.hb
  have hS : va_S (AA G) s.heap s.heap [] := va_S.rf
  have hl := lv_entry ([.ref (ga G k0), .ref (ga G a1)]) (n := 3) (Nat.le_of_ble_eq_true rfl)
  rw [lg_entry_eq]
  generalize (lg_sl ([.ref (ga G k0), .ref (ga G a1)]) ++ List.replicate (3 - (lg_sl ([.ref (ga G k0), .ref (ga G a1)])).length) Slot.unset).toArray = ls at hl ⊢
  have hl : lv_has ls 3 [(0, .ref (ga G k0)), (1, .ref (ga G a1))] := hl
  unfold f_X4_judgedBy at h
  refine lv_iconst (pc := 0) (v := 0) hx hb dX4_judgedBy_0 (by decide) ?_
  refine lv_istore_n (pc := 1) (lv' := [(2, .int (0 : Int32)), (0, .ref (ga G k0)), (1, .ref (ga G a1))]) hx hb dX4_judgedBy_1 rfl hl (by decide) rfl (fun ls hl => ?_)
  exact w_X4_judgedBy_2 X  hk0 hk1  FU _ _ _ _ _ hP hS (lv_sub hl [1, 2, 0] rfl) h
def f_X5_isMissing (k0 : Nat) (σ : Mem) : Option (Int32 × Mem) :=
  if (gI σ k0 1) = (-1 : Int32) then
    some ((1 : Int32), σ)
  else
    some ((0 : Int32), σ)
abbrev RM_X5_isMissing : Room := { frames := 0, cells := 0, slots := 0, locals := 0 }
set_option maxHeartbeats 4000000 in
set_option maxRecDepth 100000 in
theorem c_X5_isMissing (l : Launch) (G : Gh) {k0 : Nat} {σ : Mem} {rr : Int32} {σr : Mem} (hk0 : kd k0 = 5) (h : f_X5_isMissing k0 σ = some (rr, σr)) : Met l yX5_isMissing [Cond.code yX5_isMissing prog_7_method_2_code 1 (some .boolean)] RM_X5_isMissing (va_Pc [.ref (ga G k0)] (Pre G σ)) (QG G (some (.int rr)) σr) 0 0 (AA G) := by
  refine ct_of (by decide) (fun p e s m below meth c X hP => ?_)
  have hx := X.hx
  have hb := X.hb
  have hS : va_S (AA G) s.heap s.heap [] := va_S.rf
  have hl := lv_entry ([.ref (ga G k0)]) (n := 1) (Nat.le_of_ble_eq_true rfl)
  rw [lg_entry_eq]
  generalize (lg_sl ([.ref (ga G k0)]) ++ List.replicate (1 - (lg_sl ([.ref (ga G k0)])).length) Slot.unset).toArray = ls at hl ⊢
  have hl : lv_has ls 1 [(0, .ref (ga G k0))] := hl
  unfold f_X5_isMissing at h
  refine lv_aload_n (pc := 0) hx hb dX5_isMissing_0 rfl (lv_at hl 0 rfl) ?_
  refine gt_X5_13 X hP hk0 dX5_isMissing_1 ?_
  refine lv_iconst (pc := 4) (v := (-1)) hx hb dX5_isMissing_4 (by decide) ?_
  refine lv_icmp_ne (pc := 5) (tgt := 12) hx hb dX5_isMissing_5 (by decide) (fun c1 => ?_) (fun c1 => ?_)
  · have h := ineg c1 h
    refine lv_iconst (pc := 12) (v := 0) hx hb dX5_isMissing_12 (by decide) ?_
    obtain ⟨rfl, rfl⟩ := inj2 h
    exact r_zret X hP hS (by decide) dX5_isMissing_13
  · have h := ipos c1 h
    refine lv_iconst (pc := 8) (v := 1) hx hb dX5_isMissing_8 (by decide) ?_
    refine lv_goto (pc := 9) (tgt := 13) hx hb dX5_isMissing_9 (by decide) ?_
    obtain ⟨rfl, rfl⟩ := inj2 h
    exact r_zret X hP hS (by decide) dX5_isMissing_13
def F_X5_remake_12 (k0z : Nat) (rec1 : Int32 → Mem → Option Mem) : Int32 → Mem → Option Mem := fun v3 σ =>
  if (40 : Int32) ≤ v3 then
    some σ
  else
    bd1 (ixo (k0z + 1) v3) fun j6 =>
    bd1 (some (pI σ (k0z + 1) j6 (0 : Int32))) fun σ8 =>
    rec1 (v3 + (1 : Int32)) σ8
def f_X5_remake (k0 : Nat) (a1 : Int32) (a2 : Int32) (σ : Mem) : Option Mem :=
  bd1 (some (pI σ k0 1 a1)) fun σ1 =>
  bd1 (some (pI σ1 k0 2 a2)) fun σ3 =>
  iterF (F_X5_remake_12 k0) (fun _ _ => none) FU (0 : Int32) σ3
abbrev RM_X5_remake : Room := { frames := 0, cells := 0, slots := 0, locals := 0 }
set_option maxHeartbeats 4000000 in
set_option maxRecDepth 100000 in
theorem w_X5_remake_12 {l : Launch} {G : Gh} {p : Program} {e : Env} {s : State} {m : MethodId} {args : Array Value} {below : List Frame} {meth : Method} {c : Code} (X : Cx G p s m args meth c prog_7_method_3_code RX5 4 none) {k0z : Nat} (hz0 : kd k0z = 5) {σr : Mem} : ∀ (n : Nat) (v3 : Int32) (σ : Mem) (H : Heap) (locs : List Loc) (ls : Array Slot), PW G σ H → va_S (AA G) s.heap H locs → lv_has ls 4 [(0, .ref (ga G k0z)), (3, .int v3)] → iterF (F_X5_remake_12 k0z) (fun _ _ => none) n v3 σ = some σr → W p l e RM_X5_remake s m args below meth c H locs 0 0 (MQ below (QG G none σr) args s 0 0 (AA G)) (F0 m 12 ls []) := by
  have hx := X.hx
  have hb := X.hb
  intro n
  induction n with
  | zero => intro v3 σ H locs ls hP hS hl h; exact nnone (α := Mem) h
  | succ n ih1 =>
    intro v3 σ H locs ls hP hS hl h
    have h : F_X5_remake_12 k0z (iterF (F_X5_remake_12 k0z) (fun _ _ => none) n) v3 σ = some _ := h
    unfold F_X5_remake_12 at h
    refine lv_iload_n (pc := 12) hx hb dX5_remake_12 rfl (lv_at hl 1 rfl) ?_
    refine lv_bipush (pc := 13) (v := (40)) hx hb dX5_remake_13 (by decide) ?_
    refine lv_icmp_ge (pc := 15) (tgt := 31) hx hb dX5_remake_15 (by decide) (fun c5 => ?_) (fun c5 => ?_)
    · have h := ipos c5 h
      obtain rfl := Option.some.inj h
      exact r_vret X hP hS dX5_remake_31
    · have h := ineg c5 h
      refine lv_aload_n (pc := 18) hx hb dX5_remake_18 rfl (lv_at hl 0 rfl) ?_
      refine gt_X5_9 X hP hz0 dX5_remake_19 ?_
      refine lv_iload_n (pc := 22) hx hb dX5_remake_22 rfl (lv_at hl 1 rfl) ?_
      refine lv_iconst (pc := 23) (v := 0) hx hb dX5_remake_23 (by decide) ?_
      obtain ⟨j6, hj7, h⟩ := bnd1 h
      obtain ⟨σ8, e9, h⟩ := bnd1 h
      refine r_iast (pc := 24) X hP hS (kf_5_items hz0).1 hj7 dX5_remake_24 (fun H locs hP hS => ?_)
      rw [Option.some.inj e9] at hP
      refine lv_iinc (pc := 25) (v := (v3 + (1 : Int32))) (lv' := [(3, .int (v3 + (1 : Int32))), (0, .ref (ga G k0z))]) hx hb dX5_remake_25 hl (k := 1) rfl (congrArg (fun z => v3 + z) (by decide)) (by decide) rfl (fun ls hl => ?_)
      refine lv_goto (pc := 28) (tgt := 12) hx hb dX5_remake_28 (by decide) ?_
      exact ih1 _ _ _ _ _ hP hS (lv_sub hl [1, 0] rfl) h
set_option maxHeartbeats 4000000 in
set_option maxRecDepth 100000 in
theorem c_X5_remake (l : Launch) (G : Gh) {k0 : Nat} {a1 : Int32} {a2 : Int32} {σ : Mem} {σr : Mem} (hk0 : kd k0 = 5) (h : f_X5_remake k0 a1 a2 σ = some σr) : Met l yX5_remake [Cond.code yX5_remake prog_7_method_3_code 4 none] RM_X5_remake (va_Pc [.ref (ga G k0), .int a1, .int a2] (Pre G σ)) (QG G none σr) 0 0 (AA G) := by
  refine ct_of (by decide) (fun p e s m below meth c X hP => ?_)
  have hx := X.hx
  have hb := X.hb
  have hS : va_S (AA G) s.heap s.heap [] := va_S.rf
  have hl := lv_entry ([.ref (ga G k0), .int a1, .int a2]) (n := 4) (Nat.le_of_ble_eq_true rfl)
  rw [lg_entry_eq]
  generalize (lg_sl ([.ref (ga G k0), .int a1, .int a2]) ++ List.replicate (4 - (lg_sl ([.ref (ga G k0), .int a1, .int a2])).length) Slot.unset).toArray = ls at hl ⊢
  have hl : lv_has ls 4 [(0, .ref (ga G k0)), (1, .int a1), (2, .int a2)] := hl
  unfold f_X5_remake at h
  refine lv_aload_n (pc := 0) hx hb dX5_remake_0 rfl (lv_at hl 0 rfl) ?_
  refine lv_iload_n (pc := 1) hx hb dX5_remake_1 rfl (lv_at hl 1 rfl) ?_
  obtain ⟨σ1, e2, h⟩ := bnd1 h
  refine pt_X5_13 X hP hS hk0 dX5_remake_2 (fun H locs hP hS => ?_)
  rw [Option.some.inj e2] at hP
  refine lv_aload_n (pc := 5) hx hb dX5_remake_5 rfl (lv_at hl 0 rfl) ?_
  refine lv_iload_n (pc := 6) hx hb dX5_remake_6 rfl (lv_at hl 2 rfl) ?_
  obtain ⟨σ3, e4, h⟩ := bnd1 h
  refine pt_X5_17 X hP hS hk0 dX5_remake_7 (fun H locs hP hS => ?_)
  rw [Option.some.inj e4] at hP
  refine lv_iconst (pc := 10) (v := 0) hx hb dX5_remake_10 (by decide) ?_
  refine lv_istore_n (pc := 11) (lv' := [(3, .int (0 : Int32)), (0, .ref (ga G k0)), (1, .int a1), (2, .int a2)]) hx hb dX5_remake_11 rfl hl (by decide) rfl (fun ls hl => ?_)
  exact w_X5_remake_12 X  hk0  FU _ _ _ _ _ hP hS (lv_sub hl [1, 0] rfl) h
def f_X5_has (k0 : Nat) (a1 : Int32) (σ : Mem) : Option (Int32 × Mem) :=
  bd2 (f_X9_within a1 (0 : Int32) ((gI σ k0 2) - (1 : Int32)) σ) fun r3 σ1 =>
  if r3 = (0 : Int32) then
    some ((0 : Int32), σ1)
  else
    if (40 : Int32) ≤ a1 then
      some ((0 : Int32), σ1)
    else
      some ((1 : Int32), σ1)
abbrev RM_X5_has : Room := { frames := 1, cells := 0, slots := 0, locals := 22 }
set_option maxHeartbeats 4000000 in
set_option maxRecDepth 100000 in
theorem c_X5_has (l : Launch) (G : Gh) {k0 : Nat} {a1 : Int32} {σ : Mem} {rr : Int32} {σr : Mem} (hk0 : kd k0 = 5) (h : f_X5_has k0 a1 σ = some (rr, σr)) : Met l yX5_has [Cond.code yX5_has prog_7_method_4_code 2 (some .boolean)] RM_X5_has (va_Pc [.ref (ga G k0), .int a1] (Pre G σ)) (QG G (some (.int rr)) σr) 0 0 (AA G) := by
  refine ct_of (by decide) (fun p e s m below meth c X hP => ?_)
  have hx := X.hx
  have hb := X.hb
  have hS : va_S (AA G) s.heap s.heap [] := va_S.rf
  have hl := lv_entry ([.ref (ga G k0), .int a1]) (n := 2) (Nat.le_of_ble_eq_true rfl)
  rw [lg_entry_eq]
  generalize (lg_sl ([.ref (ga G k0), .int a1]) ++ List.replicate (2 - (lg_sl ([.ref (ga G k0), .int a1])).length) Slot.unset).toArray = ls at hl ⊢
  have hl : lv_has ls 2 [(0, .ref (ga G k0)), (1, .int a1)] := hl
  unfold f_X5_has at h
  refine lv_iload_n (pc := 0) hx hb dX5_has_0 rfl (lv_at hl 1 rfl) ?_
  refine lv_iconst (pc := 1) (v := 0) hx hb dX5_has_1 (by decide) ?_
  refine lv_aload_n (pc := 2) hx hb dX5_has_2 rfl (lv_at hl 0 rfl) ?_
  refine gt_X5_17 X hP hk0 dX5_has_3 ?_
  refine lv_iconst (pc := 6) (v := 1) hx hb dX5_has_6 (by decide) ?_
  refine lv_isub (pc := 7) hx hb dX5_has_7 ?_
  obtain ⟨r3, σ1, e2, h⟩ := bnd2 h
  refine cl_X5_20 X hP hS (As := [.int a1, .int (0 : Int32), .int ((gI σ k0 2) - (1 : Int32))]) (rest := []) (c_X9_within l G  e2) ⟨rfl, rfl, Nat.le_of_ble_eq_true rfl, Nat.le_of_ble_eq_true rfl⟩ rfl hl.1 rfl (Nat.le_of_ble_eq_true rfl) ⟨Nat.zero_le _, Nat.zero_le _⟩ (pc := 8) dX5_has_8 (fun H locs hP hS => ?_)
  change W p l e _ s m _ below meth c H locs _ _ _ (F0 m (8 + 3) ls (.int r3 :: []))
  refine lv_if_eq (pc := 11) (tgt := 24) hx hb dX5_has_11 (by decide) (fun c4 => ?_) (fun c4 => ?_)
  · have h := ipos c4 h
    refine lv_iconst (pc := 24) (v := 0) hx hb dX5_has_24 (by decide) ?_
    obtain ⟨rfl, rfl⟩ := inj2 h
    exact r_zret X hP hS (by decide) dX5_has_25
  · have h := ineg c4 h
    refine lv_iload_n (pc := 14) hx hb dX5_has_14 rfl (lv_at hl 1 rfl) ?_
    refine lv_bipush (pc := 15) (v := (40)) hx hb dX5_has_15 (by decide) ?_
    refine lv_icmp_ge (pc := 17) (tgt := 24) hx hb dX5_has_17 (by decide) (fun c5 => ?_) (fun c5 => ?_)
    · have h := ipos c5 h
      refine lv_iconst (pc := 24) (v := 0) hx hb dX5_has_24 (by decide) ?_
      obtain ⟨rfl, rfl⟩ := inj2 h
      exact r_zret X hP hS (by decide) dX5_has_25
    · have h := ineg c5 h
      refine lv_iconst (pc := 20) (v := 1) hx hb dX5_has_20 (by decide) ?_
      refine lv_goto (pc := 21) (tgt := 25) hx hb dX5_has_21 (by decide) ?_
      obtain ⟨rfl, rfl⟩ := inj2 h
      exact r_zret X hP hS (by decide) dX5_has_25
def f_X5_itemAt (k0 : Nat) (a1 : Int32) (σ : Mem) : Option (Int32 × Mem) :=
  bd2 (f_X5_has k0 a1 σ) fun r3 σ1 =>
  if r3 = (0 : Int32) then
    some ((0 : Int32), σ1)
  else
    bd1 (ixo (k0 + 1) a1) fun j5 =>
    some ((gI σ1 (k0 + 1) j5), σ1)
abbrev RM_X5_itemAt : Room := { frames := 2, cells := 0, slots := 0, locals := 43 }
set_option maxHeartbeats 4000000 in
set_option maxRecDepth 100000 in
theorem c_X5_itemAt (l : Launch) (G : Gh) {k0 : Nat} {a1 : Int32} {σ : Mem} {rr : Int32} {σr : Mem} (hk0 : kd k0 = 5) (h : f_X5_itemAt k0 a1 σ = some (rr, σr)) : Met l yX5_itemAt [Cond.code yX5_itemAt prog_7_method_5_code 2 (some .int)] RM_X5_itemAt (va_Pc [.ref (ga G k0), .int a1] (Pre G σ)) (QG G (some (.int rr)) σr) 0 0 (AA G) := by
  refine ct_of (by decide) (fun p e s m below meth c X hP => ?_)
  have hx := X.hx
  have hb := X.hb
  have hS : va_S (AA G) s.heap s.heap [] := va_S.rf
  have hl := lv_entry ([.ref (ga G k0), .int a1]) (n := 2) (Nat.le_of_ble_eq_true rfl)
  rw [lg_entry_eq]
  generalize (lg_sl ([.ref (ga G k0), .int a1]) ++ List.replicate (2 - (lg_sl ([.ref (ga G k0), .int a1])).length) Slot.unset).toArray = ls at hl ⊢
  have hl : lv_has ls 2 [(0, .ref (ga G k0)), (1, .int a1)] := hl
  unfold f_X5_itemAt at h
  refine lv_aload_n (pc := 0) hx hb dX5_itemAt_0 rfl (lv_at hl 0 rfl) ?_
  refine lv_iload_n (pc := 1) hx hb dX5_itemAt_1 rfl (lv_at hl 1 rfl) ?_
  obtain ⟨r3, σ1, e2, h⟩ := bnd2 h
  refine cl_X5_26 X hP hS hk0 (As := [.int a1]) (rest := []) (c_X5_has l G hk0 e2) ⟨rfl, rfl, Nat.le_of_ble_eq_true rfl, Nat.le_of_ble_eq_true rfl⟩ rfl hl.1 rfl (Nat.le_of_ble_eq_true rfl) ⟨Nat.zero_le _, Nat.zero_le _⟩ (pc := 2) dX5_itemAt_2 (fun H locs hP hS => ?_)
  change W p l e _ s m _ below meth c H locs _ _ _ (F0 m (2 + 3) ls (.int r3 :: []))
  refine lv_if_eq (pc := 5) (tgt := 17) hx hb dX5_itemAt_5 (by decide) (fun c4 => ?_) (fun c4 => ?_)
  · have h := ipos c4 h
    refine lv_iconst (pc := 17) (v := 0) hx hb dX5_itemAt_17 (by decide) ?_
    obtain ⟨rfl, rfl⟩ := inj2 h
    exact r_iret X hP hS dX5_itemAt_18
  · have h := ineg c4 h
    refine lv_aload_n (pc := 8) hx hb dX5_itemAt_8 rfl (lv_at hl 0 rfl) ?_
    refine gt_X5_9 X hP hk0 dX5_itemAt_9 ?_
    refine lv_iload_n (pc := 12) hx hb dX5_itemAt_12 rfl (lv_at hl 1 rfl) ?_
    obtain ⟨j5, hj6, h⟩ := bnd1 h
    refine r_iald (pc := 13) X hP (kf_5_items hk0).1 hj6 dX5_itemAt_13 ?_
    refine lv_goto (pc := 14) (tgt := 18) hx hb dX5_itemAt_14 (by decide) ?_
    obtain ⟨rfl, rfl⟩ := inj2 h
    exact r_iret X hP hS dX5_itemAt_18
def f_X5_narrowed (k0 : Nat) (a1 : Int32) (σ : Mem) : Option (Int32 × Mem) :=
  if (gI σ k0 1) = (0 : Int32) then
    some (a1.toInt8.toInt32, σ)
  else
  if (gI σ k0 1) = (1 : Int32) then
    some (a1.toInt16.toInt32, σ)
  else
  some (a1, σ)
abbrev RM_X5_narrowed : Room := { frames := 0, cells := 0, slots := 0, locals := 0 }
set_option maxHeartbeats 4000000 in
set_option maxRecDepth 100000 in
theorem c_X5_narrowed (l : Launch) (G : Gh) {k0 : Nat} {a1 : Int32} {σ : Mem} {rr : Int32} {σr : Mem} (hk0 : kd k0 = 5) (h : f_X5_narrowed k0 a1 σ = some (rr, σr)) : Met l yX5_narrowed [Cond.code yX5_narrowed prog_7_method_7_code 2 (some .int)] RM_X5_narrowed (va_Pc [.ref (ga G k0), .int a1] (Pre G σ)) (QG G (some (.int rr)) σr) 0 0 (AA G) := by
  refine ct_of (by decide) (fun p e s m below meth c X hP => ?_)
  have hx := X.hx
  have hb := X.hb
  have hS : va_S (AA G) s.heap s.heap [] := va_S.rf
  have hl := lv_entry ([.ref (ga G k0), .int a1]) (n := 2) (Nat.le_of_ble_eq_true rfl)
  rw [lg_entry_eq]
  generalize (lg_sl ([.ref (ga G k0), .int a1]) ++ List.replicate (2 - (lg_sl ([.ref (ga G k0), .int a1])).length) Slot.unset).toArray = ls at hl ⊢
  have hl : lv_has ls 2 [(0, .ref (ga G k0)), (1, .int a1)] := hl
  unfold f_X5_narrowed at h
  refine lv_aload_n (pc := 0) hx hb dX5_narrowed_0 rfl (lv_at hl 0 rfl) ?_
  refine gt_X5_13 X hP hk0 dX5_narrowed_1 ?_
  by_cases c1 : (gI σ k0 1) = (0 : Int32)
  · have h := ipos c1 h
    refine r_look X (pc := 4) (tgt := 32) c1 dX5_narrowed_4 rfl rfl (by decide) ?_
    refine lv_iload_n (pc := 32) hx hb dX5_narrowed_32 rfl (lv_at hl 1 rfl) ?_
    refine lv_i2b (pc := 33) (v := a1.toInt8.toInt32) hx hb dX5_narrowed_33 rfl ?_
    obtain ⟨rfl, rfl⟩ := inj2 h
    exact r_iret X hP hS dX5_narrowed_34
  have h := ineg c1 h
  by_cases c2 : (gI σ k0 1) = (1 : Int32)
  · have h := ipos c2 h
    refine r_look X (pc := 4) (tgt := 35) c2 dX5_narrowed_4 rfl rfl (by decide) ?_
    refine lv_iload_n (pc := 35) hx hb dX5_narrowed_35 rfl (lv_at hl 1 rfl) ?_
    refine lv_i2s (pc := 36) (v := a1.toInt16.toInt32) hx hb dX5_narrowed_36 rfl ?_
    obtain ⟨rfl, rfl⟩ := inj2 h
    exact r_iret X hP hS dX5_narrowed_37
  have h := ineg c2 h
  refine lv_lookup (pc := 4) (off := 34) (tgt := 38) hx hb dX5_narrowed_4 rfl (Eq.trans (lv_osw c1 (by decide)) (Eq.trans (lv_osw c2 (by decide)) rfl)) (by decide) ?_
  refine lv_iload_n (pc := 38) hx hb dX5_narrowed_38 rfl (lv_at hl 1 rfl) ?_
  obtain ⟨rfl, rfl⟩ := inj2 h
  exact r_iret X hP hS dX5_narrowed_39
def f_X5_setItem (k0 : Nat) (a1 : Int32) (a2 : Int32) (σ : Mem) : Option Mem :=
  bd2 (f_X5_has k0 a1 σ) fun r3 σ1 =>
  if r3 = (0 : Int32) then
    some σ1
  else
    bd2 (f_X5_narrowed k0 a2 σ1) fun r7 σ5 =>
    bd1 (ixo (k0 + 1) a1) fun j8 =>
    bd1 (some (pI σ5 (k0 + 1) j8 r7)) fun σ10 =>
    some σ10
abbrev RM_X5_setItem : Room := { frames := 2, cells := 0, slots := 0, locals := 43 }
set_option maxHeartbeats 4000000 in
set_option maxRecDepth 100000 in
theorem c_X5_setItem (l : Launch) (G : Gh) {k0 : Nat} {a1 : Int32} {a2 : Int32} {σ : Mem} {σr : Mem} (hk0 : kd k0 = 5) (h : f_X5_setItem k0 a1 a2 σ = some σr) : Met l yX5_setItem [Cond.code yX5_setItem prog_7_method_6_code 3 none] RM_X5_setItem (va_Pc [.ref (ga G k0), .int a1, .int a2] (Pre G σ)) (QG G none σr) 0 0 (AA G) := by
  refine ct_of (by decide) (fun p e s m below meth c X hP => ?_)
  have hx := X.hx
  have hb := X.hb
  have hS : va_S (AA G) s.heap s.heap [] := va_S.rf
  have hl := lv_entry ([.ref (ga G k0), .int a1, .int a2]) (n := 3) (Nat.le_of_ble_eq_true rfl)
  rw [lg_entry_eq]
  generalize (lg_sl ([.ref (ga G k0), .int a1, .int a2]) ++ List.replicate (3 - (lg_sl ([.ref (ga G k0), .int a1, .int a2])).length) Slot.unset).toArray = ls at hl ⊢
  have hl : lv_has ls 3 [(0, .ref (ga G k0)), (1, .int a1), (2, .int a2)] := hl
  unfold f_X5_setItem at h
  refine lv_aload_n (pc := 0) hx hb dX5_setItem_0 rfl (lv_at hl 0 rfl) ?_
  refine lv_iload_n (pc := 1) hx hb dX5_setItem_1 rfl (lv_at hl 1 rfl) ?_
  obtain ⟨r3, σ1, e2, h⟩ := bnd2 h
  refine cl_X5_26 X hP hS hk0 (As := [.int a1]) (rest := []) (c_X5_has l G hk0 e2) ⟨rfl, rfl, Nat.le_of_ble_eq_true rfl, Nat.le_of_ble_eq_true rfl⟩ rfl hl.1 rfl (Nat.le_of_ble_eq_true rfl) ⟨Nat.zero_le _, Nat.zero_le _⟩ (pc := 2) dX5_setItem_2 (fun H locs hP hS => ?_)
  change W p l e _ s m _ below meth c H locs _ _ _ (F0 m (2 + 3) ls (.int r3 :: []))
  refine lv_if_eq (pc := 5) (tgt := 19) hx hb dX5_setItem_5 (by decide) (fun c4 => ?_) (fun c4 => ?_)
  · have h := ipos c4 h
    obtain rfl := Option.some.inj h
    exact r_vret X hP hS dX5_setItem_19
  · have h := ineg c4 h
    refine lv_aload_n (pc := 8) hx hb dX5_setItem_8 rfl (lv_at hl 0 rfl) ?_
    refine gt_X5_9 X hP hk0 dX5_setItem_9 ?_
    refine lv_iload_n (pc := 12) hx hb dX5_setItem_12 rfl (lv_at hl 1 rfl) ?_
    refine lv_aload_n (pc := 13) hx hb dX5_setItem_13 rfl (lv_at hl 0 rfl) ?_
    refine lv_iload_n (pc := 14) hx hb dX5_setItem_14 rfl (lv_at hl 2 rfl) ?_
    obtain ⟨r7, σ5, e6, h⟩ := bnd2 h
    refine cl_X5_30 X hP hS hk0 (As := [.int a2]) (rest := [.int a1, .ref (ga G (k0 + 1))]) (c_X5_narrowed l G hk0 e6) ⟨rfl, rfl, Nat.le_of_ble_eq_true rfl, Nat.le_of_ble_eq_true rfl⟩ rfl hl.1 rfl (Nat.le_of_ble_eq_true rfl) ⟨Nat.zero_le _, Nat.zero_le _⟩ (pc := 15) dX5_setItem_15 (fun H locs hP hS => ?_)
    change W p l e _ s m _ below meth c H locs _ _ _ (F0 m (15 + 3) ls (.int r7 :: [.int a1, .ref (ga G (k0 + 1))]))
    obtain ⟨j8, hj9, h⟩ := bnd1 h
    obtain ⟨σ10, e11, h⟩ := bnd1 h
    refine r_iast (pc := 18) X hP hS (kf_5_items hk0).1 hj9 dX5_setItem_18 (fun H locs hP hS => ?_)
    rw [Option.some.inj e11] at hP
    obtain rfl := Option.some.inj h
    exact r_vret X hP hS dX5_setItem_19
def f_X6_holdNothing (k0 : Nat) (σ : Mem) : Option Mem :=
  bd1 (some (pI σ k0 0 (-9 : Int32))) fun σ1 =>
  bd1 (some (pI σ1 k0 1 (-1 : Int32))) fun σ3 =>
  bd1 (some (pI σ3 k0 2 (0 : Int32))) fun σ5 =>
  some σ5
abbrev RM_X6_holdNothing : Room := { frames := 0, cells := 0, slots := 0, locals := 0 }
set_option maxHeartbeats 4000000 in
set_option maxRecDepth 100000 in
theorem c_X6_holdNothing (l : Launch) (G : Gh) {k0 : Nat} {σ : Mem} {σr : Mem} (hk0 : kd k0 = 6) (h : f_X6_holdNothing k0 σ = some σr) : Met l yX6_holdNothing [Cond.code yX6_holdNothing prog_8_method_4_code 1 none] RM_X6_holdNothing (va_Pc [.ref (ga G k0)] (Pre G σ)) (QG G none σr) 0 0 (AA G) := by
  refine ct_of (by decide) (fun p e s m below meth c X hP => ?_)
  have hx := X.hx
  have hb := X.hb
  have hS : va_S (AA G) s.heap s.heap [] := va_S.rf
  have hl := lv_entry ([.ref (ga G k0)]) (n := 1) (Nat.le_of_ble_eq_true rfl)
  rw [lg_entry_eq]
  generalize (lg_sl ([.ref (ga G k0)]) ++ List.replicate (1 - (lg_sl ([.ref (ga G k0)])).length) Slot.unset).toArray = ls at hl ⊢
  have hl : lv_has ls 1 [(0, .ref (ga G k0))] := hl
  unfold f_X6_holdNothing at h
  refine lv_aload_n (pc := 0) hx hb dX6_holdNothing_0 rfl (lv_at hl 0 rfl) ?_
  refine lv_bipush (pc := 1) (v := (-9)) hx hb dX6_holdNothing_1 (by decide) ?_
  obtain ⟨σ1, e2, h⟩ := bnd1 h
  refine pt_X6_9 X hP hS hk0 dX6_holdNothing_3 (fun H locs hP hS => ?_)
  rw [Option.some.inj e2] at hP
  refine lv_aload_n (pc := 6) hx hb dX6_holdNothing_6 rfl (lv_at hl 0 rfl) ?_
  refine lv_iconst (pc := 7) (v := (-1)) hx hb dX6_holdNothing_7 (by decide) ?_
  obtain ⟨σ3, e4, h⟩ := bnd1 h
  refine pt_X6_17 X hP hS hk0 dX6_holdNothing_8 (fun H locs hP hS => ?_)
  rw [Option.some.inj e4] at hP
  refine lv_aload_n (pc := 11) hx hb dX6_holdNothing_11 rfl (lv_at hl 0 rfl) ?_
  refine lv_iconst (pc := 12) (v := 0) hx hb dX6_holdNothing_12 (by decide) ?_
  obtain ⟨σ5, e6, h⟩ := bnd1 h
  refine pt_X6_20 X hP hS hk0 dX6_holdNothing_13 (fun H locs hP hS => ?_)
  rw [Option.some.inj e6] at hP
  obtain rfl := Option.some.inj h
  exact r_vret X hP hS dX6_holdNothing_16
def f_X6_holdBidder (k0 : Nat) (a1 : Int32) (σ : Mem) : Option Mem :=
  bd1 (f_X6_holdNothing k0 σ) fun σ1 =>
  bd1 (some (pI σ1 k0 0 a1)) fun σ3 =>
  some σ3
abbrev RM_X6_holdBidder : Room := { frames := 1, cells := 0, slots := 0, locals := 20 }
set_option maxHeartbeats 4000000 in
set_option maxRecDepth 100000 in
theorem c_X6_holdBidder (l : Launch) (G : Gh) {k0 : Nat} {a1 : Int32} {σ : Mem} {σr : Mem} (hk0 : kd k0 = 6) (h : f_X6_holdBidder k0 a1 σ = some σr) : Met l yX6_holdBidder [Cond.code yX6_holdBidder prog_8_method_2_code 2 none] RM_X6_holdBidder (va_Pc [.ref (ga G k0), .int a1] (Pre G σ)) (QG G none σr) 0 0 (AA G) := by
  refine ct_of (by decide) (fun p e s m below meth c X hP => ?_)
  have hx := X.hx
  have hb := X.hb
  have hS : va_S (AA G) s.heap s.heap [] := va_S.rf
  have hl := lv_entry ([.ref (ga G k0), .int a1]) (n := 2) (Nat.le_of_ble_eq_true rfl)
  rw [lg_entry_eq]
  generalize (lg_sl ([.ref (ga G k0), .int a1]) ++ List.replicate (2 - (lg_sl ([.ref (ga G k0), .int a1])).length) Slot.unset).toArray = ls at hl ⊢
  have hl : lv_has ls 2 [(0, .ref (ga G k0)), (1, .int a1)] := hl
  unfold f_X6_holdBidder at h
  refine lv_aload_n (pc := 0) hx hb dX6_holdBidder_0 rfl (lv_at hl 0 rfl) ?_
  obtain ⟨σ1, e2, h⟩ := bnd1 h
  refine cl_X6_23 X hP hS hk0 (As := []) (rest := []) (c_X6_holdNothing l G hk0 e2) ⟨rfl, rfl, Nat.le_of_ble_eq_true rfl, Nat.le_of_ble_eq_true rfl⟩ rfl hl.1 rfl (Nat.le_of_ble_eq_true rfl) ⟨Nat.zero_le _, Nat.zero_le _⟩ (pc := 1) dX6_holdBidder_1 (fun H locs hP hS => ?_)
  change W p l e _ s m _ below meth c H locs _ _ _ (F0 m (1 + 3) ls [])
  refine lv_aload_n (pc := 4) hx hb dX6_holdBidder_4 rfl (lv_at hl 0 rfl) ?_
  refine lv_iload_n (pc := 5) hx hb dX6_holdBidder_5 rfl (lv_at hl 1 rfl) ?_
  obtain ⟨σ3, e4, h⟩ := bnd1 h
  refine pt_X6_9 X hP hS hk0 dX6_holdBidder_6 (fun H locs hP hS => ?_)
  rw [Option.some.inj e4] at hP
  obtain rfl := Option.some.inj h
  exact r_vret X hP hS dX6_holdBidder_9
def f_X6_holdRow (k0 : Nat) (a1 : Nat) (σ : Mem) : Option Mem :=
  bd1 (some (pI σ k0 0 (-9 : Int32))) fun σ1 =>
  bd1 (some (pI σ1 k0 1 (gI σ1 a1 1))) fun σ3 =>
  bd1 (some (pI σ3 k0 2 (gI σ3 a1 2))) fun σ5 =>
  some σ5
abbrev RM_X6_holdRow : Room := { frames := 0, cells := 0, slots := 0, locals := 0 }
set_option maxHeartbeats 4000000 in
set_option maxRecDepth 100000 in
theorem c_X6_holdRow (l : Launch) (G : Gh) {k0 : Nat} {a1 : Nat} {σ : Mem} {σr : Mem} (hk0 : kd k0 = 6) (hk1 : kd a1 = 5) (h : f_X6_holdRow k0 a1 σ = some σr) : Met l yX6_holdRow [Cond.code yX6_holdRow prog_8_method_3_code 2 none] RM_X6_holdRow (va_Pc [.ref (ga G k0), .ref (ga G a1)] (Pre G σ)) (QG G none σr) 0 0 (AA G) := by
  refine ct_of (by decide) (fun p e s m below meth c X hP => ?_)
  have hx := X.hx
  have hb := X.hb
  have hS : va_S (AA G) s.heap s.heap [] := va_S.rf
  have hl := lv_entry ([.ref (ga G k0), .ref (ga G a1)]) (n := 2) (Nat.le_of_ble_eq_true rfl)
  rw [lg_entry_eq]
  generalize (lg_sl ([.ref (ga G k0), .ref (ga G a1)]) ++ List.replicate (2 - (lg_sl ([.ref (ga G k0), .ref (ga G a1)])).length) Slot.unset).toArray = ls at hl ⊢
  have hl : lv_has ls 2 [(0, .ref (ga G k0)), (1, .ref (ga G a1))] := hl
  unfold f_X6_holdRow at h
  refine lv_aload_n (pc := 0) hx hb dX6_holdRow_0 rfl (lv_at hl 0 rfl) ?_
  refine lv_bipush (pc := 1) (v := (-9)) hx hb dX6_holdRow_1 (by decide) ?_
  obtain ⟨σ1, e2, h⟩ := bnd1 h
  refine pt_X6_9 X hP hS hk0 dX6_holdRow_3 (fun H locs hP hS => ?_)
  rw [Option.some.inj e2] at hP
  refine lv_aload_n (pc := 6) hx hb dX6_holdRow_6 rfl (lv_at hl 0 rfl) ?_
  refine lv_aload_n (pc := 7) hx hb dX6_holdRow_7 rfl (lv_at hl 1 rfl) ?_
  refine gt_X6_26 X hP hk1 dX6_holdRow_8 ?_
  obtain ⟨σ3, e4, h⟩ := bnd1 h
  refine pt_X6_17 X hP hS hk0 dX6_holdRow_11 (fun H locs hP hS => ?_)
  rw [Option.some.inj e4] at hP
  refine lv_aload_n (pc := 14) hx hb dX6_holdRow_14 rfl (lv_at hl 0 rfl) ?_
  refine lv_aload_n (pc := 15) hx hb dX6_holdRow_15 rfl (lv_at hl 1 rfl) ?_
  refine gt_X6_27 X hP hk1 dX6_holdRow_16 ?_
  obtain ⟨σ5, e6, h⟩ := bnd1 h
  refine pt_X6_20 X hP hS hk0 dX6_holdRow_19 (fun H locs hP hS => ?_)
  rw [Option.some.inj e6] at hP
  obtain rfl := Option.some.inj h
  exact r_vret X hP hS dX6_holdRow_22
def f_X6_holdsRow (k0 : Nat) (σ : Mem) : Option (Int32 × Mem) :=
  if (gI σ k0 1) = (-1 : Int32) then
    some ((0 : Int32), σ)
  else
    some ((1 : Int32), σ)
abbrev RM_X6_holdsRow : Room := { frames := 0, cells := 0, slots := 0, locals := 0 }
set_option maxHeartbeats 4000000 in
set_option maxRecDepth 100000 in
theorem c_X6_holdsRow (l : Launch) (G : Gh) {k0 : Nat} {σ : Mem} {rr : Int32} {σr : Mem} (hk0 : kd k0 = 6) (h : f_X6_holdsRow k0 σ = some (rr, σr)) : Met l yX6_holdsRow [Cond.code yX6_holdsRow prog_8_method_5_code 1 (some .boolean)] RM_X6_holdsRow (va_Pc [.ref (ga G k0)] (Pre G σ)) (QG G (some (.int rr)) σr) 0 0 (AA G) := by
  refine ct_of (by decide) (fun p e s m below meth c X hP => ?_)
  have hx := X.hx
  have hb := X.hb
  have hS : va_S (AA G) s.heap s.heap [] := va_S.rf
  have hl := lv_entry ([.ref (ga G k0)]) (n := 1) (Nat.le_of_ble_eq_true rfl)
  rw [lg_entry_eq]
  generalize (lg_sl ([.ref (ga G k0)]) ++ List.replicate (1 - (lg_sl ([.ref (ga G k0)])).length) Slot.unset).toArray = ls at hl ⊢
  have hl : lv_has ls 1 [(0, .ref (ga G k0))] := hl
  unfold f_X6_holdsRow at h
  refine lv_aload_n (pc := 0) hx hb dX6_holdsRow_0 rfl (lv_at hl 0 rfl) ?_
  refine gt_X6_17 X hP hk0 dX6_holdsRow_1 ?_
  refine lv_iconst (pc := 4) (v := (-1)) hx hb dX6_holdsRow_4 (by decide) ?_
  refine lv_icmp_eq (pc := 5) (tgt := 12) hx hb dX6_holdsRow_5 (by decide) (fun c1 => ?_) (fun c1 => ?_)
  · have h := ipos c1 h
    refine lv_iconst (pc := 12) (v := 0) hx hb dX6_holdsRow_12 (by decide) ?_
    obtain ⟨rfl, rfl⟩ := inj2 h
    exact r_zret X hP hS (by decide) dX6_holdsRow_13
  · have h := ineg c1 h
    refine lv_iconst (pc := 8) (v := 1) hx hb dX6_holdsRow_8 (by decide) ?_
    refine lv_goto (pc := 9) (tgt := 13) hx hb dX6_holdsRow_9 (by decide) ?_
    obtain ⟨rfl, rfl⟩ := inj2 h
    exact r_zret X hP hS (by decide) dX6_holdsRow_13
