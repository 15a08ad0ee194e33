def F_X10_purse_30 (k0z : Nat) (v1 : Int32) (v2 : Int32) (v3 : Int32) (w2 : Int32) (σ : Mem) : Option (Int32 × Mem) :=
  bd2 (f_X10_in w2 (0 : Int32) (9999 : Int32) σ) fun r12 σ10 =>
  if r12 = (0 : Int32) then
    some ((-1 : Int32), σ10)
  else
    if v2 = (0 : Int32) then
      bd1 (ixo (k0z + 9) v1) fun j26 =>
      if v2 = (0 : Int32) then
        bd1 (ixo (k0z + 9) v1) fun j33 =>
        bd1 (some (pI σ10 (k0z + 9) j33 v3)) fun σ35 =>
        some ((gI σ10 (k0z + 9) j26), σ35)
      else
        bd1 (ixo (k0z + 10) ((5 : Int32) + v1)) fun j29 =>
        bd1 (some (pI σ10 (k0z + 10) j29 v3)) fun σ31 =>
        some ((gI σ10 (k0z + 9) j26), σ31)
    else
      bd1 (ixo (k0z + 10) ((5 : Int32) + v1)) fun j15 =>
      if v2 = (0 : Int32) then
        bd1 (ixo (k0z + 9) v1) fun j22 =>
        bd1 (some (pI σ10 (k0z + 9) j22 v3)) fun σ24 =>
        some ((gI σ10 (k0z + 10) j15), σ24)
      else
        bd1 (ixo (k0z + 10) ((5 : Int32) + v1)) fun j18 =>
        bd1 (some (pI σ10 (k0z + 10) j18 v3)) fun σ20 =>
        some ((gI σ10 (k0z + 10) j15), σ20)
def F_X10_purse_30x1 (k0z : Nat) (v1 : Int32) (v2 : Int32) (v3 : Int32) (w2 : Int32) (σ : Mem) : Option (Int32 × Mem) :=
  bd2 (f_X10_in w2 (0 : Int32) (999 : Int32) σ) fun r39 σ37 =>
  if r39 = (0 : Int32) then
    some ((-1 : Int32), σ37)
  else
    if v2 = (0 : Int32) then
      bd1 (ixo (k0z + 9) v1) fun j53 =>
      if v2 = (0 : Int32) then
        bd1 (ixo (k0z + 9) v1) fun j60 =>
        bd1 (some (pI σ37 (k0z + 9) j60 v3)) fun σ62 =>
        some ((gI σ37 (k0z + 9) j53), σ62)
      else
        bd1 (ixo (k0z + 10) ((5 : Int32) + v1)) fun j56 =>
        bd1 (some (pI σ37 (k0z + 10) j56 v3)) fun σ58 =>
        some ((gI σ37 (k0z + 9) j53), σ58)
    else
      bd1 (ixo (k0z + 10) ((5 : Int32) + v1)) fun j42 =>
      if v2 = (0 : Int32) then
        bd1 (ixo (k0z + 9) v1) fun j49 =>
        bd1 (some (pI σ37 (k0z + 9) j49 v3)) fun σ51 =>
        some ((gI σ37 (k0z + 10) j42), σ51)
      else
        bd1 (ixo (k0z + 10) ((5 : Int32) + v1)) fun j45 =>
        bd1 (some (pI σ37 (k0z + 10) j45 v3)) fun σ47 =>
        some ((gI σ37 (k0z + 10) j42), σ47)
def f_X10_purse (k0 : Nat) (a1 : Int32) (a2 : Int32) (a3 : Int32) (σ : Mem) : Option (Int32 × Mem) :=
  bd2 (f_X10_isBidder k0 a1 σ) fun r3 σ1 =>
  if r3 = (0 : Int32) then
    some ((-1 : Int32), σ1)
  else
    bd2 (f_X10_isSide a2 σ1) fun r7 σ5 =>
    if r7 = (0 : Int32) then
      some ((-1 : Int32), σ5)
    else
      if a2 = (0 : Int32) then
        F_X10_purse_30x1 k0 a1 a2 a3 a3 σ5
      else
        F_X10_purse_30 k0 a1 a2 a3 a3 σ5
abbrev RM_X10_purse : Room := { frames := 2, cells := 0, slots := 0, locals := 43 }
set_option maxHeartbeats 4000000 in
set_option maxRecDepth 100000 in
theorem w_X10_purse_30 {l : Launch} {G : Gh} {p : Program} {e : Env} {s : State} {m : MethodId} {args : Array Value} {below : List Frame} {meth : Method} {c : Code} (X : Cx G p s m args meth c prog_12_method_39_code RX10 5 (some .int)) {k0z : Nat} (hz0 : kd k0z = 10) {rr : Int32} {σr : Mem} : ∀ (v1 : Int32) (v2 : Int32) (v3 : Int32) (w2 : Int32) (σ : Mem) (H : Heap) (locs : List Loc) (ls : Array Slot), PW G σ H → va_S (AA G) s.heap H locs → lv_has ls 5 [(0, .ref (ga G k0z)), (1, .int v1), (2, .int v2), (3, .int v3)] → F_X10_purse_30 k0z v1 v2 v3 w2 σ = some (rr, σr) → W p l e RM_X10_purse s m args below meth c H locs 0 0 (MQ below (QG G (some (.int rr)) σr) args s 0 0 (AA G)) (F0 m 30 ls [.int (9999 : Int32), .int (0 : Int32), .int w2]) := by
  have hx := X.hx
  have hb := X.hb
  intro v1 v2 v3 w2 σ H locs ls hP hS hl h
  unfold F_X10_purse_30 at h
  obtain ⟨r12, σ10, e11, h⟩ := bnd2 h
  refine cl_X10_120 X hP hS (As := [.int w2, .int (0 : Int32), .int (9999 : Int32)]) (rest := []) (c_X10_in l G  e11) ⟨rfl, rfl, Nat.le_of_ble_eq_true rfl, Nat.le_of_ble_eq_true rfl⟩ rfl hl.1 rfl (Nat.le_of_ble_eq_true rfl) ⟨Nat.zero_le _, Nat.zero_le _⟩ (pc := 30) dX10_purse_30 (fun H locs hP hS => ?_)
  change W p l e _ s m _ below meth c H locs _ _ _ (F0 m (30 + 3) ls (.int r12 :: []))
  refine lv_if_ne (pc := 33) (tgt := 38) hx hb dX10_purse_33 (by decide) (fun c13 => ?_) (fun c13 => ?_)
  · have h := ineg c13 h
    refine lv_iload_n (pc := 38) hx hb dX10_purse_38 rfl (lv_at hl 2 rfl) ?_
    refine lv_if_ne (pc := 39) (tgt := 51) hx hb dX10_purse_39 (by decide) (fun c14 => ?_) (fun c14 => ?_)
    · have h := ineg c14 h
      refine lv_aload_n (pc := 51) hx hb dX10_purse_51 rfl (lv_at hl 0 rfl) ?_
      refine gt_X10_41 X hP hz0 dX10_purse_52 ?_
      refine lv_iconst (pc := 55) (v := 5) hx hb dX10_purse_55 (by decide) ?_
      refine lv_iload_n (pc := 56) hx hb dX10_purse_56 rfl (lv_at hl 1 rfl) ?_
      refine lv_iadd (pc := 57) hx hb dX10_purse_57 ?_
      obtain ⟨j15, hj16, h⟩ := bnd1 h
      refine r_iald (pc := 58) X hP (kf_10_row hz0).1 hj16 dX10_purse_58 ?_
      refine lv_istore (pc := 59) (lv' := [(4, .int (gI σ10 (k0z + 10) j15)), (0, .ref (ga G k0z)), (1, .int v1), (2, .int v2), (3, .int v3)]) hx hb dX10_purse_59 hl (by decide) rfl (fun ls hl => ?_)
      refine lv_iload_n (pc := 61) hx hb dX10_purse_61 rfl (lv_at hl 3 rfl) ?_
      refine lv_if_ne (pc := 62) (tgt := 75) hx hb dX10_purse_62 (by decide) (fun c17 => ?_) (fun c17 => ?_)
      · have h := ineg c17 h
        refine lv_aload_n (pc := 75) hx hb dX10_purse_75 rfl (lv_at hl 1 rfl) ?_
        refine gt_X10_41 X hP hz0 dX10_purse_76 ?_
        refine lv_iconst (pc := 79) (v := 5) hx hb dX10_purse_79 (by decide) ?_
        refine lv_iload_n (pc := 80) hx hb dX10_purse_80 rfl (lv_at hl 2 rfl) ?_
        refine lv_iadd (pc := 81) hx hb dX10_purse_81 ?_
        refine lv_iload_n (pc := 82) hx hb dX10_purse_82 rfl (lv_at hl 4 rfl) ?_
        obtain ⟨j18, hj19, h⟩ := bnd1 h
        obtain ⟨σ20, e21, h⟩ := bnd1 h
        refine r_iast (pc := 83) X hP hS (kf_10_row hz0).1 hj19 dX10_purse_83 (fun H locs hP hS => ?_)
        rw [Option.some.inj e21] at hP
        refine lv_iload (pc := 84) hx hb dX10_purse_84 (lv_at hl 0 rfl) ?_
        obtain ⟨rfl, rfl⟩ := inj2 h
        exact r_iret X hP hS dX10_purse_86
      · have h := ipos c17 h
        refine lv_aload_n (pc := 65) hx hb dX10_purse_65 rfl (lv_at hl 1 rfl) ?_
        refine gt_X10_38 X hP hz0 dX10_purse_66 ?_
        refine lv_iload_n (pc := 69) hx hb dX10_purse_69 rfl (lv_at hl 2 rfl) ?_
        refine lv_iload_n (pc := 70) hx hb dX10_purse_70 rfl (lv_at hl 4 rfl) ?_
        obtain ⟨j22, hj23, h⟩ := bnd1 h
        obtain ⟨σ24, e25, h⟩ := bnd1 h
        refine r_iast (pc := 71) X hP hS (kf_10_values hz0).1 hj23 dX10_purse_71 (fun H locs hP hS => ?_)
        rw [Option.some.inj e25] at hP
        refine lv_goto (pc := 72) (tgt := 84) hx hb dX10_purse_72 (by decide) ?_
        refine lv_iload (pc := 84) hx hb dX10_purse_84 (lv_at hl 0 rfl) ?_
        obtain ⟨rfl, rfl⟩ := inj2 h
        exact r_iret X hP hS dX10_purse_86
    · have h := ipos c14 h
      refine lv_aload_n (pc := 42) hx hb dX10_purse_42 rfl (lv_at hl 0 rfl) ?_
      refine gt_X10_38 X hP hz0 dX10_purse_43 ?_
      refine lv_iload_n (pc := 46) hx hb dX10_purse_46 rfl (lv_at hl 1 rfl) ?_
      obtain ⟨j26, hj27, h⟩ := bnd1 h
      refine r_iald (pc := 47) X hP (kf_10_values hz0).1 hj27 dX10_purse_47 ?_
      refine lv_goto (pc := 48) (tgt := 59) hx hb dX10_purse_48 (by decide) ?_
      refine lv_istore (pc := 59) (lv' := [(4, .int (gI σ10 (k0z + 9) j26)), (0, .ref (ga G k0z)), (1, .int v1), (2, .int v2), (3, .int v3)]) hx hb dX10_purse_59 hl (by decide) rfl (fun ls hl => ?_)
      refine lv_iload_n (pc := 61) hx hb dX10_purse_61 rfl (lv_at hl 3 rfl) ?_
      refine lv_if_ne (pc := 62) (tgt := 75) hx hb dX10_purse_62 (by decide) (fun c28 => ?_) (fun c28 => ?_)
      · have h := ineg c28 h
        refine lv_aload_n (pc := 75) hx hb dX10_purse_75 rfl (lv_at hl 1 rfl) ?_
        refine gt_X10_41 X hP hz0 dX10_purse_76 ?_
        refine lv_iconst (pc := 79) (v := 5) hx hb dX10_purse_79 (by decide) ?_
        refine lv_iload_n (pc := 80) hx hb dX10_purse_80 rfl (lv_at hl 2 rfl) ?_
        refine lv_iadd (pc := 81) hx hb dX10_purse_81 ?_
        refine lv_iload_n (pc := 82) hx hb dX10_purse_82 rfl (lv_at hl 4 rfl) ?_
        obtain ⟨j29, hj30, h⟩ := bnd1 h
        obtain ⟨σ31, e32, h⟩ := bnd1 h
        refine r_iast (pc := 83) X hP hS (kf_10_row hz0).1 hj30 dX10_purse_83 (fun H locs hP hS => ?_)
        rw [Option.some.inj e32] at hP
        refine lv_iload (pc := 84) hx hb dX10_purse_84 (lv_at hl 0 rfl) ?_
        obtain ⟨rfl, rfl⟩ := inj2 h
        exact r_iret X hP hS dX10_purse_86
      · have h := ipos c28 h
        refine lv_aload_n (pc := 65) hx hb dX10_purse_65 rfl (lv_at hl 1 rfl) ?_
        refine gt_X10_38 X hP hz0 dX10_purse_66 ?_
        refine lv_iload_n (pc := 69) hx hb dX10_purse_69 rfl (lv_at hl 2 rfl) ?_
        refine lv_iload_n (pc := 70) hx hb dX10_purse_70 rfl (lv_at hl 4 rfl) ?_
        obtain ⟨j33, hj34, h⟩ := bnd1 h
        obtain ⟨σ35, e36, h⟩ := bnd1 h
        refine r_iast (pc := 71) X hP hS (kf_10_values hz0).1 hj34 dX10_purse_71 (fun H locs hP hS => ?_)
        rw [Option.some.inj e36] at hP
        refine lv_goto (pc := 72) (tgt := 84) hx hb dX10_purse_72 (by decide) ?_
        refine lv_iload (pc := 84) hx hb dX10_purse_84 (lv_at hl 0 rfl) ?_
        obtain ⟨rfl, rfl⟩ := inj2 h
        exact r_iret X hP hS dX10_purse_86
  · have h := ipos c13 h
    refine lv_iconst (pc := 36) (v := (-1)) hx hb dX10_purse_36 (by decide) ?_
    obtain ⟨rfl, rfl⟩ := inj2 h
    exact r_iret X hP hS dX10_purse_37
set_option maxHeartbeats 4000000 in
set_option maxRecDepth 100000 in
theorem w_X10_purse_30x1 {l : Launch} {G : Gh} {p : Program} {e : Env} {s : State} {m : MethodId} {args : Array Value} {below : List Frame} {meth : Method} {c : Code} (X : Cx G p s m args meth c prog_12_method_39_code RX10 5 (some .int)) {k0z : Nat} (hz0 : kd k0z = 10) {rr : Int32} {σr : Mem} : ∀ (v1 : Int32) (v2 : Int32) (v3 : Int32) (w2 : Int32) (σ : Mem) (H : Heap) (locs : List Loc) (ls : Array Slot), PW G σ H → va_S (AA G) s.heap H locs → lv_has ls 5 [(0, .ref (ga G k0z)), (1, .int v1), (2, .int v2), (3, .int v3)] → F_X10_purse_30x1 k0z v1 v2 v3 w2 σ = some (rr, σr) → W p l e RM_X10_purse s m args below meth c H locs 0 0 (MQ below (QG G (some (.int rr)) σr) args s 0 0 (AA G)) (F0 m 30 ls [.int (999 : Int32), .int (0 : Int32), .int w2]) := by
  have hx := X.hx
  have hb := X.hb
  intro v1 v2 v3 w2 σ H locs ls hP hS hl h
  unfold F_X10_purse_30x1 at h
  obtain ⟨r39, σ37, e38, h⟩ := bnd2 h
  refine cl_X10_120 X hP hS (As := [.int w2, .int (0 : Int32), .int (999 : Int32)]) (rest := []) (c_X10_in l G  e38) ⟨rfl, rfl, Nat.le_of_ble_eq_true rfl, Nat.le_of_ble_eq_true rfl⟩ rfl hl.1 rfl (Nat.le_of_ble_eq_true rfl) ⟨Nat.zero_le _, Nat.zero_le _⟩ (pc := 30) dX10_purse_30 (fun H locs hP hS => ?_)
  change W p l e _ s m _ below meth c H locs _ _ _ (F0 m (30 + 3) ls (.int r39 :: []))
  refine lv_if_ne (pc := 33) (tgt := 38) hx hb dX10_purse_33 (by decide) (fun c40 => ?_) (fun c40 => ?_)
  · have h := ineg c40 h
    refine lv_iload_n (pc := 38) hx hb dX10_purse_38 rfl (lv_at hl 2 rfl) ?_
    refine lv_if_ne (pc := 39) (tgt := 51) hx hb dX10_purse_39 (by decide) (fun c41 => ?_) (fun c41 => ?_)
    · have h := ineg c41 h
      refine lv_aload_n (pc := 51) hx hb dX10_purse_51 rfl (lv_at hl 0 rfl) ?_
      refine gt_X10_41 X hP hz0 dX10_purse_52 ?_
      refine lv_iconst (pc := 55) (v := 5) hx hb dX10_purse_55 (by decide) ?_
      refine lv_iload_n (pc := 56) hx hb dX10_purse_56 rfl (lv_at hl 1 rfl) ?_
      refine lv_iadd (pc := 57) hx hb dX10_purse_57 ?_
      obtain ⟨j42, hj43, h⟩ := bnd1 h
      refine r_iald (pc := 58) X hP (kf_10_row hz0).1 hj43 dX10_purse_58 ?_
      refine lv_istore (pc := 59) (lv' := [(4, .int (gI σ37 (k0z + 10) j42)), (0, .ref (ga G k0z)), (1, .int v1), (2, .int v2), (3, .int v3)]) hx hb dX10_purse_59 hl (by decide) rfl (fun ls hl => ?_)
      refine lv_iload_n (pc := 61) hx hb dX10_purse_61 rfl (lv_at hl 3 rfl) ?_
      refine lv_if_ne (pc := 62) (tgt := 75) hx hb dX10_purse_62 (by decide) (fun c44 => ?_) (fun c44 => ?_)
      · have h := ineg c44 h
        refine lv_aload_n (pc := 75) hx hb dX10_purse_75 rfl (lv_at hl 1 rfl) ?_
        refine gt_X10_41 X hP hz0 dX10_purse_76 ?_
        refine lv_iconst (pc := 79) (v := 5) hx hb dX10_purse_79 (by decide) ?_
        refine lv_iload_n (pc := 80) hx hb dX10_purse_80 rfl (lv_at hl 2 rfl) ?_
        refine lv_iadd (pc := 81) hx hb dX10_purse_81 ?_
        refine lv_iload_n (pc := 82) hx hb dX10_purse_82 rfl (lv_at hl 4 rfl) ?_
        obtain ⟨j45, hj46, h⟩ := bnd1 h
        obtain ⟨σ47, e48, h⟩ := bnd1 h
        refine r_iast (pc := 83) X hP hS (kf_10_row hz0).1 hj46 dX10_purse_83 (fun H locs hP hS => ?_)
        rw [Option.some.inj e48] at hP
        refine lv_iload (pc := 84) hx hb dX10_purse_84 (lv_at hl 0 rfl) ?_
        obtain ⟨rfl, rfl⟩ := inj2 h
        exact r_iret X hP hS dX10_purse_86
      · have h := ipos c44 h
        refine lv_aload_n (pc := 65) hx hb dX10_purse_65 rfl (lv_at hl 1 rfl) ?_
        refine gt_X10_38 X hP hz0 dX10_purse_66 ?_
        refine lv_iload_n (pc := 69) hx hb dX10_purse_69 rfl (lv_at hl 2 rfl) ?_
        refine lv_iload_n (pc := 70) hx hb dX10_purse_70 rfl (lv_at hl 4 rfl) ?_
        obtain ⟨j49, hj50, h⟩ := bnd1 h
        obtain ⟨σ51, e52, h⟩ := bnd1 h
        refine r_iast (pc := 71) X hP hS (kf_10_values hz0).1 hj50 dX10_purse_71 (fun H locs hP hS => ?_)
        rw [Option.some.inj e52] at hP
        refine lv_goto (pc := 72) (tgt := 84) hx hb dX10_purse_72 (by decide) ?_
        refine lv_iload (pc := 84) hx hb dX10_purse_84 (lv_at hl 0 rfl) ?_
        obtain ⟨rfl, rfl⟩ := inj2 h
        exact r_iret X hP hS dX10_purse_86
    · have h := ipos c41 h
      refine lv_aload_n (pc := 42) hx hb dX10_purse_42 rfl (lv_at hl 0 rfl) ?_
      refine gt_X10_38 X hP hz0 dX10_purse_43 ?_
      refine lv_iload_n (pc := 46) hx hb dX10_purse_46 rfl (lv_at hl 1 rfl) ?_
      obtain ⟨j53, hj54, h⟩ := bnd1 h
      refine r_iald (pc := 47) X hP (kf_10_values hz0).1 hj54 dX10_purse_47 ?_
      refine lv_goto (pc := 48) (tgt := 59) hx hb dX10_purse_48 (by decide) ?_
      refine lv_istore (pc := 59) (lv' := [(4, .int (gI σ37 (k0z + 9) j53)), (0, .ref (ga G k0z)), (1, .int v1), (2, .int v2), (3, .int v3)]) hx hb dX10_purse_59 hl (by decide) rfl (fun ls hl => ?_)
      refine lv_iload_n (pc := 61) hx hb dX10_purse_61 rfl (lv_at hl 3 rfl) ?_
      refine lv_if_ne (pc := 62) (tgt := 75) hx hb dX10_purse_62 (by decide) (fun c55 => ?_) (fun c55 => ?_)
      · have h := ineg c55 h
        refine lv_aload_n (pc := 75) hx hb dX10_purse_75 rfl (lv_at hl 1 rfl) ?_
        refine gt_X10_41 X hP hz0 dX10_purse_76 ?_
        refine lv_iconst (pc := 79) (v := 5) hx hb dX10_purse_79 (by decide) ?_
        refine lv_iload_n (pc := 80) hx hb dX10_purse_80 rfl (lv_at hl 2 rfl) ?_
        refine lv_iadd (pc := 81) hx hb dX10_purse_81 ?_
        refine lv_iload_n (pc := 82) hx hb dX10_purse_82 rfl (lv_at hl 4 rfl) ?_
        obtain ⟨j56, hj57, h⟩ := bnd1 h
        obtain ⟨σ58, e59, h⟩ := bnd1 h
        refine r_iast (pc := 83) X hP hS (kf_10_row hz0).1 hj57 dX10_purse_83 (fun H locs hP hS => ?_)
        rw [Option.some.inj e59] at hP
        refine lv_iload (pc := 84) hx hb dX10_purse_84 (lv_at hl 0 rfl) ?_
        obtain ⟨rfl, rfl⟩ := inj2 h
        exact r_iret X hP hS dX10_purse_86
      · have h := ipos c55 h
        refine lv_aload_n (pc := 65) hx hb dX10_purse_65 rfl (lv_at hl 1 rfl) ?_
        refine gt_X10_38 X hP hz0 dX10_purse_66 ?_
        refine lv_iload_n (pc := 69) hx hb dX10_purse_69 rfl (lv_at hl 2 rfl) ?_
        refine lv_iload_n (pc := 70) hx hb dX10_purse_70 rfl (lv_at hl 4 rfl) ?_
        obtain ⟨j60, hj61, h⟩ := bnd1 h
        obtain ⟨σ62, e63, h⟩ := bnd1 h
        refine r_iast (pc := 71) X hP hS (kf_10_values hz0).1 hj61 dX10_purse_71 (fun H locs hP hS => ?_)
        rw [Option.some.inj e63] at hP
        refine lv_goto (pc := 72) (tgt := 84) hx hb dX10_purse_72 (by decide) ?_
        refine lv_iload (pc := 84) hx hb dX10_purse_84 (lv_at hl 0 rfl) ?_
        obtain ⟨rfl, rfl⟩ := inj2 h
        exact r_iret X hP hS dX10_purse_86
  · have h := ipos c40 h
    refine lv_iconst (pc := 36) (v := (-1)) hx hb dX10_purse_36 (by decide) ?_
    obtain ⟨rfl, rfl⟩ := inj2 h
    exact r_iret X hP hS dX10_purse_37
set_option maxHeartbeats 4000000 in
set_option maxRecDepth 100000 in
theorem c_X10_purse (l : Launch) (G : Gh) {k0 : Nat} {a1 : Int32} {a2 : Int32} {a3 : Int32} {σ : Mem} {rr : Int32} {σr : Mem} (hk0 : kd k0 = 10) (h : f_X10_purse k0 a1 a2 a3 σ = some (rr, σr)) : Met l yX10_purse [Cond.code yX10_purse prog_12_method_39_code 5 (some .int)] RM_X10_purse (va_Pc [.ref (ga G k0), .int a1, .int a2, .int a3] (Pre G σ)) (QG G (some (.int rr)) σr) 0 0 (AA G) := by
  refine ct_of (by decide) (fun p e s m below meth c X hP => ?_)
  have hx := X.hx
  have hb := X.hb
  have hS : va_S (AA G) s.heap s.heap [] := va_S.rf
  have hl := lv_entry ([.ref (ga G k0), .int a1, .int a2, .int a3]) (n := 5) (Nat.le_of_ble_eq_true rfl)
  rw [lg_entry_eq]
  generalize (lg_sl ([.ref (ga G k0), .int a1, .int a2, .int a3]) ++ List.replicate (5 - (lg_sl ([.ref (ga G k0), .int a1, .int a2, .int a3])).length) Slot.unset).toArray = ls at hl ⊢
  have hl : lv_has ls 5 [(0, .ref (ga G k0)), (1, .int a1), (2, .int a2), (3, .int a3)] := hl
  unfold f_X10_purse at h
  refine lv_aload_n (pc := 0) hx hb dX10_purse_0 rfl (lv_at hl 0 rfl) ?_
  refine lv_iload_n (pc := 1) hx hb dX10_purse_1 rfl (lv_at hl 1 rfl) ?_
  obtain ⟨r3, σ1, e2, h⟩ := bnd2 h
  refine cl_X10_271 X hP hS hk0 (As := [.int a1]) (rest := []) (c_X10_isBidder l G hk0 e2) ⟨rfl, rfl, Nat.le_of_ble_eq_true rfl, Nat.le_of_ble_eq_true rfl⟩ rfl hl.1 rfl (Nat.le_of_ble_eq_true rfl) ⟨Nat.zero_le _, Nat.zero_le _⟩ (pc := 2) dX10_purse_2 (fun H locs hP hS => ?_)
  change W p l e _ s m _ below meth c H locs _ _ _ (F0 m (2 + 3) ls (.int r3 :: []))
  refine lv_if_eq (pc := 5) (tgt := 36) hx hb dX10_purse_5 (by decide) (fun c4 => ?_) (fun c4 => ?_)
  · have h := ipos c4 h
    refine lv_iconst (pc := 36) (v := (-1)) hx hb dX10_purse_36 (by decide) ?_
    obtain ⟨rfl, rfl⟩ := inj2 h
    exact r_iret X hP hS dX10_purse_37
  · have h := ineg c4 h
    refine lv_iload_n (pc := 8) hx hb dX10_purse_8 rfl (lv_at hl 2 rfl) ?_
    obtain ⟨r7, σ5, e6, h⟩ := bnd2 h
    refine cl_X10_265 X hP hS (As := [.int a2]) (rest := []) (c_X10_isSide l G  e6) ⟨rfl, rfl, Nat.le_of_ble_eq_true rfl, Nat.le_of_ble_eq_true rfl⟩ rfl hl.1 rfl (Nat.le_of_ble_eq_true rfl) ⟨Nat.zero_le _, Nat.zero_le _⟩ (pc := 9) dX10_purse_9 (fun H locs hP hS => ?_)
    change W p l e _ s m _ below meth c H locs _ _ _ (F0 m (9 + 3) ls (.int r7 :: []))
    refine lv_if_eq (pc := 12) (tgt := 36) hx hb dX10_purse_12 (by decide) (fun c8 => ?_) (fun c8 => ?_)
    · have h := ipos c8 h
      refine lv_iconst (pc := 36) (v := (-1)) hx hb dX10_purse_36 (by decide) ?_
      obtain ⟨rfl, rfl⟩ := inj2 h
      exact r_iret X hP hS dX10_purse_37
    · have h := ineg c8 h
      refine lv_iload_n (pc := 15) hx hb dX10_purse_15 rfl (lv_at hl 3 rfl) ?_
      refine lv_iconst (pc := 16) (v := 0) hx hb dX10_purse_16 (by decide) ?_
      refine lv_iload_n (pc := 17) hx hb dX10_purse_17 rfl (lv_at hl 2 rfl) ?_
      refine lv_if_ne (pc := 18) (tgt := 27) hx hb dX10_purse_18 (by decide) (fun c9 => ?_) (fun c9 => ?_)
      · have h := ineg c9 h
        refine lv_sipush (pc := 27) (v := (9999)) hx hb dX10_purse_27 (by decide) ?_
        exact w_X10_purse_30 X  hk0  _ _ _ _ _ _ _ _ hP hS (lv_sub hl [0, 1, 2, 3] rfl) h
      · have h := ipos c9 h
        refine lv_sipush (pc := 21) (v := (999)) hx hb dX10_purse_21 (by decide) ?_
        refine lv_goto (pc := 24) (tgt := 30) hx hb dX10_purse_24 (by decide) ?_
        exact w_X10_purse_30x1 X  hk0  _ _ _ _ _ _ _ _ hP hS (lv_sub hl [0, 1, 2, 3] rfl) h
def f_X10_limitOf (k0 : Nat) (a1 : Int32) (a2 : Int32) (σ : Mem) : Option (Int32 × Mem) :=
  bd1 (ixo (k0 + 9) a1) fun j1 =>
  bd1 (ixo (k0 + 2) a2) fun j3 =>
  bd2 (f_X10_its k0 ((5 : Int32) + a1) σ) fun r7 σ5 =>
  if r7 ≤ (((gI σ (k0 + 9) j1) * (gI σ (k0 + 2) j3)) / (100 : Int32)) then
    bd2 (f_X10_its k0 ((5 : Int32) + a1) σ5) fun r11 σ9 =>
    bd1 (ixo (k0 + 7) a1) fun j12 =>
    if (gI σ9 (k0 + 7) j12) = (4 : Int32) then
      some ((((9 : Int32) * r11) / (10 : Int32)), σ9)
    else
      some (r11, σ9)
  else
    bd1 (ixo (k0 + 7) a1) fun j15 =>
    if (gI σ5 (k0 + 7) j15) = (4 : Int32) then
      some ((((9 : Int32) * (((gI σ (k0 + 9) j1) * (gI σ (k0 + 2) j3)) / (100 : Int32))) / (10 : Int32)), σ5)
    else
      some ((((gI σ (k0 + 9) j1) * (gI σ (k0 + 2) j3)) / (100 : Int32)), σ5)
abbrev RM_X10_limitOf : Room := { frames := 1, cells := 0, slots := 0, locals := 21 }
set_option maxHeartbeats 4000000 in
set_option maxRecDepth 100000 in
theorem c_X10_limitOf (l : Launch) (G : Gh) {k0 : Nat} {a1 : Int32} {a2 : Int32} {σ : Mem} {rr : Int32} {σr : Mem} (hk0 : kd k0 = 10) (h : f_X10_limitOf k0 a1 a2 σ = some (rr, σr)) : Met l yX10_limitOf [Cond.code yX10_limitOf prog_12_method_40_code 5 (some .int)] RM_X10_limitOf (va_Pc [.ref (ga G k0), .int a1, .int a2] (Pre G σ)) (QG G (some (.int rr)) σr) 0 0 (AA G) := by
  refine ct_of (by decide) (fun p e s m below meth c X hP => ?_)
  have hx := X.hx
  have hb := X.hb
  have hS : va_S (AA G) s.heap s.heap [] := va_S.rf
  have hl := lv_entry ([.ref (ga G k0), .int a1, .int a2]) (n := 5) (Nat.le_of_ble_eq_true rfl)
  rw [lg_entry_eq]
  generalize (lg_sl ([.ref (ga G k0), .int a1, .int a2]) ++ List.replicate (5 - (lg_sl ([.ref (ga G k0), .int a1, .int a2])).length) Slot.unset).toArray = ls at hl ⊢
  have hl : lv_has ls 5 [(0, .ref (ga G k0)), (1, .int a1), (2, .int a2)] := hl
  unfold f_X10_limitOf at h
  refine lv_aload_n (pc := 0) hx hb dX10_limitOf_0 rfl (lv_at hl 0 rfl) ?_
  refine gt_X10_38 X hP hk0 dX10_limitOf_1 ?_
  refine lv_iload_n (pc := 4) hx hb dX10_limitOf_4 rfl (lv_at hl 1 rfl) ?_
  obtain ⟨j1, hj2, h⟩ := bnd1 h
  refine r_iald (pc := 5) X hP (kf_10_values hk0).1 hj2 dX10_limitOf_5 ?_
  refine lv_aload_n (pc := 6) hx hb dX10_limitOf_6 rfl (lv_at hl 0 rfl) ?_
  refine gt_X10_13 X hP hk0 dX10_limitOf_7 ?_
  refine lv_iload_n (pc := 10) hx hb dX10_limitOf_10 rfl (lv_at hl 2 rfl) ?_
  obtain ⟨j3, hj4, h⟩ := bnd1 h
  refine r_iald (pc := 11) X hP (kf_10_worths hk0).1 hj4 dX10_limitOf_11 ?_
  refine lv_imul (pc := 12) hx hb dX10_limitOf_12 ?_
  refine lv_bipush (pc := 13) (v := (100)) hx hb dX10_limitOf_13 (by decide) ?_
  refine lv_idiv (pc := 15) hx hb dX10_limitOf_15 (by decide) ?_
  refine lv_istore_n (pc := 16) (lv' := [(3, .int (((gI σ (k0 + 9) j1) * (gI σ (k0 + 2) j3)) / (100 : Int32))), (0, .ref (ga G k0)), (1, .int a1), (2, .int a2)]) hx hb dX10_limitOf_16 rfl hl (by decide) rfl (fun ls hl => ?_)
  refine lv_iload_n (pc := 17) hx hb dX10_limitOf_17 rfl (lv_at hl 0 rfl) ?_
  refine lv_aload_n (pc := 18) hx hb dX10_limitOf_18 rfl (lv_at hl 1 rfl) ?_
  refine lv_iconst (pc := 19) (v := 5) hx hb dX10_limitOf_19 (by decide) ?_
  refine lv_iload_n (pc := 20) hx hb dX10_limitOf_20 rfl (lv_at hl 2 rfl) ?_
  refine lv_iadd (pc := 21) hx hb dX10_limitOf_21 ?_
  obtain ⟨r7, σ5, e6, h⟩ := bnd2 h
  refine cl_X10_277 X hP hS hk0 (As := [.int ((5 : Int32) + a1)]) (rest := [.int (((gI σ (k0 + 9) j1) * (gI σ (k0 + 2) j3)) / (100 : Int32))]) (c_X10_its l G hk0 e6) ⟨rfl, rfl, Nat.le_of_ble_eq_true rfl, Nat.le_of_ble_eq_true rfl⟩ rfl hl.1 rfl (Nat.le_of_ble_eq_true rfl) ⟨Nat.zero_le _, Nat.zero_le _⟩ (pc := 22) dX10_limitOf_22 (fun H locs hP hS => ?_)
  change W p l e _ s m _ below meth c H locs _ _ _ (F0 m (22 + 3) ls (.int r7 :: [.int (((gI σ (k0 + 9) j1) * (gI σ (k0 + 2) j3)) / (100 : Int32))]))
  refine lv_icmp_ge (pc := 25) (tgt := 32) hx hb dX10_limitOf_25 (by decide) (fun c8 => ?_) (fun c8 => ?_)
  · have h := ipos c8 h
    refine lv_aload_n (pc := 32) hx hb dX10_limitOf_32 rfl (lv_at hl 1 rfl) ?_
    refine lv_iconst (pc := 33) (v := 5) hx hb dX10_limitOf_33 (by decide) ?_
    refine lv_iload_n (pc := 34) hx hb dX10_limitOf_34 rfl (lv_at hl 2 rfl) ?_
    refine lv_iadd (pc := 35) hx hb dX10_limitOf_35 ?_
    obtain ⟨r11, σ9, e10, h⟩ := bnd2 h
    refine cl_X10_277 X hP hS hk0 (As := [.int ((5 : Int32) + a1)]) (rest := []) (c_X10_its l G hk0 e10) ⟨rfl, rfl, Nat.le_of_ble_eq_true rfl, Nat.le_of_ble_eq_true rfl⟩ rfl hl.1 rfl (Nat.le_of_ble_eq_true rfl) ⟨Nat.zero_le _, Nat.zero_le _⟩ (pc := 36) dX10_limitOf_36 (fun H locs hP hS => ?_)
    change W p l e _ s m _ below meth c H locs _ _ _ (F0 m (36 + 3) ls (.int r11 :: []))
    refine lv_istore (pc := 39) (lv' := [(4, .int r11), (3, .int (((gI σ (k0 + 9) j1) * (gI σ (k0 + 2) j3)) / (100 : Int32))), (0, .ref (ga G k0)), (1, .int a1), (2, .int a2)]) hx hb dX10_limitOf_39 hl (by decide) rfl (fun ls hl => ?_)
    refine lv_aload_n (pc := 41) hx hb dX10_limitOf_41 rfl (lv_at hl 2 rfl) ?_
    refine gt_X10_32 X hP hk0 dX10_limitOf_42 ?_
    refine lv_iload_n (pc := 45) hx hb dX10_limitOf_45 rfl (lv_at hl 3 rfl) ?_
    obtain ⟨j12, hj13, h⟩ := bnd1 h
    refine r_iald (pc := 46) X hP (kf_10_kinds hk0).1 hj13 dX10_limitOf_46 ?_
    refine lv_iconst (pc := 47) (v := 4) hx hb dX10_limitOf_47 (by decide) ?_
    refine lv_icmp_ne (pc := 48) (tgt := 62) hx hb dX10_limitOf_48 (by decide) (fun c14 => ?_) (fun c14 => ?_)
    · have h := ineg c14 h
      refine lv_iload (pc := 62) hx hb dX10_limitOf_62 (lv_at hl 0 rfl) ?_
      obtain ⟨rfl, rfl⟩ := inj2 h
      exact r_iret X hP hS dX10_limitOf_64
    · have h := ipos c14 h
      refine lv_bipush (pc := 51) (v := (9)) hx hb dX10_limitOf_51 (by decide) ?_
      refine lv_iload (pc := 53) hx hb dX10_limitOf_53 (lv_at hl 0 rfl) ?_
      refine lv_imul (pc := 55) hx hb dX10_limitOf_55 ?_
      refine lv_bipush (pc := 56) (v := (10)) hx hb dX10_limitOf_56 (by decide) ?_
      refine lv_idiv (pc := 58) hx hb dX10_limitOf_58 (by decide) ?_
      refine lv_goto (pc := 59) (tgt := 64) hx hb dX10_limitOf_59 (by decide) ?_
      obtain ⟨rfl, rfl⟩ := inj2 h
      exact r_iret X hP hS dX10_limitOf_64
  · have h := ineg c8 h
    refine lv_iload_n (pc := 28) hx hb dX10_limitOf_28 rfl (lv_at hl 0 rfl) ?_
    refine lv_goto (pc := 29) (tgt := 39) hx hb dX10_limitOf_29 (by decide) ?_
    refine lv_istore (pc := 39) (lv' := [(4, .int (((gI σ (k0 + 9) j1) * (gI σ (k0 + 2) j3)) / (100 : Int32))), (3, .int (((gI σ (k0 + 9) j1) * (gI σ (k0 + 2) j3)) / (100 : Int32))), (0, .ref (ga G k0)), (1, .int a1), (2, .int a2)]) hx hb dX10_limitOf_39 hl (by decide) rfl (fun ls hl => ?_)
    refine lv_aload_n (pc := 41) hx hb dX10_limitOf_41 rfl (lv_at hl 2 rfl) ?_
    refine gt_X10_32 X hP hk0 dX10_limitOf_42 ?_
    refine lv_iload_n (pc := 45) hx hb dX10_limitOf_45 rfl (lv_at hl 3 rfl) ?_
    obtain ⟨j15, hj16, h⟩ := bnd1 h
    refine r_iald (pc := 46) X hP (kf_10_kinds hk0).1 hj16 dX10_limitOf_46 ?_
    refine lv_iconst (pc := 47) (v := 4) hx hb dX10_limitOf_47 (by decide) ?_
    refine lv_icmp_ne (pc := 48) (tgt := 62) hx hb dX10_limitOf_48 (by decide) (fun c17 => ?_) (fun c17 => ?_)
    · have h := ineg c17 h
      refine lv_iload (pc := 62) hx hb dX10_limitOf_62 (lv_at hl 0 rfl) ?_
      obtain ⟨rfl, rfl⟩ := inj2 h
      exact r_iret X hP hS dX10_limitOf_64
    · have h := ipos c17 h
      refine lv_bipush (pc := 51) (v := (9)) hx hb dX10_limitOf_51 (by decide) ?_
      refine lv_iload (pc := 53) hx hb dX10_limitOf_53 (lv_at hl 0 rfl) ?_
      refine lv_imul (pc := 55) hx hb dX10_limitOf_55 ?_
      refine lv_bipush (pc := 56) (v := (10)) hx hb dX10_limitOf_56 (by decide) ?_
      refine lv_idiv (pc := 58) hx hb dX10_limitOf_58 (by decide) ?_
      refine lv_goto (pc := 59) (tgt := 64) hx hb dX10_limitOf_59 (by decide) ?_
      obtain ⟨rfl, rfl⟩ := inj2 h
      exact r_iret X hP hS dX10_limitOf_64
def f_X10_limit (k0 : Nat) (a1 : Int32) (a2 : Int32) (σ : Mem) : Option (Int32 × Mem) :=
  bd2 (f_X10_isBidder k0 a1 σ) fun r3 σ1 =>
  if r3 = (0 : Int32) then
    some ((-1 : Int32), σ1)
  else
    bd2 (f_X10_isLot k0 a2 σ1) fun r7 σ5 =>
    if r7 = (0 : Int32) then
      some ((-1 : Int32), σ5)
    else
      bd2 (f_X10_limitOf k0 a1 a2 σ5) fun r11 σ9 =>
      some (r11, σ9)
abbrev RM_X10_limit : Room := { frames := 2, cells := 0, slots := 0, locals := 45 }
set_option maxHeartbeats 4000000 in
set_option maxRecDepth 100000 in
theorem c_X10_limit (l : Launch) (G : Gh) {k0 : Nat} {a1 : Int32} {a2 : Int32} {σ : Mem} {rr : Int32} {σr : Mem} (hk0 : kd k0 = 10) (h : f_X10_limit k0 a1 a2 σ = some (rr, σr)) : Met l yX10_limit [Cond.code yX10_limit prog_12_method_41_code 3 (some .int)] RM_X10_limit (va_Pc [.ref (ga G k0), .int a1, .int a2] (Pre G σ)) (QG G (some (.int rr)) σr) 0 0 (AA G) := by
  refine ct_of (by decide) (fun p e s m below meth c X hP => ?_)
  have hx := X.hx
  have hb := X.hb
  have hS : va_S (AA G) s.heap s.heap [] := va_S.rf
  have hl := lv_entry ([.ref (ga G k0), .int a1, .int a2]) (n := 3) (Nat.le_of_ble_eq_true rfl)
  rw [lg_entry_eq]
  generalize (lg_sl ([.ref (ga G k0), .int a1, .int a2]) ++ List.replicate (3 - (lg_sl ([.ref (ga G k0), .int a1, .int a2])).length) Slot.unset).toArray = ls at hl ⊢
  have hl : lv_has ls 3 [(0, .ref (ga G k0)), (1, .int a1), (2, .int a2)] := hl
  unfold f_X10_limit at h
  refine lv_aload_n (pc := 0) hx hb dX10_limit_0 rfl (lv_at hl 0 rfl) ?_
  refine lv_iload_n (pc := 1) hx hb dX10_limit_1 rfl (lv_at hl 1 rfl) ?_
  obtain ⟨r3, σ1, e2, h⟩ := bnd2 h
  refine cl_X10_271 X hP hS hk0 (As := [.int a1]) (rest := []) (c_X10_isBidder l G hk0 e2) ⟨rfl, rfl, Nat.le_of_ble_eq_true rfl, Nat.le_of_ble_eq_true rfl⟩ rfl hl.1 rfl (Nat.le_of_ble_eq_true rfl) ⟨Nat.zero_le _, Nat.zero_le _⟩ (pc := 2) dX10_limit_2 (fun H locs hP hS => ?_)
  change W p l e _ s m _ below meth c H locs _ _ _ (F0 m (2 + 3) ls (.int r3 :: []))
  refine lv_if_eq (pc := 5) (tgt := 25) hx hb dX10_limit_5 (by decide) (fun c4 => ?_) (fun c4 => ?_)
  · have h := ipos c4 h
    refine lv_iconst (pc := 25) (v := (-1)) hx hb dX10_limit_25 (by decide) ?_
    obtain ⟨rfl, rfl⟩ := inj2 h
    exact r_iret X hP hS dX10_limit_26
  · have h := ineg c4 h
    refine lv_aload_n (pc := 8) hx hb dX10_limit_8 rfl (lv_at hl 0 rfl) ?_
    refine lv_iload_n (pc := 9) hx hb dX10_limit_9 rfl (lv_at hl 2 rfl) ?_
    obtain ⟨r7, σ5, e6, h⟩ := bnd2 h
    refine cl_X10_124 X hP hS hk0 (As := [.int a2]) (rest := []) (c_X10_isLot l G hk0 e6) ⟨rfl, rfl, Nat.le_of_ble_eq_true rfl, Nat.le_of_ble_eq_true rfl⟩ rfl hl.1 rfl (Nat.le_of_ble_eq_true rfl) ⟨Nat.zero_le _, Nat.zero_le _⟩ (pc := 10) dX10_limit_10 (fun H locs hP hS => ?_)
    change W p l e _ s m _ below meth c H locs _ _ _ (F0 m (10 + 3) ls (.int r7 :: []))
    refine lv_if_eq (pc := 13) (tgt := 25) hx hb dX10_limit_13 (by decide) (fun c8 => ?_) (fun c8 => ?_)
    · have h := ipos c8 h
      refine lv_iconst (pc := 25) (v := (-1)) hx hb dX10_limit_25 (by decide) ?_
      obtain ⟨rfl, rfl⟩ := inj2 h
      exact r_iret X hP hS dX10_limit_26
    · have h := ineg c8 h
      refine lv_aload_n (pc := 16) hx hb dX10_limit_16 rfl (lv_at hl 0 rfl) ?_
      refine lv_iload_n (pc := 17) hx hb dX10_limit_17 rfl (lv_at hl 1 rfl) ?_
      refine lv_iload_n (pc := 18) hx hb dX10_limit_18 rfl (lv_at hl 2 rfl) ?_
      obtain ⟨r11, σ9, e10, h⟩ := bnd2 h
      refine cl_X10_280 X hP hS hk0 (As := [.int a1, .int a2]) (rest := []) (c_X10_limitOf l G hk0 e10) ⟨rfl, rfl, Nat.le_of_ble_eq_true rfl, Nat.le_of_ble_eq_true rfl⟩ rfl hl.1 rfl (Nat.le_of_ble_eq_true rfl) ⟨Nat.zero_le _, Nat.zero_le _⟩ (pc := 19) dX10_limit_19 (fun H locs hP hS => ?_)
      change W p l e _ s m _ below meth c H locs _ _ _ (F0 m (19 + 3) ls (.int r11 :: []))
      refine lv_goto (pc := 22) (tgt := 26) hx hb dX10_limit_22 (by decide) ?_
      obtain ⟨rfl, rfl⟩ := inj2 h
      exact r_iret X hP hS dX10_limit_26
def f_X10_burns (k0 : Nat) (σ : Mem) : Option (Int32 × Mem) :=
  bd2 (f_X10_its k0 (1 : Int32) σ) fun r3 σ1 =>
  bd1 (ixo (k0 + 6) (r3 - r3 / (12 : Int32) * (12 : Int32))) fun j4 =>
  some (((1 : Int32) + (gI σ1 (k0 + 6) j4)), σ1)
abbrev RM_X10_burns : Room := { frames := 1, cells := 0, slots := 0, locals := 21 }
set_option maxHeartbeats 4000000 in
set_option maxRecDepth 100000 in
theorem c_X10_burns (l : Launch) (G : Gh) {k0 : Nat} {σ : Mem} {rr : Int32} {σr : Mem} (hk0 : kd k0 = 10) (h : f_X10_burns k0 σ = some (rr, σr)) : Met l yX10_burns [Cond.code yX10_burns prog_12_method_42_code 1 (some .int)] RM_X10_burns (va_Pc [.ref (ga G k0)] (Pre G σ)) (QG G (some (.int rr)) σr) 0 0 (AA G) := by
  refine ct_of (by decide) (fun p e s m below meth c X hP => ?_)
  have hx := X.hx
  have hb := X.hb
  have hS : va_S (AA G) s.heap s.heap [] := va_S.rf
  have hl := lv_entry ([.ref (ga G k0)]) (n := 1) (Nat.le_of_ble_eq_true rfl)
  rw [lg_entry_eq]
  generalize (lg_sl ([.ref (ga G k0)]) ++ List.replicate (1 - (lg_sl ([.ref (ga G k0)])).length) Slot.unset).toArray = ls at hl ⊢
  have hl : lv_has ls 1 [(0, .ref (ga G k0))] := hl
  unfold f_X10_burns at h
  refine lv_iconst (pc := 0) (v := 1) hx hb dX10_burns_0 (by decide) ?_
  refine lv_aload_n (pc := 1) hx hb dX10_burns_1 rfl (lv_at hl 0 rfl) ?_
  refine gt_X10_25 X hP hk0 dX10_burns_2 ?_
  refine lv_aload_n (pc := 5) hx hb dX10_burns_5 rfl (lv_at hl 0 rfl) ?_
  refine lv_iconst (pc := 6) (v := 1) hx hb dX10_burns_6 (by decide) ?_
  obtain ⟨r3, σ1, e2, h⟩ := bnd2 h
  refine cl_X10_277 X hP hS hk0 (As := [.int (1 : Int32)]) (rest := [.ref (ga G (k0 + 6)), .int (1 : Int32)]) (c_X10_its l G hk0 e2) ⟨rfl, rfl, Nat.le_of_ble_eq_true rfl, Nat.le_of_ble_eq_true rfl⟩ rfl hl.1 rfl (Nat.le_of_ble_eq_true rfl) ⟨Nat.zero_le _, Nat.zero_le _⟩ (pc := 7) dX10_burns_7 (fun H locs hP hS => ?_)
  change W p l e _ s m _ below meth c H locs _ _ _ (F0 m (7 + 3) ls (.int r3 :: [.ref (ga G (k0 + 6)), .int (1 : Int32)]))
  refine lv_bipush (pc := 10) (v := (12)) hx hb dX10_burns_10 (by decide) ?_
  refine lv_irem (pc := 12) hx hb dX10_burns_12 (by decide) ?_
  obtain ⟨j4, hj5, h⟩ := bnd1 h
  refine r_iald (pc := 13) X hP (kf_10_draughts hk0).1 hj5 dX10_burns_13 ?_
  refine lv_iadd (pc := 14) hx hb dX10_burns_14 ?_
  obtain ⟨rfl, rfl⟩ := inj2 h
  exact r_iret X hP hS dX10_burns_15
def f_X10_leftOf (k0 : Nat) (σ : Mem) : Option (Int32 × Mem) :=
  bd2 (f_X10_its k0 (0 : Int32) σ) fun r3 σ1 =>
  bd1 (ixo (k0 + 1) r3) fun j4 =>
  bd2 (f_X10_its k0 (2 : Int32) σ1) fun r8 σ6 =>
  some (((gI σ1 (k0 + 1) j4) - r8), σ6)
abbrev RM_X10_leftOf : Room := { frames := 1, cells := 0, slots := 0, locals := 21 }
set_option maxHeartbeats 4000000 in
set_option maxRecDepth 100000 in
theorem c_X10_leftOf (l : Launch) (G : Gh) {k0 : Nat} {σ : Mem} {rr : Int32} {σr : Mem} (hk0 : kd k0 = 10) (h : f_X10_leftOf k0 σ = some (rr, σr)) : Met l yX10_leftOf [Cond.code yX10_leftOf prog_12_method_43_code 1 (some .int)] RM_X10_leftOf (va_Pc [.ref (ga G k0)] (Pre G σ)) (QG G (some (.int rr)) σr) 0 0 (AA G) := by
  refine ct_of (by decide) (fun p e s m below meth c X hP => ?_)
  have hx := X.hx
  have hb := X.hb
  have hS : va_S (AA G) s.heap s.heap [] := va_S.rf
  have hl := lv_entry ([.ref (ga G k0)]) (n := 1) (Nat.le_of_ble_eq_true rfl)
  rw [lg_entry_eq]
  generalize (lg_sl ([.ref (ga G k0)]) ++ List.replicate (1 - (lg_sl ([.ref (ga G k0)])).length) Slot.unset).toArray = ls at hl ⊢
  have hl : lv_has ls 1 [(0, .ref (ga G k0))] := hl
  unfold f_X10_leftOf at h
  refine lv_aload_n (pc := 0) hx hb dX10_leftOf_0 rfl (lv_at hl 0 rfl) ?_
  refine gt_X10_7 X hP hk0 dX10_leftOf_1 ?_
  refine lv_aload_n (pc := 4) hx hb dX10_leftOf_4 rfl (lv_at hl 0 rfl) ?_
  refine lv_iconst (pc := 5) (v := 0) hx hb dX10_leftOf_5 (by decide) ?_
  obtain ⟨r3, σ1, e2, h⟩ := bnd2 h
  refine cl_X10_277 X hP hS hk0 (As := [.int (0 : Int32)]) (rest := [.ref (ga G (k0 + 1))]) (c_X10_its l G hk0 e2) ⟨rfl, rfl, Nat.le_of_ble_eq_true rfl, Nat.le_of_ble_eq_true rfl⟩ rfl hl.1 rfl (Nat.le_of_ble_eq_true rfl) ⟨Nat.zero_le _, Nat.zero_le _⟩ (pc := 6) dX10_leftOf_6 (fun H locs hP hS => ?_)
  change W p l e _ s m _ below meth c H locs _ _ _ (F0 m (6 + 3) ls (.int r3 :: [.ref (ga G (k0 + 1))]))
  obtain ⟨j4, hj5, h⟩ := bnd1 h
  refine r_iald (pc := 9) X hP (kf_10_waxes hk0).1 hj5 dX10_leftOf_9 ?_
  refine lv_aload_n (pc := 10) hx hb dX10_leftOf_10 rfl (lv_at hl 0 rfl) ?_
  refine lv_iconst (pc := 11) (v := 2) hx hb dX10_leftOf_11 (by decide) ?_
  obtain ⟨r8, σ6, e7, h⟩ := bnd2 h
  refine cl_X10_277 X hP hS hk0 (As := [.int (2 : Int32)]) (rest := [.int (gI σ1 (k0 + 1) j4)]) (c_X10_its l G hk0 e7) ⟨rfl, rfl, Nat.le_of_ble_eq_true rfl, Nat.le_of_ble_eq_true rfl⟩ rfl hl.1 rfl (Nat.le_of_ble_eq_true rfl) ⟨Nat.zero_le _, Nat.zero_le _⟩ (pc := 12) dX10_leftOf_12 (fun H locs hP hS => ?_)
  change W p l e _ s m _ below meth c H locs _ _ _ (F0 m (12 + 3) ls (.int r8 :: [.int (gI σ1 (k0 + 1) j4)]))
  refine lv_isub (pc := 15) hx hb dX10_leftOf_15 ?_
  obtain ⟨rfl, rfl⟩ := inj2 h
  exact r_iret X hP hS dX10_leftOf_16
def f_X10_isInTurn (k0 : Nat) (a1 : Int32) (σ : Mem) : Option (Int32 × Mem) :=
  bd2 (f_X10_its k0 (1 : Int32) σ) fun r3 σ1 =>
  bd1 (ixo (k0 + 8) a1) fun j4 =>
  grd (¬ ((gI σ1 (k0 + 8) j4) + (1 : Int32)) = 0) <|
  if (r3 - r3 / ((gI σ1 (k0 + 8) j4) + (1 : Int32)) * ((gI σ1 (k0 + 8) j4) + (1 : Int32))) = (0 : Int32) then
    some ((1 : Int32), σ1)
  else
    some ((0 : Int32), σ1)
abbrev RM_X10_isInTurn : Room := { frames := 1, cells := 0, slots := 0, locals := 21 }
set_option maxHeartbeats 4000000 in
set_option maxRecDepth 100000 in
theorem c_X10_isInTurn (l : Launch) (G : Gh) {k0 : Nat} {a1 : Int32} {σ : Mem} {rr : Int32} {σr : Mem} (hk0 : kd k0 = 10) (h : f_X10_isInTurn k0 a1 σ = some (rr, σr)) : Met l yX10_isInTurn [Cond.code yX10_isInTurn prog_12_method_44_code 2 (some .boolean)] RM_X10_isInTurn (va_Pc [.ref (ga G k0), .int a1] (Pre G σ)) (QG G (some (.int rr)) σr) 0 0 (AA G) := by
  refine ct_of (by decide) (fun p e s m below meth c X hP => ?_)
  have hx := X.hx
  have hb := X.hb
  have hS : va_S (AA G) s.heap s.heap [] := va_S.rf
  have hl := lv_entry ([.ref (ga G k0), .int a1]) (n := 2) (Nat.le_of_ble_eq_true rfl)
  rw [lg_entry_eq]
  generalize (lg_sl ([.ref (ga G k0), .int a1]) ++ List.replicate (2 - (lg_sl ([.ref (ga G k0), .int a1])).length) Slot.unset).toArray = ls at hl ⊢
  have hl : lv_has ls 2 [(0, .ref (ga G k0)), (1, .int a1)] := hl
  unfold f_X10_isInTurn at h
  refine lv_aload_n (pc := 0) hx hb dX10_isInTurn_0 rfl (lv_at hl 0 rfl) ?_
  refine lv_iconst (pc := 1) (v := 1) hx hb dX10_isInTurn_1 (by decide) ?_
  obtain ⟨r3, σ1, e2, h⟩ := bnd2 h
  refine cl_X10_277 X hP hS hk0 (As := [.int (1 : Int32)]) (rest := []) (c_X10_its l G hk0 e2) ⟨rfl, rfl, Nat.le_of_ble_eq_true rfl, Nat.le_of_ble_eq_true rfl⟩ rfl hl.1 rfl (Nat.le_of_ble_eq_true rfl) ⟨Nat.zero_le _, Nat.zero_le _⟩ (pc := 2) dX10_isInTurn_2 (fun H locs hP hS => ?_)
  change W p l e _ s m _ below meth c H locs _ _ _ (F0 m (2 + 3) ls (.int r3 :: []))
  refine lv_aload_n (pc := 5) hx hb dX10_isInTurn_5 rfl (lv_at hl 0 rfl) ?_
  refine gt_X10_35 X hP hk0 dX10_isInTurn_6 ?_
  refine lv_iload_n (pc := 9) hx hb dX10_isInTurn_9 rfl (lv_at hl 1 rfl) ?_
  obtain ⟨j4, hj5, h⟩ := bnd1 h
  refine r_iald (pc := 10) X hP (kf_10_own hk0).1 hj5 dX10_isInTurn_10 ?_
  refine lv_iconst (pc := 11) (v := 1) hx hb dX10_isInTurn_11 (by decide) ?_
  refine lv_iadd (pc := 12) hx hb dX10_isInTurn_12 ?_
  obtain ⟨g6, h⟩ := grd_inv h
  refine lv_irem (pc := 13) hx hb dX10_isInTurn_13 g6 ?_
  refine lv_if_ne (pc := 14) (tgt := 21) hx hb dX10_isInTurn_14 (by decide) (fun c7 => ?_) (fun c7 => ?_)
  · have h := ineg c7 h
    refine lv_iconst (pc := 21) (v := 0) hx hb dX10_isInTurn_21 (by decide) ?_
    obtain ⟨rfl, rfl⟩ := inj2 h
    exact r_zret X hP hS (by decide) dX10_isInTurn_22
  · have h := ipos c7 h
    refine lv_iconst (pc := 17) (v := 1) hx hb dX10_isInTurn_17 (by decide) ?_
    refine lv_goto (pc := 18) (tgt := 22) hx hb dX10_isInTurn_18 (by decide) ?_
    obtain ⟨rfl, rfl⟩ := inj2 h
    exact r_zret X hP hS (by decide) dX10_isInTurn_22
def f_X10_isTime (k0 : Nat) (a1 : Int32) (σ : Mem) : Option (Int32 × Mem) :=
  bd1 (ixo (k0 + 7) a1) fun j1 =>
  if (gI σ (k0 + 7) j1) = (1 : Int32) then
    bd2 (f_X10_isInTurn k0 a1 σ) fun r6 σ4 =>
    if r6 = (0 : Int32) then
      some ((0 : Int32), σ4)
    else
      bd2 (f_X10_leftOf k0 σ4) fun r10 σ8 =>
      bd1 (ixo (k0 + 8) a1) fun j11 =>
      if ((3 : Int32) * (gI σ8 (k0 + 8) j11)) < r10 then
        some ((0 : Int32), σ8)
      else
        some ((1 : Int32), σ8)
  else
  if (gI σ (k0 + 7) j1) = (2 : Int32) then
    bd2 (f_X10_isInTurn k0 a1 σ) fun r17 σ15 =>
    grd (r17 = 0 ∨ r17 = 1) <|
    some (r17, σ15)
  else
  if (gI σ (k0 + 7) j1) = (3 : Int32) then
    bd2 (f_X10_isInTurn k0 a1 σ) fun r22 σ20 =>
    if r22 = (0 : Int32) then
      some ((0 : Int32), σ20)
    else
      bd2 (f_X10_leftOf k0 σ20) fun r26 σ24 =>
      bd1 (ixo (k0 + 8) a1) fun j27 =>
      if ((3 : Int32) * (gI σ24 (k0 + 8) j27)) < r26 then
        some ((0 : Int32), σ24)
      else
        bd2 (f_X10_its k0 (3 : Int32) σ24) fun r32 σ30 =>
        if r32 ≤ (0 : Int32) then
          some ((0 : Int32), σ30)
        else
          some ((1 : Int32), σ30)
  else
  if (gI σ (k0 + 7) j1) = (4 : Int32) then
    bd2 (f_X10_isInTurn k0 a1 σ) fun r37 σ35 =>
    grd (r37 = 0 ∨ r37 = 1) <|
    some (r37, σ35)
  else
  if (gI σ (k0 + 7) j1) = (5 : Int32) then
    bd2 (f_X10_leftOf k0 σ) fun r42 σ40 =>
    bd2 (f_X10_burns k0 σ40) fun r45 σ43 =>
    if r45 < r42 then
      some ((0 : Int32), σ43)
    else
      some ((1 : Int32), σ43)
  else
  bd2 (f_X10_isInTurn k0 a1 σ) fun r49 σ47 =>
  grd (r49 = 0 ∨ r49 = 1) <|
  some (r49, σ47)
abbrev RM_X10_isTime : Room := { frames := 2, cells := 0, slots := 0, locals := 42 }
set_option maxHeartbeats 4000000 in
set_option maxRecDepth 100000 in
theorem c_X10_isTime (l : Launch) (G : Gh) {k0 : Nat} {a1 : Int32} {σ : Mem} {rr : Int32} {σr : Mem} (hk0 : kd k0 = 10) (h : f_X10_isTime k0 a1 σ = some (rr, σr)) : Met l yX10_isTime [Cond.code yX10_isTime prog_12_method_45_code 2 (some .boolean)] RM_X10_isTime (va_Pc [.ref (ga G k0), .int a1] (Pre G σ)) (QG G (some (.int rr)) σr) 0 0 (AA G) := by
  refine ct_of (by decide) (fun p e s m below meth c X hP => ?_)
  have hx := X.hx
  have hb := X.hb
  have hS : va_S (AA G) s.heap s.heap [] := va_S.rf
  have hl := lv_entry ([.ref (ga G k0), .int a1]) (n := 2) (Nat.le_of_ble_eq_true rfl)
  rw [lg_entry_eq]
  generalize (lg_sl ([.ref (ga G k0), .int a1]) ++ List.replicate (2 - (lg_sl ([.ref (ga G k0), .int a1])).length) Slot.unset).toArray = ls at hl ⊢
  have hl : lv_has ls 2 [(0, .ref (ga G k0)), (1, .int a1)] := hl
  unfold f_X10_isTime at h
  refine lv_aload_n (pc := 0) hx hb dX10_isTime_0 rfl (lv_at hl 0 rfl) ?_
  refine gt_X10_32 X hP hk0 dX10_isTime_1 ?_
  refine lv_iload_n (pc := 4) hx hb dX10_isTime_4 rfl (lv_at hl 1 rfl) ?_
  obtain ⟨j1, hj2, h⟩ := bnd1 h
  refine r_iald (pc := 5) X hP (kf_10_kinds hk0).1 hj2 dX10_isTime_5 ?_
  by_cases c3 : (gI σ (k0 + 7) j1) = (1 : Int32)
  · have h := ipos c3 h
    refine r_tabIn X (pc := 6) (tgt := 40) c3 dX10_isTime_6 (by decide) (by decide) rfl (by decide) ?_
    refine lv_aload_n (pc := 40) hx hb dX10_isTime_40 rfl (lv_at hl 0 rfl) ?_
    refine lv_iload_n (pc := 41) hx hb dX10_isTime_41 rfl (lv_at hl 1 rfl) ?_
    obtain ⟨r6, σ4, e5, h⟩ := bnd2 h
    refine cl_X10_283 X hP hS hk0 (As := [.int a1]) (rest := []) (c_X10_isInTurn l G hk0 e5) ⟨rfl, rfl, Nat.le_of_ble_eq_true rfl, Nat.le_of_ble_eq_true rfl⟩ rfl hl.1 rfl (Nat.le_of_ble_eq_true rfl) ⟨Nat.zero_le _, Nat.zero_le _⟩ (pc := 42) dX10_isTime_42 (fun H locs hP hS => ?_)
    change W p l e _ s m _ below meth c H locs _ _ _ (F0 m (42 + 3) ls (.int r6 :: []))
    refine lv_if_eq (pc := 45) (tgt := 67) hx hb dX10_isTime_45 (by decide) (fun c7 => ?_) (fun c7 => ?_)
    · have h := ipos c7 h
      refine lv_iconst (pc := 67) (v := 0) hx hb dX10_isTime_67 (by decide) ?_
      obtain ⟨rfl, rfl⟩ := inj2 h
      exact r_zret X hP hS (by decide) dX10_isTime_68
    · have h := ineg c7 h
      refine lv_aload_n (pc := 48) hx hb dX10_isTime_48 rfl (lv_at hl 0 rfl) ?_
      obtain ⟨r10, σ8, e9, h⟩ := bnd2 h
      refine cl_X10_286 X hP hS hk0 (As := []) (rest := []) (c_X10_leftOf l G hk0 e9) ⟨rfl, rfl, Nat.le_of_ble_eq_true rfl, Nat.le_of_ble_eq_true rfl⟩ rfl hl.1 rfl (Nat.le_of_ble_eq_true rfl) ⟨Nat.zero_le _, Nat.zero_le _⟩ (pc := 49) dX10_isTime_49 (fun H locs hP hS => ?_)
      change W p l e _ s m _ below meth c H locs _ _ _ (F0 m (49 + 3) ls (.int r10 :: []))
      refine lv_iconst (pc := 52) (v := 3) hx hb dX10_isTime_52 (by decide) ?_
      refine lv_aload_n (pc := 53) hx hb dX10_isTime_53 rfl (lv_at hl 0 rfl) ?_
      refine gt_X10_35 X hP hk0 dX10_isTime_54 ?_
      refine lv_iload_n (pc := 57) hx hb dX10_isTime_57 rfl (lv_at hl 1 rfl) ?_
      obtain ⟨j11, hj12, h⟩ := bnd1 h
      refine r_iald (pc := 58) X hP (kf_10_own hk0).1 hj12 dX10_isTime_58 ?_
      refine lv_imul (pc := 59) hx hb dX10_isTime_59 ?_
      refine lv_icmp_gt (pc := 60) (tgt := 67) hx hb dX10_isTime_60 (by decide) (fun c13 => ?_) (fun c13 => ?_)
      · have h := ipos c13 h
        refine lv_iconst (pc := 67) (v := 0) hx hb dX10_isTime_67 (by decide) ?_
        obtain ⟨rfl, rfl⟩ := inj2 h
        exact r_zret X hP hS (by decide) dX10_isTime_68
      · have h := ineg c13 h
        refine lv_iconst (pc := 63) (v := 1) hx hb dX10_isTime_63 (by decide) ?_
        refine lv_goto (pc := 64) (tgt := 68) hx hb dX10_isTime_64 (by decide) ?_
        obtain ⟨rfl, rfl⟩ := inj2 h
        exact r_zret X hP hS (by decide) dX10_isTime_68
  have h := ineg c3 h
  by_cases c14 : (gI σ (k0 + 7) j1) = (2 : Int32)
  · have h := ipos c14 h
    refine r_tabIn X (pc := 6) (tgt := 123) c14 dX10_isTime_6 (by decide) (by decide) rfl (by decide) ?_
    refine lv_aload_n (pc := 123) hx hb dX10_isTime_123 rfl (lv_at hl 0 rfl) ?_
    refine lv_iload_n (pc := 124) hx hb dX10_isTime_124 rfl (lv_at hl 1 rfl) ?_
    obtain ⟨r17, σ15, e16, h⟩ := bnd2 h
    refine cl_X10_283 X hP hS hk0 (As := [.int a1]) (rest := []) (c_X10_isInTurn l G hk0 e16) ⟨rfl, rfl, Nat.le_of_ble_eq_true rfl, Nat.le_of_ble_eq_true rfl⟩ rfl hl.1 rfl (Nat.le_of_ble_eq_true rfl) ⟨Nat.zero_le _, Nat.zero_le _⟩ (pc := 125) dX10_isTime_125 (fun H locs hP hS => ?_)
    change W p l e _ s m _ below meth c H locs _ _ _ (F0 m (125 + 3) ls (.int r17 :: []))
    obtain ⟨g18, h⟩ := grd_inv h
    obtain ⟨rfl, rfl⟩ := inj2 h
    exact r_zret X hP hS g18 dX10_isTime_128
  have h := ineg c14 h
  by_cases c19 : (gI σ (k0 + 7) j1) = (3 : Int32)
  · have h := ipos c19 h
    refine r_tabIn X (pc := 6) (tgt := 69) c19 dX10_isTime_6 (by decide) (by decide) rfl (by decide) ?_
    refine lv_aload_n (pc := 69) hx hb dX10_isTime_69 rfl (lv_at hl 0 rfl) ?_
    refine lv_iload_n (pc := 70) hx hb dX10_isTime_70 rfl (lv_at hl 1 rfl) ?_
    obtain ⟨r22, σ20, e21, h⟩ := bnd2 h
    refine cl_X10_283 X hP hS hk0 (As := [.int a1]) (rest := []) (c_X10_isInTurn l G hk0 e21) ⟨rfl, rfl, Nat.le_of_ble_eq_true rfl, Nat.le_of_ble_eq_true rfl⟩ rfl hl.1 rfl (Nat.le_of_ble_eq_true rfl) ⟨Nat.zero_le _, Nat.zero_le _⟩ (pc := 71) dX10_isTime_71 (fun H locs hP hS => ?_)
    change W p l e _ s m _ below meth c H locs _ _ _ (F0 m (71 + 3) ls (.int r22 :: []))
    refine lv_if_eq (pc := 74) (tgt := 104) hx hb dX10_isTime_74 (by decide) (fun c23 => ?_) (fun c23 => ?_)
    · have h := ipos c23 h
      refine lv_iconst (pc := 104) (v := 0) hx hb dX10_isTime_104 (by decide) ?_
      obtain ⟨rfl, rfl⟩ := inj2 h
      exact r_zret X hP hS (by decide) dX10_isTime_105
    · have h := ineg c23 h
      refine lv_aload_n (pc := 77) hx hb dX10_isTime_77 rfl (lv_at hl 0 rfl) ?_
      obtain ⟨r26, σ24, e25, h⟩ := bnd2 h
      refine cl_X10_286 X hP hS hk0 (As := []) (rest := []) (c_X10_leftOf l G hk0 e25) ⟨rfl, rfl, Nat.le_of_ble_eq_true rfl, Nat.le_of_ble_eq_true rfl⟩ rfl hl.1 rfl (Nat.le_of_ble_eq_true rfl) ⟨Nat.zero_le _, Nat.zero_le _⟩ (pc := 78) dX10_isTime_78 (fun H locs hP hS => ?_)
      change W p l e _ s m _ below meth c H locs _ _ _ (F0 m (78 + 3) ls (.int r26 :: []))
      refine lv_iconst (pc := 81) (v := 3) hx hb dX10_isTime_81 (by decide) ?_
      refine lv_aload_n (pc := 82) hx hb dX10_isTime_82 rfl (lv_at hl 0 rfl) ?_
      refine gt_X10_35 X hP hk0 dX10_isTime_83 ?_
      refine lv_iload_n (pc := 86) hx hb dX10_isTime_86 rfl (lv_at hl 1 rfl) ?_
      obtain ⟨j27, hj28, h⟩ := bnd1 h
      refine r_iald (pc := 87) X hP (kf_10_own hk0).1 hj28 dX10_isTime_87 ?_
      refine lv_imul (pc := 88) hx hb dX10_isTime_88 ?_
      refine lv_icmp_gt (pc := 89) (tgt := 104) hx hb dX10_isTime_89 (by decide) (fun c29 => ?_) (fun c29 => ?_)
      · have h := ipos c29 h
        refine lv_iconst (pc := 104) (v := 0) hx hb dX10_isTime_104 (by decide) ?_
        obtain ⟨rfl, rfl⟩ := inj2 h
        exact r_zret X hP hS (by decide) dX10_isTime_105
      · have h := ineg c29 h
        refine lv_aload_n (pc := 92) hx hb dX10_isTime_92 rfl (lv_at hl 0 rfl) ?_
        refine lv_iconst (pc := 93) (v := 3) hx hb dX10_isTime_93 (by decide) ?_
        obtain ⟨r32, σ30, e31, h⟩ := bnd2 h
        refine cl_X10_277 X hP hS hk0 (As := [.int (3 : Int32)]) (rest := []) (c_X10_its l G hk0 e31) ⟨rfl, rfl, Nat.le_of_ble_eq_true rfl, Nat.le_of_ble_eq_true rfl⟩ rfl hl.1 rfl (Nat.le_of_ble_eq_true rfl) ⟨Nat.zero_le _, Nat.zero_le _⟩ (pc := 94) dX10_isTime_94 (fun H locs hP hS => ?_)
        change W p l e _ s m _ below meth c H locs _ _ _ (F0 m (94 + 3) ls (.int r32 :: []))
        refine lv_if_le (pc := 97) (tgt := 104) hx hb dX10_isTime_97 (by decide) (fun c33 => ?_) (fun c33 => ?_)
        · have h := ipos c33 h
          refine lv_iconst (pc := 104) (v := 0) hx hb dX10_isTime_104 (by decide) ?_
          obtain ⟨rfl, rfl⟩ := inj2 h
          exact r_zret X hP hS (by decide) dX10_isTime_105
        · have h := ineg c33 h
          refine lv_iconst (pc := 100) (v := 1) hx hb dX10_isTime_100 (by decide) ?_
          refine lv_goto (pc := 101) (tgt := 105) hx hb dX10_isTime_101 (by decide) ?_
          obtain ⟨rfl, rfl⟩ := inj2 h
          exact r_zret X hP hS (by decide) dX10_isTime_105
  have h := ineg c19 h
  by_cases c34 : (gI σ (k0 + 7) j1) = (4 : Int32)
  · have h := ipos c34 h
    refine r_tabIn X (pc := 6) (tgt := 123) c34 dX10_isTime_6 (by decide) (by decide) rfl (by decide) ?_
    refine lv_aload_n (pc := 123) hx hb dX10_isTime_123 rfl (lv_at hl 0 rfl) ?_
    refine lv_iload_n (pc := 124) hx hb dX10_isTime_124 rfl (lv_at hl 1 rfl) ?_
    obtain ⟨r37, σ35, e36, h⟩ := bnd2 h
    refine cl_X10_283 X hP hS hk0 (As := [.int a1]) (rest := []) (c_X10_isInTurn l G hk0 e36) ⟨rfl, rfl, Nat.le_of_ble_eq_true rfl, Nat.le_of_ble_eq_true rfl⟩ rfl hl.1 rfl (Nat.le_of_ble_eq_true rfl) ⟨Nat.zero_le _, Nat.zero_le _⟩ (pc := 125) dX10_isTime_125 (fun H locs hP hS => ?_)
    change W p l e _ s m _ below meth c H locs _ _ _ (F0 m (125 + 3) ls (.int r37 :: []))
    obtain ⟨g38, h⟩ := grd_inv h
    obtain ⟨rfl, rfl⟩ := inj2 h
    exact r_zret X hP hS g38 dX10_isTime_128
  have h := ineg c34 h
  by_cases c39 : (gI σ (k0 + 7) j1) = (5 : Int32)
  · have h := ipos c39 h
    refine r_tabIn X (pc := 6) (tgt := 106) c39 dX10_isTime_6 (by decide) (by decide) rfl (by decide) ?_
    refine lv_aload_n (pc := 106) hx hb dX10_isTime_106 rfl (lv_at hl 0 rfl) ?_
    obtain ⟨r42, σ40, e41, h⟩ := bnd2 h
    refine cl_X10_286 X hP hS hk0 (As := []) (rest := []) (c_X10_leftOf l G hk0 e41) ⟨rfl, rfl, Nat.le_of_ble_eq_true rfl, Nat.le_of_ble_eq_true rfl⟩ rfl hl.1 rfl (Nat.le_of_ble_eq_true rfl) ⟨Nat.zero_le _, Nat.zero_le _⟩ (pc := 107) dX10_isTime_107 (fun H locs hP hS => ?_)
    change W p l e _ s m _ below meth c H locs _ _ _ (F0 m (107 + 3) ls (.int r42 :: []))
    refine lv_aload_n (pc := 110) hx hb dX10_isTime_110 rfl (lv_at hl 0 rfl) ?_
    obtain ⟨r45, σ43, e44, h⟩ := bnd2 h
    refine cl_X10_289 X hP hS hk0 (As := []) (rest := [.int r42]) (c_X10_burns l G hk0 e44) ⟨rfl, rfl, Nat.le_of_ble_eq_true rfl, Nat.le_of_ble_eq_true rfl⟩ rfl hl.1 rfl (Nat.le_of_ble_eq_true rfl) ⟨Nat.zero_le _, Nat.zero_le _⟩ (pc := 111) dX10_isTime_111 (fun H locs hP hS => ?_)
    change W p l e _ s m _ below meth c H locs _ _ _ (F0 m (111 + 3) ls (.int r45 :: [.int r42]))
    refine lv_icmp_gt (pc := 114) (tgt := 121) hx hb dX10_isTime_114 (by decide) (fun c46 => ?_) (fun c46 => ?_)
    · have h := ipos c46 h
      refine lv_iconst (pc := 121) (v := 0) hx hb dX10_isTime_121 (by decide) ?_
      obtain ⟨rfl, rfl⟩ := inj2 h
      exact r_zret X hP hS (by decide) dX10_isTime_122
    · have h := ineg c46 h
      refine lv_iconst (pc := 117) (v := 1) hx hb dX10_isTime_117 (by decide) ?_
      refine lv_goto (pc := 118) (tgt := 122) hx hb dX10_isTime_118 (by decide) ?_
      obtain ⟨rfl, rfl⟩ := inj2 h
      exact r_zret X hP hS (by decide) dX10_isTime_122
  have h := ineg c39 h
  refine lv_tableOut (pc := 6) (tgt := 123) hx hb dX10_isTime_6 (by have := lv_neT c3 (a := 1) (by decide); have := lv_neT c14 (a := 2) (by decide); have := lv_neT c19 (a := 3) (by decide); have := lv_neT c34 (a := 4) (by decide); have := lv_neT c39 (a := 5) (by decide); omega) (by decide) ?_
  refine lv_aload_n (pc := 123) hx hb dX10_isTime_123 rfl (lv_at hl 0 rfl) ?_
  refine lv_iload_n (pc := 124) hx hb dX10_isTime_124 rfl (lv_at hl 1 rfl) ?_
  obtain ⟨r49, σ47, e48, h⟩ := bnd2 h
  refine cl_X10_283 X hP hS hk0 (As := [.int a1]) (rest := []) (c_X10_isInTurn l G hk0 e48) ⟨rfl, rfl, Nat.le_of_ble_eq_true rfl, Nat.le_of_ble_eq_true rfl⟩ rfl hl.1 rfl (Nat.le_of_ble_eq_true rfl) ⟨Nat.zero_le _, Nat.zero_le _⟩ (pc := 125) dX10_isTime_125 (fun H locs hP hS => ?_)
  change W p l e _ s m _ below meth c H locs _ _ _ (F0 m (125 + 3) ls (.int r49 :: []))
  obtain ⟨g50, h⟩ := grd_inv h
  obtain ⟨rfl, rfl⟩ := inj2 h
  exact r_zret X hP hS g50 dX10_isTime_128
def F_X10_callOf_40 (k0z : Nat) (v1 : Int32) (w0 : Int32) (σ : Mem) : Option (Int32 × Mem) :=
  bd2 (f_X10_its k0z (3 : Int32) σ) fun r8 σ6 =>
  bd2 (f_X10_its k0z (4 : Int32) σ6) fun r11 σ9 =>
  if r11 = v1 then
    some ((0 : Int32), σ9)
  else
    bd2 (f_X10_its k0z (0 : Int32) σ9) fun r15 σ13 =>
    bd2 (f_X10_limitOf k0z v1 r15 σ13) fun r18 σ16 =>
    if r18 < (r8 + w0) then
      some ((0 : Int32), σ16)
    else
      bd2 (f_X10_isTime k0z v1 σ16) fun r22 σ20 =>
      if r22 = (0 : Int32) then
        some ((0 : Int32), σ20)
      else
        some ((r8 + w0), σ20)
def f_X10_callOf (k0 : Nat) (a1 : Int32) (σ : Mem) : Option (Int32 × Mem) :=
  bd1 (ixo (k0 + 7) a1) fun j1 =>
  if (gI σ (k0 + 7) j1) = (2 : Int32) then
    bd1 (ixo (k0 + 8) a1) fun j4 =>
    F_X10_callOf_40 k0 a1 (((2 : Int32) * (gI σ k0 7)) + (gI σ (k0 + 8) j4)) σ
  else
    bd1 (ixo (k0 + 7) a1) fun j24 =>
    if (gI σ (k0 + 7) j24) = (4 : Int32) then
      bd1 (ixo (k0 + 8) a1) fun j27 =>
      F_X10_callOf_40 k0 a1 (((2 : Int32) * (gI σ k0 7)) + (gI σ (k0 + 8) j27)) σ
    else
      F_X10_callOf_40 k0 a1 (gI σ k0 7) σ
abbrev RM_X10_callOf : Room := { frames := 3, cells := 0, slots := 0, locals := 63 }
set_option maxHeartbeats 4000000 in
set_option maxRecDepth 100000 in
theorem w_X10_callOf_40 {l : Launch} {G : Gh} {p : Program} {e : Env} {s : State} {m : MethodId} {args : Array Value} {below : List Frame} {meth : Method} {c : Code} (X : Cx G p s m args meth c prog_12_method_46_code RX10 4 (some .int)) {k0z : Nat} (hz0 : kd k0z = 10) {rr : Int32} {σr : Mem} : ∀ (v1 : Int32) (w0 : Int32) (σ : Mem) (H : Heap) (locs : List Loc) (ls : Array Slot), PW G σ H → va_S (AA G) s.heap H locs → lv_has ls 4 [(0, .ref (ga G k0z)), (1, .int v1)] → F_X10_callOf_40 k0z v1 w0 σ = some (rr, σr) → W p l e RM_X10_callOf s m args below meth c H locs 0 0 (MQ below (QG G (some (.int rr)) σr) args s 0 0 (AA G)) (F0 m 40 ls [.int w0]) := by
  have hx := X.hx
  have hb := X.hb
  intro v1 w0 σ H locs ls hP hS hl h
  unfold F_X10_callOf_40 at h
  refine lv_istore_n (pc := 40) (lv' := [(2, .int w0), (0, .ref (ga G k0z)), (1, .int v1)]) hx hb dX10_callOf_40 rfl hl (by decide) rfl (fun ls hl => ?_)
  refine lv_aload_n (pc := 41) hx hb dX10_callOf_41 rfl (lv_at hl 1 rfl) ?_
  refine lv_iconst (pc := 42) (v := 3) hx hb dX10_callOf_42 (by decide) ?_
  obtain ⟨r8, σ6, e7, h⟩ := bnd2 h
  refine cl_X10_277 X hP hS hz0 (As := [.int (3 : Int32)]) (rest := []) (c_X10_its l G hz0 e7) ⟨rfl, rfl, Nat.le_of_ble_eq_true rfl, Nat.le_of_ble_eq_true rfl⟩ rfl hl.1 rfl (Nat.le_of_ble_eq_true rfl) ⟨Nat.zero_le _, Nat.zero_le _⟩ (pc := 43) dX10_callOf_43 (fun H locs hP hS => ?_)
  change W p l e _ s m _ below meth c H locs _ _ _ (F0 m (43 + 3) ls (.int r8 :: []))
  refine lv_iload_n (pc := 46) hx hb dX10_callOf_46 rfl (lv_at hl 0 rfl) ?_
  refine lv_iadd (pc := 47) hx hb dX10_callOf_47 ?_
  refine lv_istore_n (pc := 48) (lv' := [(3, .int (r8 + w0)), (2, .int w0), (0, .ref (ga G k0z)), (1, .int v1)]) hx hb dX10_callOf_48 rfl hl (by decide) rfl (fun ls hl => ?_)
  refine lv_aload_n (pc := 49) hx hb dX10_callOf_49 rfl (lv_at hl 2 rfl) ?_
  refine lv_iconst (pc := 50) (v := 4) hx hb dX10_callOf_50 (by decide) ?_
  obtain ⟨r11, σ9, e10, h⟩ := bnd2 h
  refine cl_X10_277 X hP hS hz0 (As := [.int (4 : Int32)]) (rest := []) (c_X10_its l G hz0 e10) ⟨rfl, rfl, Nat.le_of_ble_eq_true rfl, Nat.le_of_ble_eq_true rfl⟩ rfl hl.1 rfl (Nat.le_of_ble_eq_true rfl) ⟨Nat.zero_le _, Nat.zero_le _⟩ (pc := 51) dX10_callOf_51 (fun H locs hP hS => ?_)
  change W p l e _ s m _ below meth c H locs _ _ _ (F0 m (51 + 3) ls (.int r11 :: []))
  refine lv_iload_n (pc := 54) hx hb dX10_callOf_54 rfl (lv_at hl 3 rfl) ?_
  refine lv_icmp_eq (pc := 55) (tgt := 84) hx hb dX10_callOf_55 (by decide) (fun c12 => ?_) (fun c12 => ?_)
  · have h := ipos c12 h
    refine lv_iconst (pc := 84) (v := 0) hx hb dX10_callOf_84 (by decide) ?_
    obtain ⟨rfl, rfl⟩ := inj2 h
    exact r_iret X hP hS dX10_callOf_85
  · have h := ineg c12 h
    refine lv_iload_n (pc := 58) hx hb dX10_callOf_58 rfl (lv_at hl 0 rfl) ?_
    refine lv_aload_n (pc := 59) hx hb dX10_callOf_59 rfl (lv_at hl 2 rfl) ?_
    refine lv_iload_n (pc := 60) hx hb dX10_callOf_60 rfl (lv_at hl 3 rfl) ?_
    refine lv_aload_n (pc := 61) hx hb dX10_callOf_61 rfl (lv_at hl 2 rfl) ?_
    refine lv_iconst (pc := 62) (v := 0) hx hb dX10_callOf_62 (by decide) ?_
    obtain ⟨r15, σ13, e14, h⟩ := bnd2 h
    refine cl_X10_277 X hP hS hz0 (As := [.int (0 : Int32)]) (rest := [.int v1, .ref (ga G k0z), .int (r8 + w0)]) (c_X10_its l G hz0 e14) ⟨rfl, rfl, Nat.le_of_ble_eq_true rfl, Nat.le_of_ble_eq_true rfl⟩ rfl hl.1 rfl (Nat.le_of_ble_eq_true rfl) ⟨Nat.zero_le _, Nat.zero_le _⟩ (pc := 63) dX10_callOf_63 (fun H locs hP hS => ?_)
    change W p l e _ s m _ below meth c H locs _ _ _ (F0 m (63 + 3) ls (.int r15 :: [.int v1, .ref (ga G k0z), .int (r8 + w0)]))
    obtain ⟨r18, σ16, e17, h⟩ := bnd2 h
    refine cl_X10_280 X hP hS hz0 (As := [.int v1, .int r15]) (rest := [.int (r8 + w0)]) (c_X10_limitOf l G hz0 e17) ⟨rfl, rfl, Nat.le_of_ble_eq_true rfl, Nat.le_of_ble_eq_true rfl⟩ rfl hl.1 rfl (Nat.le_of_ble_eq_true rfl) ⟨Nat.zero_le _, Nat.zero_le _⟩ (pc := 66) dX10_callOf_66 (fun H locs hP hS => ?_)
    change W p l e _ s m _ below meth c H locs _ _ _ (F0 m (66 + 3) ls (.int r18 :: [.int (r8 + w0)]))
    refine lv_icmp_gt (pc := 69) (tgt := 84) hx hb dX10_callOf_69 (by decide) (fun c19 => ?_) (fun c19 => ?_)
    · have h := ipos c19 h
      refine lv_iconst (pc := 84) (v := 0) hx hb dX10_callOf_84 (by decide) ?_
      obtain ⟨rfl, rfl⟩ := inj2 h
      exact r_iret X hP hS dX10_callOf_85
    · have h := ineg c19 h
      refine lv_aload_n (pc := 72) hx hb dX10_callOf_72 rfl (lv_at hl 2 rfl) ?_
      refine lv_iload_n (pc := 73) hx hb dX10_callOf_73 rfl (lv_at hl 3 rfl) ?_
      obtain ⟨r22, σ20, e21, h⟩ := bnd2 h
      refine cl_X10_292 X hP hS hz0 (As := [.int v1]) (rest := []) (c_X10_isTime l G hz0 e21) ⟨rfl, rfl, Nat.le_of_ble_eq_true rfl, Nat.le_of_ble_eq_true rfl⟩ rfl hl.1 rfl (Nat.le_of_ble_eq_true rfl) ⟨Nat.zero_le _, Nat.zero_le _⟩ (pc := 74) dX10_callOf_74 (fun H locs hP hS => ?_)
      change W p l e _ s m _ below meth c H locs _ _ _ (F0 m (74 + 3) ls (.int r22 :: []))
      refine lv_if_eq (pc := 77) (tgt := 84) hx hb dX10_callOf_77 (by decide) (fun c23 => ?_) (fun c23 => ?_)
      · have h := ipos c23 h
        refine lv_iconst (pc := 84) (v := 0) hx hb dX10_callOf_84 (by decide) ?_
        obtain ⟨rfl, rfl⟩ := inj2 h
        exact r_iret X hP hS dX10_callOf_85
      · have h := ineg c23 h
        refine lv_iload_n (pc := 80) hx hb dX10_callOf_80 rfl (lv_at hl 0 rfl) ?_
        refine lv_goto (pc := 81) (tgt := 85) hx hb dX10_callOf_81 (by decide) ?_
        obtain ⟨rfl, rfl⟩ := inj2 h
        exact r_iret X hP hS dX10_callOf_85
set_option maxHeartbeats 4000000 in
set_option maxRecDepth 100000 in
theorem c_X10_callOf (l : Launch) (G : Gh) {k0 : Nat} {a1 : Int32} {σ : Mem} {rr : Int32} {σr : Mem} (hk0 : kd k0 = 10) (h : f_X10_callOf k0 a1 σ = some (rr, σr)) : Met l yX10_callOf [Cond.code yX10_callOf prog_12_method_46_code 4 (some .int)] RM_X10_callOf (va_Pc [.ref (ga G k0), .int a1] (Pre G σ)) (QG G (some (.int rr)) σr) 0 0 (AA G) := by
  refine ct_of (by decide) (fun p e s m below meth c X hP => ?_)
  have hx := X.hx
  have hb := X.hb
  have hS : va_S (AA G) s.heap s.heap [] := va_S.rf
  have hl := lv_entry ([.ref (ga G k0), .int a1]) (n := 4) (Nat.le_of_ble_eq_true rfl)
  rw [lg_entry_eq]
  generalize (lg_sl ([.ref (ga G k0), .int a1]) ++ List.replicate (4 - (lg_sl ([.ref (ga G k0), .int a1])).length) Slot.unset).toArray = ls at hl ⊢
  have hl : lv_has ls 4 [(0, .ref (ga G k0)), (1, .int a1)] := hl
  unfold f_X10_callOf at h
  refine lv_aload_n (pc := 0) hx hb dX10_callOf_0 rfl (lv_at hl 0 rfl) ?_
  refine gt_X10_32 X hP hk0 dX10_callOf_1 ?_
  refine lv_iload_n (pc := 4) hx hb dX10_callOf_4 rfl (lv_at hl 1 rfl) ?_
  obtain ⟨j1, hj2, h⟩ := bnd1 h
  refine r_iald (pc := 5) X hP (kf_10_kinds hk0).1 hj2 dX10_callOf_5 ?_
  refine lv_iconst (pc := 6) (v := 2) hx hb dX10_callOf_6 (by decide) ?_
  refine lv_icmp_eq (pc := 7) (tgt := 20) hx hb dX10_callOf_7 (by decide) (fun c3 => ?_) (fun c3 => ?_)
  · have h := ipos c3 h
    refine lv_iconst (pc := 20) (v := 2) hx hb dX10_callOf_20 (by decide) ?_
    refine lv_aload_n (pc := 21) hx hb dX10_callOf_21 rfl (lv_at hl 0 rfl) ?_
    refine gt_X10_28 X hP hk0 dX10_callOf_22 ?_
    refine lv_imul (pc := 25) hx hb dX10_callOf_25 ?_
    refine lv_aload_n (pc := 26) hx hb dX10_callOf_26 rfl (lv_at hl 0 rfl) ?_
    refine gt_X10_35 X hP hk0 dX10_callOf_27 ?_
    refine lv_iload_n (pc := 30) hx hb dX10_callOf_30 rfl (lv_at hl 1 rfl) ?_
    obtain ⟨j4, hj5, h⟩ := bnd1 h
    refine r_iald (pc := 31) X hP (kf_10_own hk0).1 hj5 dX10_callOf_31 ?_
    refine lv_iadd (pc := 32) hx hb dX10_callOf_32 ?_
    refine lv_goto (pc := 33) (tgt := 40) hx hb dX10_callOf_33 (by decide) ?_
    exact w_X10_callOf_40 X  hk0  _ _ _ _ _ _ hP hS (lv_sub hl [0, 1] rfl) h
  · have h := ineg c3 h
    refine lv_aload_n (pc := 10) hx hb dX10_callOf_10 rfl (lv_at hl 0 rfl) ?_
    refine gt_X10_32 X hP hk0 dX10_callOf_11 ?_
    refine lv_iload_n (pc := 14) hx hb dX10_callOf_14 rfl (lv_at hl 1 rfl) ?_
    obtain ⟨j24, hj25, h⟩ := bnd1 h
    refine r_iald (pc := 15) X hP (kf_10_kinds hk0).1 hj25 dX10_callOf_15 ?_
    refine lv_iconst (pc := 16) (v := 4) hx hb dX10_callOf_16 (by decide) ?_
    refine lv_icmp_ne (pc := 17) (tgt := 36) hx hb dX10_callOf_17 (by decide) (fun c26 => ?_) (fun c26 => ?_)
    · have h := ineg c26 h
      refine lv_aload_n (pc := 36) hx hb dX10_callOf_36 rfl (lv_at hl 0 rfl) ?_
      refine gt_X10_28 X hP hk0 dX10_callOf_37 ?_
      exact w_X10_callOf_40 X  hk0  _ _ _ _ _ _ hP hS (lv_sub hl [0, 1] rfl) h
    · have h := ipos c26 h
      refine lv_iconst (pc := 20) (v := 2) hx hb dX10_callOf_20 (by decide) ?_
      refine lv_aload_n (pc := 21) hx hb dX10_callOf_21 rfl (lv_at hl 0 rfl) ?_
      refine gt_X10_28 X hP hk0 dX10_callOf_22 ?_
      refine lv_imul (pc := 25) hx hb dX10_callOf_25 ?_
      refine lv_aload_n (pc := 26) hx hb dX10_callOf_26 rfl (lv_at hl 0 rfl) ?_
      refine gt_X10_35 X hP hk0 dX10_callOf_27 ?_
      refine lv_iload_n (pc := 30) hx hb dX10_callOf_30 rfl (lv_at hl 1 rfl) ?_
      obtain ⟨j27, hj28, h⟩ := bnd1 h
      refine r_iald (pc := 31) X hP (kf_10_own hk0).1 hj28 dX10_callOf_31 ?_
      refine lv_iadd (pc := 32) hx hb dX10_callOf_32 ?_
      refine lv_goto (pc := 33) (tgt := 40) hx hb dX10_callOf_33 (by decide) ?_
      exact w_X10_callOf_40 X  hk0  _ _ _ _ _ _ hP hS (lv_sub hl [0, 1] rfl) h
def f_X10_notes (k0 : Nat) (a1 : Int32) (a2 : Int32) (σ : Mem) : Option Mem :=
  if (20 : Int32) ≤ (gI σ k0 35) then
    some σ
  else
    bd2 (f_X10_its k0 (1 : Int32) σ) fun r4 σ2 =>
    bd1 (ixo (k0 + 19) ((3 : Int32) * (gI σ k0 35))) fun j5 =>
    bd1 (some (pI σ2 (k0 + 19) j5 r4)) fun σ7 =>
    bd1 (ixo (k0 + 19) (((3 : Int32) * (gI σ7 k0 35)) + (1 : Int32))) fun j9 =>
    bd1 (some (pI σ7 (k0 + 19) j9 a1)) fun σ11 =>
    bd1 (ixo (k0 + 19) (((3 : Int32) * (gI σ11 k0 35)) + (2 : Int32))) fun j13 =>
    bd1 (some (pI σ11 (k0 + 19) j13 a2)) fun σ15 =>
    bd1 (some (pI σ15 k0 35 ((gI σ15 k0 35) + (1 : Int32)))) fun σ17 =>
    some σ17
abbrev RM_X10_notes : Room := { frames := 1, cells := 0, slots := 0, locals := 21 }
set_option maxHeartbeats 4000000 in
set_option maxRecDepth 100000 in
theorem c_X10_notes (l : Launch) (G : Gh) {k0 : Nat} {a1 : Int32} {a2 : Int32} {σ : Mem} {σr : Mem} (hk0 : kd k0 = 10) (h : f_X10_notes k0 a1 a2 σ = some σr) : Met l yX10_notes [Cond.code yX10_notes prog_12_method_47_code 3 none] RM_X10_notes (va_Pc [.ref (ga G k0), .int a1, .int a2] (Pre G σ)) (QG G none σr) 0 0 (AA G) := by
  refine ct_of (by decide) (fun p e s m below meth c X hP => ?_)
  have hx := X.hx
  have hb := X.hb
  have hS : va_S (AA G) s.heap s.heap [] := va_S.rf
  have hl := lv_entry ([.ref (ga G k0), .int a1, .int a2]) (n := 3) (Nat.le_of_ble_eq_true rfl)
  rw [lg_entry_eq]
  generalize (lg_sl ([.ref (ga G k0), .int a1, .int a2]) ++ List.replicate (3 - (lg_sl ([.ref (ga G k0), .int a1, .int a2])).length) Slot.unset).toArray = ls at hl ⊢
  have hl : lv_has ls 3 [(0, .ref (ga G k0)), (1, .int a1), (2, .int a2)] := hl
  unfold f_X10_notes at h
  refine lv_aload_n (pc := 0) hx hb dX10_notes_0 rfl (lv_at hl 0 rfl) ?_
  refine gt_X10_295 X hP hk0 dX10_notes_1 ?_
  refine lv_bipush (pc := 4) (v := (20)) hx hb dX10_notes_4 (by decide) ?_
  refine lv_icmp_ge (pc := 6) (tgt := 63) hx hb dX10_notes_6 (by decide) (fun c1 => ?_) (fun c1 => ?_)
  · have h := ipos c1 h
    obtain rfl := Option.some.inj h
    exact r_vret X hP hS dX10_notes_63
  · have h := ineg c1 h
    refine lv_aload_n (pc := 9) hx hb dX10_notes_9 rfl (lv_at hl 0 rfl) ?_
    refine gt_X10_74 X hP hk0 dX10_notes_10 ?_
    refine lv_iconst (pc := 13) (v := 3) hx hb dX10_notes_13 (by decide) ?_
    refine lv_aload_n (pc := 14) hx hb dX10_notes_14 rfl (lv_at hl 0 rfl) ?_
    refine gt_X10_295 X hP hk0 dX10_notes_15 ?_
    refine lv_imul (pc := 18) hx hb dX10_notes_18 ?_
    refine lv_aload_n (pc := 19) hx hb dX10_notes_19 rfl (lv_at hl 0 rfl) ?_
    refine lv_iconst (pc := 20) (v := 1) hx hb dX10_notes_20 (by decide) ?_
    obtain ⟨r4, σ2, e3, h⟩ := bnd2 h
    refine cl_X10_277 X hP hS hk0 (As := [.int (1 : Int32)]) (rest := [.int ((3 : Int32) * (gI σ k0 35)), .ref (ga G (k0 + 19))]) (c_X10_its l G hk0 e3) ⟨rfl, rfl, Nat.le_of_ble_eq_true rfl, Nat.le_of_ble_eq_true rfl⟩ rfl hl.1 rfl (Nat.le_of_ble_eq_true rfl) ⟨Nat.zero_le _, Nat.zero_le _⟩ (pc := 21) dX10_notes_21 (fun H locs hP hS => ?_)
    change W p l e _ s m _ below meth c H locs _ _ _ (F0 m (21 + 3) ls (.int r4 :: [.int ((3 : Int32) * (gI σ k0 35)), .ref (ga G (k0 + 19))]))
    obtain ⟨j5, hj6, h⟩ := bnd1 h
    obtain ⟨σ7, e8, h⟩ := bnd1 h
    refine r_iast (pc := 24) X hP hS (kf_10_must hk0).1 hj6 dX10_notes_24 (fun H locs hP hS => ?_)
    rw [Option.some.inj e8] at hP
    refine lv_aload_n (pc := 25) hx hb dX10_notes_25 rfl (lv_at hl 0 rfl) ?_
    refine gt_X10_74 X hP hk0 dX10_notes_26 ?_
    refine lv_iconst (pc := 29) (v := 3) hx hb dX10_notes_29 (by decide) ?_
    refine lv_aload_n (pc := 30) hx hb dX10_notes_30 rfl (lv_at hl 0 rfl) ?_
    refine gt_X10_295 X hP hk0 dX10_notes_31 ?_
    refine lv_imul (pc := 34) hx hb dX10_notes_34 ?_
    refine lv_iconst (pc := 35) (v := 1) hx hb dX10_notes_35 (by decide) ?_
    refine lv_iadd (pc := 36) hx hb dX10_notes_36 ?_
    refine lv_iload_n (pc := 37) hx hb dX10_notes_37 rfl (lv_at hl 1 rfl) ?_
    obtain ⟨j9, hj10, h⟩ := bnd1 h
    obtain ⟨σ11, e12, h⟩ := bnd1 h
    refine r_iast (pc := 38) X hP hS (kf_10_must hk0).1 hj10 dX10_notes_38 (fun H locs hP hS => ?_)
    rw [Option.some.inj e12] at hP
    refine lv_aload_n (pc := 39) hx hb dX10_notes_39 rfl (lv_at hl 0 rfl) ?_
    refine gt_X10_74 X hP hk0 dX10_notes_40 ?_
    refine lv_iconst (pc := 43) (v := 3) hx hb dX10_notes_43 (by decide) ?_
    refine lv_aload_n (pc := 44) hx hb dX10_notes_44 rfl (lv_at hl 0 rfl) ?_
    refine gt_X10_295 X hP hk0 dX10_notes_45 ?_
    refine lv_imul (pc := 48) hx hb dX10_notes_48 ?_
    refine lv_iconst (pc := 49) (v := 2) hx hb dX10_notes_49 (by decide) ?_
    refine lv_iadd (pc := 50) hx hb dX10_notes_50 ?_
    refine lv_iload_n (pc := 51) hx hb dX10_notes_51 rfl (lv_at hl 2 rfl) ?_
    obtain ⟨j13, hj14, h⟩ := bnd1 h
    obtain ⟨σ15, e16, h⟩ := bnd1 h
    refine r_iast (pc := 52) X hP hS (kf_10_must hk0).1 hj14 dX10_notes_52 (fun H locs hP hS => ?_)
    rw [Option.some.inj e16] at hP
    refine lv_aload_n (pc := 53) hx hb dX10_notes_53 rfl (lv_at hl 0 rfl) ?_
    refine lv_dup (pc := 54) hx hb dX10_notes_54 rfl ?_
    refine gt_X10_295 X hP hk0 dX10_notes_55 ?_
    refine lv_iconst (pc := 58) (v := 1) hx hb dX10_notes_58 (by decide) ?_
    refine lv_iadd (pc := 59) hx hb dX10_notes_59 ?_
    obtain ⟨σ17, e18, h⟩ := bnd1 h
    refine pt_X10_295 X hP hS hk0 dX10_notes_60 (fun H locs hP hS => ?_)
    rw [Option.some.inj e18] at hP
    obtain rfl := Option.some.inj h
    exact r_vret X hP hS dX10_notes_63
def F_X10_tickGoes_2 (k0z : Nat) (rec1 : Int32 → Mem → Option (Int32 × Mem)) : Int32 → Mem → Option (Int32 × Mem) := fun v1 σ =>
  if (gI σ k0z 8) ≤ v1 then
    bd2 (f_X10_its k0z (2 : Int32) σ) fun r4 σ2 =>
    bd2 (f_X10_burns k0z σ2) fun r7 σ5 =>
    bd1 (f_X10_becomes k0z (2 : Int32) (r4 + r7) σ5) fun σ8 =>
    bd2 (f_X10_its k0z (1 : Int32) σ8) fun r12 σ10 =>
    bd1 (f_X10_becomes k0z (1 : Int32) (r12 + (1 : Int32)) σ10) fun σ13 =>
    bd2 (f_X10_its k0z (2 : Int32) σ13) fun r17 σ15 =>
    bd2 (f_X10_its k0z (0 : Int32) σ15) fun r20 σ18 =>
    bd1 (ixo (k0z + 1) r20) fun j21 =>
    if r17 < (gI σ18 (k0z + 1) j21) then
      some ((0 : Int32), σ18)
    else
      some ((1 : Int32), σ18)
  else
    if v1 = (gI σ k0z 33) then
      rec1 (v1 + (1 : Int32)) σ
    else
      bd2 (f_X10_callOf k0z v1 σ) fun r27 σ25 =>
      if r27 ≤ (0 : Int32) then
        rec1 (v1 + (1 : Int32)) σ25
      else
        bd1 (f_X10_becomes k0z (4 : Int32) v1 σ25) fun σ29 =>
        bd1 (f_X10_becomes k0z (3 : Int32) r27 σ29) fun σ31 =>
        bd1 (f_X10_notes k0z v1 r27 σ31) fun σ33 =>
        rec1 (v1 + (1 : Int32)) σ33
def f_X10_tickGoes (k0 : Nat) (σ : Mem) : Option (Int32 × Mem) :=
  iterF (F_X10_tickGoes_2 k0) (fun _ _ => none) FU (0 : Int32) σ
abbrev RM_X10_tickGoes : Room := { frames := 4, cells := 0, slots := 0, locals := 86 }
set_option maxHeartbeats 4000000 in
set_option maxRecDepth 100000 in
theorem w_X10_tickGoes_2 {l : Launch} {G : Gh} {p : Program} {e : Env} {s : State} {m : MethodId} {args : Array Value} {below : List Frame} {meth : Method} {c : Code} (X : Cx G p s m args meth c prog_12_method_48_code RX10 3 (some .boolean)) {k0z : Nat} (hz0 : kd k0z = 10) {rr : Int32} {σr : Mem} : ∀ (n : Nat) (v1 : Int32) (σ : Mem) (H : Heap) (locs : List Loc) (ls : Array Slot), PW G σ H → va_S (AA G) s.heap H locs → lv_has ls 3 [(0, .ref (ga G k0z)), (1, .int v1)] → iterF (F_X10_tickGoes_2 k0z) (fun _ _ => none) n v1 σ = some (rr, σr) → W p l e RM_X10_tickGoes s m args below meth c H locs 0 0 (MQ below (QG G (some (.int rr)) σr) args s 0 0 (AA G)) (F0 m 2 ls []) := by
  have hx := X.hx
  have hb := X.hb
  intro n
  induction n with
  | zero => intro v1 σ H locs ls hP hS hl h; exact nnone (α := (Int32 × Mem)) h
  | succ n ih1 =>
    intro v1 σ H locs ls hP hS hl h
    have h : F_X10_tickGoes_2 k0z (iterF (F_X10_tickGoes_2 k0z) (fun _ _ => none) n) v1 σ = some _ := h
    unfold F_X10_tickGoes_2 at h
    refine lv_iload_n (pc := 2) hx hb dX10_tickGoes_2 rfl (lv_at hl 1 rfl) ?_
    refine lv_aload_n (pc := 3) hx hb dX10_tickGoes_3 rfl (lv_at hl 0 rfl) ?_
    refine gt_X10_128 X hP hz0 dX10_tickGoes_4 ?_
    refine lv_icmp_ge (pc := 7) (tgt := 56) hx hb dX10_tickGoes_7 (by decide) (fun c1 => ?_) (fun c1 => ?_)
    · have h := ipos c1 h
      refine lv_aload_n (pc := 56) hx hb dX10_tickGoes_56 rfl (lv_at hl 0 rfl) ?_
      refine lv_iconst (pc := 57) (v := 2) hx hb dX10_tickGoes_57 (by decide) ?_
      refine lv_aload_n (pc := 58) hx hb dX10_tickGoes_58 rfl (lv_at hl 0 rfl) ?_
      refine lv_iconst (pc := 59) (v := 2) hx hb dX10_tickGoes_59 (by decide) ?_
      obtain ⟨r4, σ2, e3, h⟩ := bnd2 h
      refine cl_X10_277 X hP hS hz0 (As := [.int (2 : Int32)]) (rest := [.int (2 : Int32), .ref (ga G k0z)]) (c_X10_its l G hz0 e3) ⟨rfl, rfl, Nat.le_of_ble_eq_true rfl, Nat.le_of_ble_eq_true rfl⟩ rfl hl.1 rfl (Nat.le_of_ble_eq_true rfl) ⟨Nat.zero_le _, Nat.zero_le _⟩ (pc := 60) dX10_tickGoes_60 (fun H locs hP hS => ?_)
      change W p l e _ s m _ below meth c H locs _ _ _ (F0 m (60 + 3) ls (.int r4 :: [.int (2 : Int32), .ref (ga G k0z)]))
      refine lv_aload_n (pc := 63) hx hb dX10_tickGoes_63 rfl (lv_at hl 0 rfl) ?_
      obtain ⟨r7, σ5, e6, h⟩ := bnd2 h
      refine cl_X10_289 X hP hS hz0 (As := []) (rest := [.int r4, .int (2 : Int32), .ref (ga G k0z)]) (c_X10_burns l G hz0 e6) ⟨rfl, rfl, Nat.le_of_ble_eq_true rfl, Nat.le_of_ble_eq_true rfl⟩ rfl hl.1 rfl (Nat.le_of_ble_eq_true rfl) ⟨Nat.zero_le _, Nat.zero_le _⟩ (pc := 64) dX10_tickGoes_64 (fun H locs hP hS => ?_)
      change W p l e _ s m _ below meth c H locs _ _ _ (F0 m (64 + 3) ls (.int r7 :: [.int r4, .int (2 : Int32), .ref (ga G k0z)]))
      refine lv_iadd (pc := 67) hx hb dX10_tickGoes_67 ?_
      obtain ⟨σ8, e9, h⟩ := bnd1 h
      refine cl_X10_255 X hP hS hz0 (As := [.int (2 : Int32), .int (r4 + r7)]) (rest := []) (c_X10_becomes l G hz0 e9) ⟨rfl, rfl, Nat.le_of_ble_eq_true rfl, Nat.le_of_ble_eq_true rfl⟩ rfl hl.1 rfl (Nat.le_of_ble_eq_true rfl) ⟨Nat.zero_le _, Nat.zero_le _⟩ (pc := 68) dX10_tickGoes_68 (fun H locs hP hS => ?_)
      change W p l e _ s m _ below meth c H locs _ _ _ (F0 m (68 + 3) ls [])
      refine lv_aload_n (pc := 71) hx hb dX10_tickGoes_71 rfl (lv_at hl 0 rfl) ?_
      refine lv_iconst (pc := 72) (v := 1) hx hb dX10_tickGoes_72 (by decide) ?_
      refine lv_aload_n (pc := 73) hx hb dX10_tickGoes_73 rfl (lv_at hl 0 rfl) ?_
      refine lv_iconst (pc := 74) (v := 1) hx hb dX10_tickGoes_74 (by decide) ?_
      obtain ⟨r12, σ10, e11, h⟩ := bnd2 h
      refine cl_X10_277 X hP hS hz0 (As := [.int (1 : Int32)]) (rest := [.int (1 : Int32), .ref (ga G k0z)]) (c_X10_its l G hz0 e11) ⟨rfl, rfl, Nat.le_of_ble_eq_true rfl, Nat.le_of_ble_eq_true rfl⟩ rfl hl.1 rfl (Nat.le_of_ble_eq_true rfl) ⟨Nat.zero_le _, Nat.zero_le _⟩ (pc := 75) dX10_tickGoes_75 (fun H locs hP hS => ?_)
      change W p l e _ s m _ below meth c H locs _ _ _ (F0 m (75 + 3) ls (.int r12 :: [.int (1 : Int32), .ref (ga G k0z)]))
      refine lv_iconst (pc := 78) (v := 1) hx hb dX10_tickGoes_78 (by decide) ?_
      refine lv_iadd (pc := 79) hx hb dX10_tickGoes_79 ?_
      obtain ⟨σ13, e14, h⟩ := bnd1 h
      refine cl_X10_255 X hP hS hz0 (As := [.int (1 : Int32), .int (r12 + (1 : Int32))]) (rest := []) (c_X10_becomes l G hz0 e14) ⟨rfl, rfl, Nat.le_of_ble_eq_true rfl, Nat.le_of_ble_eq_true rfl⟩ rfl hl.1 rfl (Nat.le_of_ble_eq_true rfl) ⟨Nat.zero_le _, Nat.zero_le _⟩ (pc := 80) dX10_tickGoes_80 (fun H locs hP hS => ?_)
      change W p l e _ s m _ below meth c H locs _ _ _ (F0 m (80 + 3) ls [])
      refine lv_aload_n (pc := 83) hx hb dX10_tickGoes_83 rfl (lv_at hl 0 rfl) ?_
      refine lv_iconst (pc := 84) (v := 2) hx hb dX10_tickGoes_84 (by decide) ?_
      obtain ⟨r17, σ15, e16, h⟩ := bnd2 h
      refine cl_X10_277 X hP hS hz0 (As := [.int (2 : Int32)]) (rest := []) (c_X10_its l G hz0 e16) ⟨rfl, rfl, Nat.le_of_ble_eq_true rfl, Nat.le_of_ble_eq_true rfl⟩ rfl hl.1 rfl (Nat.le_of_ble_eq_true rfl) ⟨Nat.zero_le _, Nat.zero_le _⟩ (pc := 85) dX10_tickGoes_85 (fun H locs hP hS => ?_)
      change W p l e _ s m _ below meth c H locs _ _ _ (F0 m (85 + 3) ls (.int r17 :: []))
      refine lv_aload_n (pc := 88) hx hb dX10_tickGoes_88 rfl (lv_at hl 0 rfl) ?_
      refine gt_X10_7 X hP hz0 dX10_tickGoes_89 ?_
      refine lv_aload_n (pc := 92) hx hb dX10_tickGoes_92 rfl (lv_at hl 0 rfl) ?_
      refine lv_iconst (pc := 93) (v := 0) hx hb dX10_tickGoes_93 (by decide) ?_
      obtain ⟨r20, σ18, e19, h⟩ := bnd2 h
      refine cl_X10_277 X hP hS hz0 (As := [.int (0 : Int32)]) (rest := [.ref (ga G (k0z + 1)), .int r17]) (c_X10_its l G hz0 e19) ⟨rfl, rfl, Nat.le_of_ble_eq_true rfl, Nat.le_of_ble_eq_true rfl⟩ rfl hl.1 rfl (Nat.le_of_ble_eq_true rfl) ⟨Nat.zero_le _, Nat.zero_le _⟩ (pc := 94) dX10_tickGoes_94 (fun H locs hP hS => ?_)
      change W p l e _ s m _ below meth c H locs _ _ _ (F0 m (94 + 3) ls (.int r20 :: [.ref (ga G (k0z + 1)), .int r17]))
      obtain ⟨j21, hj22, h⟩ := bnd1 h
      refine r_iald (pc := 97) X hP (kf_10_waxes hz0).1 hj22 dX10_tickGoes_97 ?_
      refine lv_icmp_lt (pc := 98) (tgt := 105) hx hb dX10_tickGoes_98 (by decide) (fun c23 => ?_) (fun c23 => ?_)
      · have h := ipos c23 h
        refine lv_iconst (pc := 105) (v := 0) hx hb dX10_tickGoes_105 (by decide) ?_
        obtain ⟨rfl, rfl⟩ := inj2 h
        exact r_zret X hP hS (by decide) dX10_tickGoes_106
      · have h := ineg c23 h
        refine lv_iconst (pc := 101) (v := 1) hx hb dX10_tickGoes_101 (by decide) ?_
        refine lv_goto (pc := 102) (tgt := 106) hx hb dX10_tickGoes_102 (by decide) ?_
        obtain ⟨rfl, rfl⟩ := inj2 h
        exact r_zret X hP hS (by decide) dX10_tickGoes_106
    · have h := ineg c1 h
      refine lv_iload_n (pc := 10) hx hb dX10_tickGoes_10 rfl (lv_at hl 1 rfl) ?_
      refine lv_aload_n (pc := 11) hx hb dX10_tickGoes_11 rfl (lv_at hl 0 rfl) ?_
      refine gt_X10_71 X hP hz0 dX10_tickGoes_12 ?_
      refine lv_icmp_ne (pc := 15) (tgt := 22) hx hb dX10_tickGoes_15 (by decide) (fun c24 => ?_) (fun c24 => ?_)
      · have h := ineg c24 h
        refine lv_aload_n (pc := 22) hx hb dX10_tickGoes_22 rfl (lv_at hl 0 rfl) ?_
        refine lv_iload_n (pc := 23) hx hb dX10_tickGoes_23 rfl (lv_at hl 1 rfl) ?_
        obtain ⟨r27, σ25, e26, h⟩ := bnd2 h
        refine cl_X10_298 X hP hS hz0 (As := [.int v1]) (rest := []) (c_X10_callOf l G hz0 e26) ⟨rfl, rfl, Nat.le_of_ble_eq_true rfl, Nat.le_of_ble_eq_true rfl⟩ rfl hl.1 rfl (Nat.le_of_ble_eq_true rfl) ⟨Nat.zero_le _, Nat.zero_le _⟩ (pc := 24) dX10_tickGoes_24 (fun H locs hP hS => ?_)
        change W p l e _ s m _ below meth c H locs _ _ _ (F0 m (24 + 3) ls (.int r27 :: []))
        refine lv_istore_n (pc := 27) (lv' := [(2, .int r27), (0, .ref (ga G k0z)), (1, .int v1)]) hx hb dX10_tickGoes_27 rfl hl (by decide) rfl (fun ls hl => ?_)
        refine lv_iload_n (pc := 28) hx hb dX10_tickGoes_28 rfl (lv_at hl 0 rfl) ?_
        refine lv_if_le (pc := 29) (tgt := 50) hx hb dX10_tickGoes_29 (by decide) (fun c28 => ?_) (fun c28 => ?_)
        · have h := ipos c28 h
          refine lv_iinc (pc := 50) (v := (v1 + (1 : Int32))) (lv' := [(1, .int (v1 + (1 : Int32))), (2, .int r27), (0, .ref (ga G k0z))]) hx hb dX10_tickGoes_50 hl (k := 2) rfl (congrArg (fun z => v1 + z) (by decide)) (by decide) rfl (fun ls hl => ?_)
          refine lv_goto (pc := 53) (tgt := 2) hx hb dX10_tickGoes_53 (by decide) ?_
          exact ih1 _ _ _ _ _ hP hS (lv_sub hl [2, 0] rfl) h
        · have h := ineg c28 h
          refine lv_aload_n (pc := 32) hx hb dX10_tickGoes_32 rfl (lv_at hl 1 rfl) ?_
          refine lv_iconst (pc := 33) (v := 4) hx hb dX10_tickGoes_33 (by decide) ?_
          refine lv_iload_n (pc := 34) hx hb dX10_tickGoes_34 rfl (lv_at hl 2 rfl) ?_
          obtain ⟨σ29, e30, h⟩ := bnd1 h
          refine cl_X10_255 X hP hS hz0 (As := [.int (4 : Int32), .int v1]) (rest := []) (c_X10_becomes l G hz0 e30) ⟨rfl, rfl, Nat.le_of_ble_eq_true rfl, Nat.le_of_ble_eq_true rfl⟩ rfl hl.1 rfl (Nat.le_of_ble_eq_true rfl) ⟨Nat.zero_le _, Nat.zero_le _⟩ (pc := 35) dX10_tickGoes_35 (fun H locs hP hS => ?_)
          change W p l e _ s m _ below meth c H locs _ _ _ (F0 m (35 + 3) ls [])
          refine lv_aload_n (pc := 38) hx hb dX10_tickGoes_38 rfl (lv_at hl 1 rfl) ?_
          refine lv_iconst (pc := 39) (v := 3) hx hb dX10_tickGoes_39 (by decide) ?_
          refine lv_iload_n (pc := 40) hx hb dX10_tickGoes_40 rfl (lv_at hl 0 rfl) ?_
          obtain ⟨σ31, e32, h⟩ := bnd1 h
          refine cl_X10_255 X hP hS hz0 (As := [.int (3 : Int32), .int r27]) (rest := []) (c_X10_becomes l G hz0 e32) ⟨rfl, rfl, Nat.le_of_ble_eq_true rfl, Nat.le_of_ble_eq_true rfl⟩ rfl hl.1 rfl (Nat.le_of_ble_eq_true rfl) ⟨Nat.zero_le _, Nat.zero_le _⟩ (pc := 41) dX10_tickGoes_41 (fun H locs hP hS => ?_)
          change W p l e _ s m _ below meth c H locs _ _ _ (F0 m (41 + 3) ls [])
          refine lv_aload_n (pc := 44) hx hb dX10_tickGoes_44 rfl (lv_at hl 1 rfl) ?_
          refine lv_iload_n (pc := 45) hx hb dX10_tickGoes_45 rfl (lv_at hl 2 rfl) ?_
          refine lv_iload_n (pc := 46) hx hb dX10_tickGoes_46 rfl (lv_at hl 0 rfl) ?_
          obtain ⟨σ33, e34, h⟩ := bnd1 h
          refine cl_X10_301 X hP hS hz0 (As := [.int v1, .int r27]) (rest := []) (c_X10_notes l G hz0 e34) ⟨rfl, rfl, Nat.le_of_ble_eq_true rfl, Nat.le_of_ble_eq_true rfl⟩ rfl hl.1 rfl (Nat.le_of_ble_eq_true rfl) ⟨Nat.zero_le _, Nat.zero_le _⟩ (pc := 47) dX10_tickGoes_47 (fun H locs hP hS => ?_)
          change W p l e _ s m _ below meth c H locs _ _ _ (F0 m (47 + 3) ls [])
          refine lv_iinc (pc := 50) (v := (v1 + (1 : Int32))) (lv' := [(1, .int (v1 + (1 : Int32))), (2, .int r27), (0, .ref (ga G k0z))]) hx hb dX10_tickGoes_50 hl (k := 2) rfl (congrArg (fun z => v1 + z) (by decide)) (by decide) rfl (fun ls hl => ?_)
          refine lv_goto (pc := 53) (tgt := 2) hx hb dX10_tickGoes_53 (by decide) ?_
          exact ih1 _ _ _ _ _ hP hS (lv_sub hl [2, 0] rfl) h
      · have h := ipos c24 h
        refine lv_iconst (pc := 18) (v := 0) hx hb dX10_tickGoes_18 (by decide) ?_
        refine lv_goto (pc := 19) (tgt := 27) hx hb dX10_tickGoes_19 (by decide) ?_
        refine lv_istore_n (pc := 27) (lv' := [(2, .int (0 : Int32)), (0, .ref (ga G k0z)), (1, .int v1)]) hx hb dX10_tickGoes_27 rfl hl (by decide) rfl (fun ls hl => ?_)
        refine lv_iload_n (pc := 28) hx hb dX10_tickGoes_28 rfl (lv_at hl 0 rfl) ?_
        refine lv_if_le (pc := 29) (tgt := 50) hx hb dX10_tickGoes_29 (by decide) (fun _ => ?_) (fun q => absurd q (by decide))
        refine lv_iinc (pc := 50) (v := (v1 + (1 : Int32))) (lv' := [(1, .int (v1 + (1 : Int32))), (2, .int (0 : Int32)), (0, .ref (ga G k0z))]) hx hb dX10_tickGoes_50 hl (k := 2) rfl (congrArg (fun z => v1 + z) (by decide)) (by decide) rfl (fun ls hl => ?_)
        refine lv_goto (pc := 53) (tgt := 2) hx hb dX10_tickGoes_53 (by decide) ?_
        exact ih1 _ _ _ _ _ hP hS (lv_sub hl [2, 0] rfl) h
set_option maxHeartbeats 4000000 in
set_option maxRecDepth 100000 in
theorem c_X10_tickGoes (l : Launch) (G : Gh) {k0 : Nat} {σ : Mem} {rr : Int32} {σr : Mem} (hk0 : kd k0 = 10) (h : f_X10_tickGoes k0 σ = some (rr, σr)) : Met l yX10_tickGoes [Cond.code yX10_tickGoes prog_12_method_48_code 3 (some .boolean)] RM_X10_tickGoes (va_Pc [.ref (ga G k0)] (Pre G σ)) (QG G (some (.int rr)) σr) 0 0 (AA G) := by
  refine ct_of (by decide) (fun p e s m below meth c X hP => ?_)
  have hx := X.hx
  have hb := X.hb
  have hS : va_S (AA G) s.heap s.heap [] := va_S.rf
  have hl := lv_entry ([.ref (ga G k0)]) (n := 3) (Nat.le_of_ble_eq_true rfl)
  rw [lg_entry_eq]
  generalize (lg_sl ([.ref (ga G k0)]) ++ List.replicate (3 - (lg_sl ([.ref (ga G k0)])).length) Slot.unset).toArray = ls at hl ⊢
  have hl : lv_has ls 3 [(0, .ref (ga G k0))] := hl
  unfold f_X10_tickGoes at h
  refine lv_iconst (pc := 0) (v := 0) hx hb dX10_tickGoes_0 (by decide) ?_
  refine lv_istore_n (pc := 1) (lv' := [(1, .int (0 : Int32)), (0, .ref (ga G k0))]) hx hb dX10_tickGoes_1 rfl hl (by decide) rfl (fun ls hl => ?_)
  exact w_X10_tickGoes_2 X  hk0  FU _ _ _ _ _ hP hS (lv_sub hl [1, 0] rfl) h
def f_X10_pays (k0 : Nat) (σ : Mem) : Option Mem :=
  bd2 (f_X10_its k0 (4 : Int32) σ) fun r3 σ1 =>
  if r3 < (0 : Int32) then
    some σ1
  else
    bd2 (f_X10_its k0 ((5 : Int32) + r3) σ1) fun r7 σ5 =>
    bd2 (f_X10_its k0 (3 : Int32) σ5) fun r10 σ8 =>
    if (0 : Int32) ≤ (r7 - r10) then
      bd1 (f_X10_becomes k0 ((5 : Int32) + r3) (r7 - r10) σ8) fun σ12 =>
      some σ12
    else
      bd1 (f_X10_becomes k0 ((5 : Int32) + r3) (0 : Int32) σ8) fun σ14 =>
      some σ14
abbrev RM_X10_pays : Room := { frames := 1, cells := 0, slots := 0, locals := 22 }
set_option maxHeartbeats 4000000 in
set_option maxRecDepth 100000 in
theorem c_X10_pays (l : Launch) (G : Gh) {k0 : Nat} {σ : Mem} {σr : Mem} (hk0 : kd k0 = 10) (h : f_X10_pays k0 σ = some σr) : Met l yX10_pays [Cond.code yX10_pays prog_12_method_49_code 3 none] RM_X10_pays (va_Pc [.ref (ga G k0)] (Pre G σ)) (QG G none σr) 0 0 (AA G) := by
  refine ct_of (by decide) (fun p e s m below meth c X hP => ?_)
  have hx := X.hx
  have hb := X.hb
  have hS : va_S (AA G) s.heap s.heap [] := va_S.rf
  have hl := lv_entry ([.ref (ga G k0)]) (n := 3) (Nat.le_of_ble_eq_true rfl)
  rw [lg_entry_eq]
  generalize (lg_sl ([.ref (ga G k0)]) ++ List.replicate (3 - (lg_sl ([.ref (ga G k0)])).length) Slot.unset).toArray = ls at hl ⊢
  have hl : lv_has ls 3 [(0, .ref (ga G k0))] := hl
  unfold f_X10_pays at h
  refine lv_aload_n (pc := 0) hx hb dX10_pays_0 rfl (lv_at hl 0 rfl) ?_
  refine lv_iconst (pc := 1) (v := 4) hx hb dX10_pays_1 (by decide) ?_
  obtain ⟨r3, σ1, e2, h⟩ := bnd2 h
  refine cl_X10_277 X hP hS hk0 (As := [.int (4 : Int32)]) (rest := []) (c_X10_its l G hk0 e2) ⟨rfl, rfl, Nat.le_of_ble_eq_true rfl, Nat.le_of_ble_eq_true rfl⟩ rfl hl.1 rfl (Nat.le_of_ble_eq_true rfl) ⟨Nat.zero_le _, Nat.zero_le _⟩ (pc := 2) dX10_pays_2 (fun H locs hP hS => ?_)
  change W p l e _ s m _ below meth c H locs _ _ _ (F0 m (2 + 3) ls (.int r3 :: []))
  refine lv_istore_n (pc := 5) (lv' := [(1, .int r3), (0, .ref (ga G k0))]) hx hb dX10_pays_5 rfl hl (by decide) rfl (fun ls hl => ?_)
  refine lv_iload_n (pc := 6) hx hb dX10_pays_6 rfl (lv_at hl 0 rfl) ?_
  refine lv_if_lt (pc := 7) (tgt := 40) hx hb dX10_pays_7 (by decide) (fun c4 => ?_) (fun c4 => ?_)
  · have h := ipos c4 h
    obtain rfl := Option.some.inj h
    exact r_vret X hP hS dX10_pays_40
  · have h := ineg c4 h
    refine lv_aload_n (pc := 10) hx hb dX10_pays_10 rfl (lv_at hl 1 rfl) ?_
    refine lv_iconst (pc := 11) (v := 5) hx hb dX10_pays_11 (by decide) ?_
    refine lv_iload_n (pc := 12) hx hb dX10_pays_12 rfl (lv_at hl 0 rfl) ?_
    refine lv_iadd (pc := 13) hx hb dX10_pays_13 ?_
    obtain ⟨r7, σ5, e6, h⟩ := bnd2 h
    refine cl_X10_277 X hP hS hk0 (As := [.int ((5 : Int32) + r3)]) (rest := []) (c_X10_its l G hk0 e6) ⟨rfl, rfl, Nat.le_of_ble_eq_true rfl, Nat.le_of_ble_eq_true rfl⟩ rfl hl.1 rfl (Nat.le_of_ble_eq_true rfl) ⟨Nat.zero_le _, Nat.zero_le _⟩ (pc := 14) dX10_pays_14 (fun H locs hP hS => ?_)
    change W p l e _ s m _ below meth c H locs _ _ _ (F0 m (14 + 3) ls (.int r7 :: []))
    refine lv_aload_n (pc := 17) hx hb dX10_pays_17 rfl (lv_at hl 1 rfl) ?_
    refine lv_iconst (pc := 18) (v := 3) hx hb dX10_pays_18 (by decide) ?_
    obtain ⟨r10, σ8, e9, h⟩ := bnd2 h
    refine cl_X10_277 X hP hS hk0 (As := [.int (3 : Int32)]) (rest := [.int r7]) (c_X10_its l G hk0 e9) ⟨rfl, rfl, Nat.le_of_ble_eq_true rfl, Nat.le_of_ble_eq_true rfl⟩ rfl hl.1 rfl (Nat.le_of_ble_eq_true rfl) ⟨Nat.zero_le _, Nat.zero_le _⟩ (pc := 19) dX10_pays_19 (fun H locs hP hS => ?_)
    change W p l e _ s m _ below meth c H locs _ _ _ (F0 m (19 + 3) ls (.int r10 :: [.int r7]))
    refine lv_isub (pc := 22) hx hb dX10_pays_22 ?_
    refine lv_istore_n (pc := 23) (lv' := [(2, .int (r7 - r10)), (1, .int r3), (0, .ref (ga G k0))]) hx hb dX10_pays_23 rfl hl (by decide) rfl (fun ls hl => ?_)
    refine lv_aload_n (pc := 24) hx hb dX10_pays_24 rfl (lv_at hl 2 rfl) ?_
    refine lv_iconst (pc := 25) (v := 5) hx hb dX10_pays_25 (by decide) ?_
    refine lv_iload_n (pc := 26) hx hb dX10_pays_26 rfl (lv_at hl 1 rfl) ?_
    refine lv_iadd (pc := 27) hx hb dX10_pays_27 ?_
    refine lv_iload_n (pc := 28) hx hb dX10_pays_28 rfl (lv_at hl 0 rfl) ?_
    refine lv_if_ge (pc := 29) (tgt := 36) hx hb dX10_pays_29 (by decide) (fun c11 => ?_) (fun c11 => ?_)
    · have h := ipos c11 h
      refine lv_iload_n (pc := 36) hx hb dX10_pays_36 rfl (lv_at hl 0 rfl) ?_
      obtain ⟨σ12, e13, h⟩ := bnd1 h
      refine cl_X10_255 X hP hS hk0 (As := [.int ((5 : Int32) + r3), .int (r7 - r10)]) (rest := []) (c_X10_becomes l G hk0 e13) ⟨rfl, rfl, Nat.le_of_ble_eq_true rfl, Nat.le_of_ble_eq_true rfl⟩ rfl hl.1 rfl (Nat.le_of_ble_eq_true rfl) ⟨Nat.zero_le _, Nat.zero_le _⟩ (pc := 37) dX10_pays_37 (fun H locs hP hS => ?_)
      change W p l e _ s m _ below meth c H locs _ _ _ (F0 m (37 + 3) ls [])
      obtain rfl := Option.some.inj h
      exact r_vret X hP hS dX10_pays_40
    · have h := ineg c11 h
      refine lv_iconst (pc := 32) (v := 0) hx hb dX10_pays_32 (by decide) ?_
      refine lv_goto (pc := 33) (tgt := 37) hx hb dX10_pays_33 (by decide) ?_
      obtain ⟨σ14, e15, h⟩ := bnd1 h
      refine cl_X10_255 X hP hS hk0 (As := [.int ((5 : Int32) + r3), .int (0 : Int32)]) (rest := []) (c_X10_becomes l G hk0 e15) ⟨rfl, rfl, Nat.le_of_ble_eq_true rfl, Nat.le_of_ble_eq_true rfl⟩ rfl hl.1 rfl (Nat.le_of_ble_eq_true rfl) ⟨Nat.zero_le _, Nat.zero_le _⟩ (pc := 37) dX10_pays_37 (fun H locs hP hS => ?_)
      change W p l e _ s m _ below meth c H locs _ _ _ (F0 m (37 + 3) ls [])
      obtain rfl := Option.some.inj h
      exact r_vret X hP hS dX10_pays_40
def f_X10_lights (k0 : Nat) (a1 : Int32) (σ : Mem) : Option Mem :=
  bd1 (f_X10_none k0 σ) fun σ1 =>
  bd1 (f_X10_becomes k0 (0 : Int32) a1 σ1) fun σ3 =>
  some σ3
abbrev RM_X10_lights : Room := { frames := 2, cells := 0, slots := 0, locals := 42 }
set_option maxHeartbeats 4000000 in
set_option maxRecDepth 100000 in
theorem c_X10_lights (l : Launch) (G : Gh) {k0 : Nat} {a1 : Int32} {σ : Mem} {σr : Mem} (hk0 : kd k0 = 10) (h : f_X10_lights k0 a1 σ = some σr) : Met l yX10_lights [Cond.code yX10_lights prog_12_method_50_code 2 none] RM_X10_lights (va_Pc [.ref (ga G k0), .int a1] (Pre G σ)) (QG G none σr) 0 0 (AA G) := by
  refine ct_of (by decide) (fun p e s m below meth c X hP => ?_)
  have hx := X.hx
  have hb := X.hb
  have hS : va_S (AA G) s.heap s.heap [] := va_S.rf
  have hl := lv_entry ([.ref (ga G k0), .int a1]) (n := 2) (Nat.le_of_ble_eq_true rfl)
  rw [lg_entry_eq]
  generalize (lg_sl ([.ref (ga G k0), .int a1]) ++ List.replicate (2 - (lg_sl ([.ref (ga G k0), .int a1])).length) Slot.unset).toArray = ls at hl ⊢
  have hl : lv_has ls 2 [(0, .ref (ga G k0)), (1, .int a1)] := hl
  unfold f_X10_lights at h
  refine lv_aload_n (pc := 0) hx hb dX10_lights_0 rfl (lv_at hl 0 rfl) ?_
  obtain ⟨σ1, e2, h⟩ := bnd1 h
  refine cl_X10_252 X hP hS hk0 (As := []) (rest := []) (c_X10_none l G hk0 e2) ⟨rfl, rfl, Nat.le_of_ble_eq_true rfl, Nat.le_of_ble_eq_true rfl⟩ rfl hl.1 rfl (Nat.le_of_ble_eq_true rfl) ⟨Nat.zero_le _, Nat.zero_le _⟩ (pc := 1) dX10_lights_1 (fun H locs hP hS => ?_)
  change W p l e _ s m _ below meth c H locs _ _ _ (F0 m (1 + 3) ls [])
  refine lv_aload_n (pc := 4) hx hb dX10_lights_4 rfl (lv_at hl 0 rfl) ?_
  refine lv_iconst (pc := 5) (v := 0) hx hb dX10_lights_5 (by decide) ?_
  refine lv_iload_n (pc := 6) hx hb dX10_lights_6 rfl (lv_at hl 1 rfl) ?_
  obtain ⟨σ3, e4, h⟩ := bnd1 h
  refine cl_X10_255 X hP hS hk0 (As := [.int (0 : Int32), .int a1]) (rest := []) (c_X10_becomes l G hk0 e4) ⟨rfl, rfl, Nat.le_of_ble_eq_true rfl, Nat.le_of_ble_eq_true rfl⟩ rfl hl.1 rfl (Nat.le_of_ble_eq_true rfl) ⟨Nat.zero_le _, Nat.zero_le _⟩ (pc := 7) dX10_lights_7 (fun H locs hP hS => ?_)
  change W p l e _ s m _ below meth c H locs _ _ _ (F0 m (7 + 3) ls [])
  obtain rfl := Option.some.inj h
  exact r_vret X hP hS dX10_lights_10
def f_X10_light (k0 : Nat) (a1 : Int32) (σ : Mem) : Option (Int32 × Mem) :=
  bd2 (f_X10_isLot k0 a1 σ) fun r3 σ1 =>
  if r3 = (0 : Int32) then
    some ((-1 : Int32), σ1)
  else
    bd1 (ixo (k0 + 3) a1) fun j5 =>
    if (gI σ1 (k0 + 3) j5) = (1 : Int32) then
      some ((-4 : Int32), σ1)
    else
      bd1 (ixo (k0 + 10) (0 : Int32)) fun j8 =>
      if (gI σ1 (k0 + 10) j8) < (0 : Int32) then
        bd1 (f_X10_lights k0 a1 σ1) fun σ11 =>
        some ((1 : Int32), σ11)
      else
        some ((-4 : Int32), σ1)
abbrev RM_X10_light : Room := { frames := 3, cells := 0, slots := 0, locals := 63 }
set_option maxHeartbeats 4000000 in
set_option maxRecDepth 100000 in
theorem c_X10_light (l : Launch) (G : Gh) {k0 : Nat} {a1 : Int32} {σ : Mem} {rr : Int32} {σr : Mem} (hk0 : kd k0 = 10) (h : f_X10_light k0 a1 σ = some (rr, σr)) : Met l yX10_light [Cond.code yX10_light prog_12_method_51_code 2 (some .int)] RM_X10_light (va_Pc [.ref (ga G k0), .int a1] (Pre G σ)) (QG G (some (.int rr)) σr) 0 0 (AA G) := by
  refine ct_of (by decide) (fun p e s m below meth c X hP => ?_)
  have hx := X.hx
  have hb := X.hb
  have hS : va_S (AA G) s.heap s.heap [] := va_S.rf
  have hl := lv_entry ([.ref (ga G k0), .int a1]) (n := 2) (Nat.le_of_ble_eq_true rfl)
  rw [lg_entry_eq]
  generalize (lg_sl ([.ref (ga G k0), .int a1]) ++ List.replicate (2 - (lg_sl ([.ref (ga G k0), .int a1])).length) Slot.unset).toArray = ls at hl ⊢
  have hl : lv_has ls 2 [(0, .ref (ga G k0)), (1, .int a1)] := hl
  unfold f_X10_light at h
  refine lv_aload_n (pc := 0) hx hb dX10_light_0 rfl (lv_at hl 0 rfl) ?_
  refine lv_iload_n (pc := 1) hx hb dX10_light_1 rfl (lv_at hl 1 rfl) ?_
  obtain ⟨r3, σ1, e2, h⟩ := bnd2 h
  refine cl_X10_124 X hP hS hk0 (As := [.int a1]) (rest := []) (c_X10_isLot l G hk0 e2) ⟨rfl, rfl, Nat.le_of_ble_eq_true rfl, Nat.le_of_ble_eq_true rfl⟩ rfl hl.1 rfl (Nat.le_of_ble_eq_true rfl) ⟨Nat.zero_le _, Nat.zero_le _⟩ (pc := 2) dX10_light_2 (fun H locs hP hS => ?_)
  change W p l e _ s m _ below meth c H locs _ _ _ (F0 m (2 + 3) ls (.int r3 :: []))
  refine lv_if_ne (pc := 5) (tgt := 10) hx hb dX10_light_5 (by decide) (fun c4 => ?_) (fun c4 => ?_)
  · have h := ineg c4 h
    refine lv_aload_n (pc := 10) hx hb dX10_light_10 rfl (lv_at hl 0 rfl) ?_
    refine gt_X10_16 X hP hk0 dX10_light_11 ?_
    refine lv_iload_n (pc := 14) hx hb dX10_light_14 rfl (lv_at hl 1 rfl) ?_
    obtain ⟨j5, hj6, h⟩ := bnd1 h
    refine r_iald (pc := 15) X hP (kf_10_sold hk0).1 hj6 dX10_light_15 ?_
    refine lv_iconst (pc := 16) (v := 1) hx hb dX10_light_16 (by decide) ?_
    refine lv_icmp_eq (pc := 17) (tgt := 29) hx hb dX10_light_17 (by decide) (fun c7 => ?_) (fun c7 => ?_)
    · have h := ipos c7 h
      refine lv_bipush (pc := 29) (v := (-4)) hx hb dX10_light_29 (by decide) ?_
      obtain ⟨rfl, rfl⟩ := inj2 h
      exact r_iret X hP hS dX10_light_31
    · have h := ineg c7 h
      refine lv_aload_n (pc := 20) hx hb dX10_light_20 rfl (lv_at hl 0 rfl) ?_
      refine gt_X10_41 X hP hk0 dX10_light_21 ?_
      refine lv_iconst (pc := 24) (v := 0) hx hb dX10_light_24 (by decide) ?_
      obtain ⟨j8, hj9, h⟩ := bnd1 h
      refine r_iald (pc := 25) X hP (kf_10_row hk0).1 hj9 dX10_light_25 ?_
      refine lv_if_lt (pc := 26) (tgt := 32) hx hb dX10_light_26 (by decide) (fun c10 => ?_) (fun c10 => ?_)
      · have h := ipos c10 h
        refine lv_aload_n (pc := 32) hx hb dX10_light_32 rfl (lv_at hl 0 rfl) ?_
        refine lv_iload_n (pc := 33) hx hb dX10_light_33 rfl (lv_at hl 1 rfl) ?_
        obtain ⟨σ11, e12, h⟩ := bnd1 h
        refine cl_X10_304 X hP hS hk0 (As := [.int a1]) (rest := []) (c_X10_lights l G hk0 e12) ⟨rfl, rfl, Nat.le_of_ble_eq_true rfl, Nat.le_of_ble_eq_true rfl⟩ rfl hl.1 rfl (Nat.le_of_ble_eq_true rfl) ⟨Nat.zero_le _, Nat.zero_le _⟩ (pc := 34) dX10_light_34 (fun H locs hP hS => ?_)
        change W p l e _ s m _ below meth c H locs _ _ _ (F0 m (34 + 3) ls [])
        refine lv_iconst (pc := 37) (v := 1) hx hb dX10_light_37 (by decide) ?_
        obtain ⟨rfl, rfl⟩ := inj2 h
        exact r_iret X hP hS dX10_light_38
      · have h := ineg c10 h
        refine lv_bipush (pc := 29) (v := (-4)) hx hb dX10_light_29 (by decide) ?_
        obtain ⟨rfl, rfl⟩ := inj2 h
        exact r_iret X hP hS dX10_light_31
  · have h := ipos c4 h
    refine lv_iconst (pc := 8) (v := (-1)) hx hb dX10_light_8 (by decide) ?_
    obtain ⟨rfl, rfl⟩ := inj2 h
    exact r_iret X hP hS dX10_light_9
def f_X10_orNot (a0 : Int32) (σ : Mem) : Option (Int32 × Mem) :=
  if (0 : Int32) ≤ a0 then
    some (a0, σ)
  else
    some ((-9 : Int32), σ)
abbrev RM_X10_orNot : Room := { frames := 0, cells := 0, slots := 0, locals := 0 }
set_option maxHeartbeats 4000000 in
set_option maxRecDepth 100000 in
theorem c_X10_orNot (l : Launch) (G : Gh) {a0 : Int32} {σ : Mem} {rr : Int32} {σr : Mem} (h : f_X10_orNot a0 σ = some (rr, σr)) : Met l yX10_orNot [Cond.code yX10_orNot prog_12_method_52_code 1 (some .int)] RM_X10_orNot (va_Pc [.int a0] (Pre G σ)) (QG G (some (.int rr)) σr) 0 0 (AA G) := by
  refine ct_of (by decide) (fun p e s m below meth c X hP => ?_)
  have hx := X.hx
  have hb := X.hb
  have hS : va_S (AA G) s.heap s.heap [] := va_S.rf
  have hl := lv_entry ([.int a0]) (n := 1) (Nat.le_of_ble_eq_true rfl)
  rw [lg_entry_eq]
  generalize (lg_sl ([.int a0]) ++ List.replicate (1 - (lg_sl ([.int a0])).length) Slot.unset).toArray = ls at hl ⊢
  have hl : lv_has ls 1 [(0, .int a0)] := hl
  unfold f_X10_orNot at h
  refine lv_iload_n (pc := 0) hx hb dX10_orNot_0 rfl (lv_at hl 0 rfl) ?_
  refine lv_if_ge (pc := 1) (tgt := 9) hx hb dX10_orNot_1 (by decide) (fun c1 => ?_) (fun c1 => ?_)
  · have h := ipos c1 h
    refine lv_iload_n (pc := 9) hx hb dX10_orNot_9 rfl (lv_at hl 0 rfl) ?_
    obtain ⟨rfl, rfl⟩ := inj2 h
    exact r_iret X hP hS dX10_orNot_10
  · have h := ineg c1 h
    refine lv_bipush (pc := 4) (v := (-9)) hx hb dX10_orNot_4 (by decide) ?_
    refine lv_goto (pc := 6) (tgt := 10) hx hb dX10_orNot_6 (by decide) ?_
    obtain ⟨rfl, rfl⟩ := inj2 h
    exact r_iret X hP hS dX10_orNot_10
def f_X10_now (k0 : Nat) (a1 : Int32) (σ : Mem) : Option (Int32 × Mem) :=
  bd2 (f_X10_in a1 (0 : Int32) (6 : Int32) σ) fun r3 σ1 =>
  if r3 = (0 : Int32) then
    some ((-1 : Int32), σ1)
  else
    if a1 = (0 : Int32) then
      bd1 (ixo (k0 + 10) (0 : Int32)) fun j6 =>
      bd2 (f_X10_orNot (gI σ1 (k0 + 10) j6) σ1) fun r10 σ8 =>
      some (r10, σ8)
    else
    if a1 = (1 : Int32) then
      bd1 (ixo (k0 + 10) a1) fun j12 =>
      some ((gI σ1 (k0 + 10) j12), σ1)
    else
    if a1 = (2 : Int32) then
      bd1 (ixo (k0 + 10) a1) fun j15 =>
      some ((gI σ1 (k0 + 10) j15), σ1)
    else
    if a1 = (3 : Int32) then
      bd1 (ixo (k0 + 10) a1) fun j18 =>
      some ((gI σ1 (k0 + 10) j18), σ1)
    else
    if a1 = (4 : Int32) then
      bd1 (ixo (k0 + 10) (4 : Int32)) fun j21 =>
      bd2 (f_X10_orNot (gI σ1 (k0 + 10) j21) σ1) fun r25 σ23 =>
      some (r25, σ23)
    else
    if a1 = (5 : Int32) then
      bd1 (ixo (k0 + 10) (0 : Int32)) fun j27 =>
      if (0 : Int32) ≤ (gI σ1 (k0 + 10) j27) then
        bd2 (f_X10_leftOf k0 σ1) fun r32 σ30 =>
        some (r32, σ30)
      else
        some ((0 : Int32), σ1)
    else
    if a1 = (6 : Int32) then
      bd1 (ixo (k0 + 10) (0 : Int32)) fun j34 =>
      if (0 : Int32) ≤ (gI σ1 (k0 + 10) j34) then
        bd2 (f_X10_burns k0 σ1) fun r39 σ37 =>
        some (r39, σ37)
      else
        some ((0 : Int32), σ1)
    else
    bd1 (ixo (k0 + 10) a1) fun j40 =>
    some ((gI σ1 (k0 + 10) j40), σ1)
abbrev RM_X10_now : Room := { frames := 2, cells := 0, slots := 0, locals := 41 }
set_option maxHeartbeats 4000000 in
set_option maxRecDepth 100000 in
theorem c_X10_now (l : Launch) (G : Gh) {k0 : Nat} {a1 : Int32} {σ : Mem} {rr : Int32} {σr : Mem} (hk0 : kd k0 = 10) (h : f_X10_now k0 a1 σ = some (rr, σr)) : Met l yX10_now [Cond.code yX10_now prog_12_method_53_code 2 (some .int)] RM_X10_now (va_Pc [.ref (ga G k0), .int a1] (Pre G σ)) (QG G (some (.int rr)) σr) 0 0 (AA G) := by
  refine ct_of (by decide) (fun p e s m below meth c X hP => ?_)
  have hx := X.hx
  have hb := X.hb
  have hS : va_S (AA G) s.heap s.heap [] := va_S.rf
  have hl := lv_entry ([.ref (ga G k0), .int a1]) (n := 2) (Nat.le_of_ble_eq_true rfl)
  rw [lg_entry_eq]
  generalize (lg_sl ([.ref (ga G k0), .int a1]) ++ List.replicate (2 - (lg_sl ([.ref (ga G k0), .int a1])).length) Slot.unset).toArray = ls at hl ⊢
  have hl : lv_has ls 2 [(0, .ref (ga G k0)), (1, .int a1)] := hl
  unfold f_X10_now at h
  refine lv_iload_n (pc := 0) hx hb dX10_now_0 rfl (lv_at hl 1 rfl) ?_
  refine lv_iconst (pc := 1) (v := 0) hx hb dX10_now_1 (by decide) ?_
  refine lv_bipush (pc := 2) (v := (6)) hx hb dX10_now_2 (by decide) ?_
  obtain ⟨r3, σ1, e2, h⟩ := bnd2 h
  refine cl_X10_120 X hP hS (As := [.int a1, .int (0 : Int32), .int (6 : Int32)]) (rest := []) (c_X10_in l G  e2) ⟨rfl, rfl, Nat.le_of_ble_eq_true rfl, Nat.le_of_ble_eq_true rfl⟩ rfl hl.1 rfl (Nat.le_of_ble_eq_true rfl) ⟨Nat.zero_le _, Nat.zero_le _⟩ (pc := 4) dX10_now_4 (fun H locs hP hS => ?_)
  change W p l e _ s m _ below meth c H locs _ _ _ (F0 m (4 + 3) ls (.int r3 :: []))
  refine lv_if_ne (pc := 7) (tgt := 12) hx hb dX10_now_7 (by decide) (fun c4 => ?_) (fun c4 => ?_)
  · have h := ineg c4 h
    refine lv_iload_n (pc := 12) hx hb dX10_now_12 rfl (lv_at hl 1 rfl) ?_
    by_cases c5 : a1 = (0 : Int32)
    · have h := ipos c5 h
      refine r_tabIn X (pc := 13) (tgt := 56) c5 dX10_now_13 (by decide) (by decide) rfl (by decide) ?_
      refine lv_aload_n (pc := 56) hx hb dX10_now_56 rfl (lv_at hl 0 rfl) ?_
      refine gt_X10_41 X hP hk0 dX10_now_57 ?_
      refine lv_iconst (pc := 60) (v := 0) hx hb dX10_now_60 (by decide) ?_
      obtain ⟨j6, hj7, h⟩ := bnd1 h
      refine r_iald (pc := 61) X hP (kf_10_row hk0).1 hj7 dX10_now_61 ?_
      obtain ⟨r10, σ8, e9, h⟩ := bnd2 h
      refine cl_X10_307 X hP hS (As := [.int (gI σ1 (k0 + 10) j6)]) (rest := []) (c_X10_orNot l G  e9) ⟨rfl, rfl, Nat.le_of_ble_eq_true rfl, Nat.le_of_ble_eq_true rfl⟩ rfl hl.1 rfl (Nat.le_of_ble_eq_true rfl) ⟨Nat.zero_le _, Nat.zero_le _⟩ (pc := 62) dX10_now_62 (fun H locs hP hS => ?_)
      change W p l e _ s m _ below meth c H locs _ _ _ (F0 m (62 + 3) ls (.int r10 :: []))
      obtain ⟨rfl, rfl⟩ := inj2 h
      exact r_iret X hP hS dX10_now_65
    have h := ineg c5 h
    by_cases c11 : a1 = (1 : Int32)
    · have h := ipos c11 h
      refine r_tabIn X (pc := 13) (tgt := 112) c11 dX10_now_13 (by decide) (by decide) rfl (by decide) ?_
      refine lv_aload_n (pc := 112) hx hb dX10_now_112 rfl (lv_at hl 0 rfl) ?_
      refine gt_X10_41 X hP hk0 dX10_now_113 ?_
      refine lv_iload_n (pc := 116) hx hb dX10_now_116 rfl (lv_at hl 1 rfl) ?_
      obtain ⟨j12, hj13, h⟩ := bnd1 h
      refine r_iald (pc := 117) X hP (kf_10_row hk0).1 hj13 dX10_now_117 ?_
      obtain ⟨rfl, rfl⟩ := inj2 h
      exact r_iret X hP hS dX10_now_118
    have h := ineg c11 h
    by_cases c14 : a1 = (2 : Int32)
    · have h := ipos c14 h
      refine r_tabIn X (pc := 13) (tgt := 112) c14 dX10_now_13 (by decide) (by decide) rfl (by decide) ?_
      refine lv_aload_n (pc := 112) hx hb dX10_now_112 rfl (lv_at hl 0 rfl) ?_
      refine gt_X10_41 X hP hk0 dX10_now_113 ?_
      refine lv_iload_n (pc := 116) hx hb dX10_now_116 rfl (lv_at hl 1 rfl) ?_
      obtain ⟨j15, hj16, h⟩ := bnd1 h
      refine r_iald (pc := 117) X hP (kf_10_row hk0).1 hj16 dX10_now_117 ?_
      obtain ⟨rfl, rfl⟩ := inj2 h
      exact r_iret X hP hS dX10_now_118
    have h := ineg c14 h
    by_cases c17 : a1 = (3 : Int32)
    · have h := ipos c17 h
      refine r_tabIn X (pc := 13) (tgt := 112) c17 dX10_now_13 (by decide) (by decide) rfl (by decide) ?_
      refine lv_aload_n (pc := 112) hx hb dX10_now_112 rfl (lv_at hl 0 rfl) ?_
      refine gt_X10_41 X hP hk0 dX10_now_113 ?_
      refine lv_iload_n (pc := 116) hx hb dX10_now_116 rfl (lv_at hl 1 rfl) ?_
      obtain ⟨j18, hj19, h⟩ := bnd1 h
      refine r_iald (pc := 117) X hP (kf_10_row hk0).1 hj19 dX10_now_117 ?_
      obtain ⟨rfl, rfl⟩ := inj2 h
      exact r_iret X hP hS dX10_now_118
    have h := ineg c17 h
    by_cases c20 : a1 = (4 : Int32)
    · have h := ipos c20 h
      refine r_tabIn X (pc := 13) (tgt := 66) c20 dX10_now_13 (by decide) (by decide) rfl (by decide) ?_
      refine lv_aload_n (pc := 66) hx hb dX10_now_66 rfl (lv_at hl 0 rfl) ?_
      refine gt_X10_41 X hP hk0 dX10_now_67 ?_
      refine lv_iconst (pc := 70) (v := 4) hx hb dX10_now_70 (by decide) ?_
      obtain ⟨j21, hj22, h⟩ := bnd1 h
      refine r_iald (pc := 71) X hP (kf_10_row hk0).1 hj22 dX10_now_71 ?_
      obtain ⟨r25, σ23, e24, h⟩ := bnd2 h
      refine cl_X10_307 X hP hS (As := [.int (gI σ1 (k0 + 10) j21)]) (rest := []) (c_X10_orNot l G  e24) ⟨rfl, rfl, Nat.le_of_ble_eq_true rfl, Nat.le_of_ble_eq_true rfl⟩ rfl hl.1 rfl (Nat.le_of_ble_eq_true rfl) ⟨Nat.zero_le _, Nat.zero_le _⟩ (pc := 72) dX10_now_72 (fun H locs hP hS => ?_)
      change W p l e _ s m _ below meth c H locs _ _ _ (F0 m (72 + 3) ls (.int r25 :: []))
      obtain ⟨rfl, rfl⟩ := inj2 h
      exact r_iret X hP hS dX10_now_75
    have h := ineg c20 h
    by_cases c26 : a1 = (5 : Int32)
    · have h := ipos c26 h
      refine r_tabIn X (pc := 13) (tgt := 76) c26 dX10_now_13 (by decide) (by decide) rfl (by decide) ?_
      refine lv_aload_n (pc := 76) hx hb dX10_now_76 rfl (lv_at hl 0 rfl) ?_
      refine gt_X10_41 X hP hk0 dX10_now_77 ?_
      refine lv_iconst (pc := 80) (v := 0) hx hb dX10_now_80 (by decide) ?_
      obtain ⟨j27, hj28, h⟩ := bnd1 h
      refine r_iald (pc := 81) X hP (kf_10_row hk0).1 hj28 dX10_now_81 ?_
      refine lv_if_ge (pc := 82) (tgt := 89) hx hb dX10_now_82 (by decide) (fun c29 => ?_) (fun c29 => ?_)
      · have h := ipos c29 h
        refine lv_aload_n (pc := 89) hx hb dX10_now_89 rfl (lv_at hl 0 rfl) ?_
        obtain ⟨r32, σ30, e31, h⟩ := bnd2 h
        refine cl_X10_286 X hP hS hk0 (As := []) (rest := []) (c_X10_leftOf l G hk0 e31) ⟨rfl, rfl, Nat.le_of_ble_eq_true rfl, Nat.le_of_ble_eq_true rfl⟩ rfl hl.1 rfl (Nat.le_of_ble_eq_true rfl) ⟨Nat.zero_le _, Nat.zero_le _⟩ (pc := 90) dX10_now_90 (fun H locs hP hS => ?_)
        change W p l e _ s m _ below meth c H locs _ _ _ (F0 m (90 + 3) ls (.int r32 :: []))
        obtain ⟨rfl, rfl⟩ := inj2 h
        exact r_iret X hP hS dX10_now_93
      · have h := ineg c29 h
        refine lv_iconst (pc := 85) (v := 0) hx hb dX10_now_85 (by decide) ?_
        refine lv_goto (pc := 86) (tgt := 93) hx hb dX10_now_86 (by decide) ?_
        obtain ⟨rfl, rfl⟩ := inj2 h
        exact r_iret X hP hS dX10_now_93
    have h := ineg c26 h
    by_cases c33 : a1 = (6 : Int32)
    · have h := ipos c33 h
      refine r_tabIn X (pc := 13) (tgt := 94) c33 dX10_now_13 (by decide) (by decide) rfl (by decide) ?_
      refine lv_aload_n (pc := 94) hx hb dX10_now_94 rfl (lv_at hl 0 rfl) ?_
      refine gt_X10_41 X hP hk0 dX10_now_95 ?_
      refine lv_iconst (pc := 98) (v := 0) hx hb dX10_now_98 (by decide) ?_
      obtain ⟨j34, hj35, h⟩ := bnd1 h
      refine r_iald (pc := 99) X hP (kf_10_row hk0).1 hj35 dX10_now_99 ?_
      refine lv_if_ge (pc := 100) (tgt := 107) hx hb dX10_now_100 (by decide) (fun c36 => ?_) (fun c36 => ?_)
      · have h := ipos c36 h
        refine lv_aload_n (pc := 107) hx hb dX10_now_107 rfl (lv_at hl 0 rfl) ?_
        obtain ⟨r39, σ37, e38, h⟩ := bnd2 h
        refine cl_X10_289 X hP hS hk0 (As := []) (rest := []) (c_X10_burns l G hk0 e38) ⟨rfl, rfl, Nat.le_of_ble_eq_true rfl, Nat.le_of_ble_eq_true rfl⟩ rfl hl.1 rfl (Nat.le_of_ble_eq_true rfl) ⟨Nat.zero_le _, Nat.zero_le _⟩ (pc := 108) dX10_now_108 (fun H locs hP hS => ?_)
        change W p l e _ s m _ below meth c H locs _ _ _ (F0 m (108 + 3) ls (.int r39 :: []))
        obtain ⟨rfl, rfl⟩ := inj2 h
        exact r_iret X hP hS dX10_now_111
      · have h := ineg c36 h
        refine lv_iconst (pc := 103) (v := 0) hx hb dX10_now_103 (by decide) ?_
        refine lv_goto (pc := 104) (tgt := 111) hx hb dX10_now_104 (by decide) ?_
        obtain ⟨rfl, rfl⟩ := inj2 h
        exact r_iret X hP hS dX10_now_111
    have h := ineg c33 h
    refine lv_tableOut (pc := 13) (tgt := 112) hx hb dX10_now_13 (by have := lv_neT c5 (a := 0) (by decide); have := lv_neT c11 (a := 1) (by decide); have := lv_neT c14 (a := 2) (by decide); have := lv_neT c17 (a := 3) (by decide); have := lv_neT c20 (a := 4) (by decide); have := lv_neT c26 (a := 5) (by decide); have := lv_neT c33 (a := 6) (by decide); omega) (by decide) ?_
    refine lv_aload_n (pc := 112) hx hb dX10_now_112 rfl (lv_at hl 0 rfl) ?_
    refine gt_X10_41 X hP hk0 dX10_now_113 ?_
    refine lv_iload_n (pc := 116) hx hb dX10_now_116 rfl (lv_at hl 1 rfl) ?_
    obtain ⟨j40, hj41, h⟩ := bnd1 h
    refine r_iald (pc := 117) X hP (kf_10_row hk0).1 hj41 dX10_now_117 ?_
    obtain ⟨rfl, rfl⟩ := inj2 h
    exact r_iret X hP hS dX10_now_118
  · have h := ipos c4 h
    refine lv_iconst (pc := 10) (v := (-1)) hx hb dX10_now_10 (by decide) ?_
    obtain ⟨rfl, rfl⟩ := inj2 h
    exact r_iret X hP hS dX10_now_11
def f_X10_would (k0 : Nat) (a1 : Int32) (σ : Mem) : Option (Int32 × Mem) :=
  bd2 (f_X10_isBidder k0 a1 σ) fun r3 σ1 =>
  if r3 = (0 : Int32) then
    some ((-1 : Int32), σ1)
  else
    bd1 (ixo (k0 + 10) (0 : Int32)) fun j5 =>
    if (0 : Int32) ≤ (gI σ1 (k0 + 10) j5) then
      bd2 (f_X10_callOf k0 a1 σ1) fun r10 σ8 =>
      some (r10, σ8)
    else
      some ((0 : Int32), σ1)
abbrev RM_X10_would : Room := { frames := 4, cells := 0, slots := 0, locals := 86 }
set_option maxHeartbeats 4000000 in
set_option maxRecDepth 100000 in
theorem c_X10_would (l : Launch) (G : Gh) {k0 : Nat} {a1 : Int32} {σ : Mem} {rr : Int32} {σr : Mem} (hk0 : kd k0 = 10) (h : f_X10_would k0 a1 σ = some (rr, σr)) : Met l yX10_would [Cond.code yX10_would prog_12_method_54_code 2 (some .int)] RM_X10_would (va_Pc [.ref (ga G k0), .int a1] (Pre G σ)) (QG G (some (.int rr)) σr) 0 0 (AA G) := by
  refine ct_of (by decide) (fun p e s m below meth c X hP => ?_)
  have hx := X.hx
  have hb := X.hb
  have hS : va_S (AA G) s.heap s.heap [] := va_S.rf
  have hl := lv_entry ([.ref (ga G k0), .int a1]) (n := 2) (Nat.le_of_ble_eq_true rfl)
  rw [lg_entry_eq]
  generalize (lg_sl ([.ref (ga G k0), .int a1]) ++ List.replicate (2 - (lg_sl ([.ref (ga G k0), .int a1])).length) Slot.unset).toArray = ls at hl ⊢
  have hl : lv_has ls 2 [(0, .ref (ga G k0)), (1, .int a1)] := hl
  unfold f_X10_would at h
  refine lv_aload_n (pc := 0) hx hb dX10_would_0 rfl (lv_at hl 0 rfl) ?_
  refine lv_iload_n (pc := 1) hx hb dX10_would_1 rfl (lv_at hl 1 rfl) ?_
  obtain ⟨r3, σ1, e2, h⟩ := bnd2 h
  refine cl_X10_271 X hP hS hk0 (As := [.int a1]) (rest := []) (c_X10_isBidder l G hk0 e2) ⟨rfl, rfl, Nat.le_of_ble_eq_true rfl, Nat.le_of_ble_eq_true rfl⟩ rfl hl.1 rfl (Nat.le_of_ble_eq_true rfl) ⟨Nat.zero_le _, Nat.zero_le _⟩ (pc := 2) dX10_would_2 (fun H locs hP hS => ?_)
  change W p l e _ s m _ below meth c H locs _ _ _ (F0 m (2 + 3) ls (.int r3 :: []))
  refine lv_if_ne (pc := 5) (tgt := 10) hx hb dX10_would_5 (by decide) (fun c4 => ?_) (fun c4 => ?_)
  · have h := ineg c4 h
    refine lv_aload_n (pc := 10) hx hb dX10_would_10 rfl (lv_at hl 0 rfl) ?_
    refine gt_X10_41 X hP hk0 dX10_would_11 ?_
    refine lv_iconst (pc := 14) (v := 0) hx hb dX10_would_14 (by decide) ?_
    obtain ⟨j5, hj6, h⟩ := bnd1 h
    refine r_iald (pc := 15) X hP (kf_10_row hk0).1 hj6 dX10_would_15 ?_
    refine lv_if_ge (pc := 16) (tgt := 23) hx hb dX10_would_16 (by decide) (fun c7 => ?_) (fun c7 => ?_)
    · have h := ipos c7 h
      refine lv_aload_n (pc := 23) hx hb dX10_would_23 rfl (lv_at hl 0 rfl) ?_
      refine lv_iload_n (pc := 24) hx hb dX10_would_24 rfl (lv_at hl 1 rfl) ?_
      obtain ⟨r10, σ8, e9, h⟩ := bnd2 h
      refine cl_X10_298 X hP hS hk0 (As := [.int a1]) (rest := []) (c_X10_callOf l G hk0 e9) ⟨rfl, rfl, Nat.le_of_ble_eq_true rfl, Nat.le_of_ble_eq_true rfl⟩ rfl hl.1 rfl (Nat.le_of_ble_eq_true rfl) ⟨Nat.zero_le _, Nat.zero_le _⟩ (pc := 25) dX10_would_25 (fun H locs hP hS => ?_)
      change W p l e _ s m _ below meth c H locs _ _ _ (F0 m (25 + 3) ls (.int r10 :: []))
      obtain ⟨rfl, rfl⟩ := inj2 h
      exact r_iret X hP hS dX10_would_28
    · have h := ineg c7 h
      refine lv_iconst (pc := 19) (v := 0) hx hb dX10_would_19 (by decide) ?_
      refine lv_goto (pc := 20) (tgt := 28) hx hb dX10_would_20 (by decide) ?_
      obtain ⟨rfl, rfl⟩ := inj2 h
      exact r_iret X hP hS dX10_would_28
  · have h := ipos c4 h
    refine lv_iconst (pc := 8) (v := (-1)) hx hb dX10_would_8 (by decide) ?_
    obtain ⟨rfl, rfl⟩ := inj2 h
    exact r_iret X hP hS dX10_would_9
def f_X10_sells (k0 : Nat) (σ : Mem) : Option (Int32 × Mem) :=
  bd1 (ixo (k0 + 10) (0 : Int32)) fun j1 =>
  bd1 (ixo (k0 + 10) (4 : Int32)) fun j3 =>
  bd1 (ixo (k0 + 3) (gI σ (k0 + 10) j1)) fun j5 =>
  bd1 (some (pI σ (k0 + 3) j5 (1 : Int32))) fun σ7 =>
  if (0 : Int32) ≤ (gI σ (k0 + 10) j3) then
    bd1 (ixo (k0 + 10) (3 : Int32)) fun j10 =>
    bd1 (ixo (k0 + 4) (gI σ (k0 + 10) j1)) fun j12 =>
    bd1 (some (pI σ7 (k0 + 4) j12 (gI σ7 (k0 + 10) j10))) fun σ14 =>
    bd1 (ixo (k0 + 5) (gI σ (k0 + 10) j1)) fun j16 =>
    bd1 (some (pI σ14 (k0 + 5) j16 (gI σ (k0 + 10) j3))) fun σ18 =>
    bd1 (f_X10_pays k0 σ18) fun σ20 =>
    bd1 (f_X10_none k0 σ20) fun σ22 =>
    bd2 (f_X10_orNot (gI σ (k0 + 10) j3) σ22) fun r26 σ24 =>
    some (r26, σ24)
  else
    bd1 (ixo (k0 + 4) (gI σ (k0 + 10) j1)) fun j27 =>
    bd1 (some (pI σ7 (k0 + 4) j27 (0 : Int32))) fun σ29 =>
    bd1 (ixo (k0 + 5) (gI σ (k0 + 10) j1)) fun j31 =>
    bd1 (some (pI σ29 (k0 + 5) j31 (gI σ (k0 + 10) j3))) fun σ33 =>
    bd1 (f_X10_pays k0 σ33) fun σ35 =>
    bd1 (f_X10_none k0 σ35) fun σ37 =>
    bd2 (f_X10_orNot (gI σ (k0 + 10) j3) σ37) fun r41 σ39 =>
    some (r41, σ39)
abbrev RM_X10_sells : Room := { frames := 2, cells := 0, slots := 0, locals := 44 }
set_option maxHeartbeats 4000000 in
set_option maxRecDepth 100000 in
theorem c_X10_sells (l : Launch) (G : Gh) {k0 : Nat} {σ : Mem} {rr : Int32} {σr : Mem} (hk0 : kd k0 = 10) (h : f_X10_sells k0 σ = some (rr, σr)) : Met l yX10_sells [Cond.code yX10_sells prog_12_method_55_code 3 (some .int)] RM_X10_sells (va_Pc [.ref (ga G k0)] (Pre G σ)) (QG G (some (.int rr)) σr) 0 0 (AA G) := by
  refine ct_of (by decide) (fun p e s m below meth c X hP => ?_)
  have hx := X.hx
  have hb := X.hb
  have hS : va_S (AA G) s.heap s.heap [] := va_S.rf
  have hl := lv_entry ([.ref (ga G k0)]) (n := 3) (Nat.le_of_ble_eq_true rfl)
  rw [lg_entry_eq]
  generalize (lg_sl ([.ref (ga G k0)]) ++ List.replicate (3 - (lg_sl ([.ref (ga G k0)])).length) Slot.unset).toArray = ls at hl ⊢
  have hl : lv_has ls 3 [(0, .ref (ga G k0))] := hl
  unfold f_X10_sells at h
  refine lv_aload_n (pc := 0) hx hb dX10_sells_0 rfl (lv_at hl 0 rfl) ?_
  refine gt_X10_41 X hP hk0 dX10_sells_1 ?_
  refine lv_iconst (pc := 4) (v := 0) hx hb dX10_sells_4 (by decide) ?_
  obtain ⟨j1, hj2, h⟩ := bnd1 h
  refine r_iald (pc := 5) X hP (kf_10_row hk0).1 hj2 dX10_sells_5 ?_
  refine lv_istore_n (pc := 6) (lv' := [(1, .int (gI σ (k0 + 10) j1)), (0, .ref (ga G k0))]) hx hb dX10_sells_6 rfl hl (by decide) rfl (fun ls hl => ?_)
  refine lv_aload_n (pc := 7) hx hb dX10_sells_7 rfl (lv_at hl 1 rfl) ?_
  refine gt_X10_41 X hP hk0 dX10_sells_8 ?_
  refine lv_iconst (pc := 11) (v := 4) hx hb dX10_sells_11 (by decide) ?_
  obtain ⟨j3, hj4, h⟩ := bnd1 h
  refine r_iald (pc := 12) X hP (kf_10_row hk0).1 hj4 dX10_sells_12 ?_
  refine lv_istore_n (pc := 13) (lv' := [(2, .int (gI σ (k0 + 10) j3)), (1, .int (gI σ (k0 + 10) j1)), (0, .ref (ga G k0))]) hx hb dX10_sells_13 rfl hl (by decide) rfl (fun ls hl => ?_)
  refine lv_aload_n (pc := 14) hx hb dX10_sells_14 rfl (lv_at hl 2 rfl) ?_
  refine gt_X10_16 X hP hk0 dX10_sells_15 ?_
  refine lv_iload_n (pc := 18) hx hb dX10_sells_18 rfl (lv_at hl 1 rfl) ?_
  refine lv_iconst (pc := 19) (v := 1) hx hb dX10_sells_19 (by decide) ?_
  obtain ⟨j5, hj6, h⟩ := bnd1 h
  obtain ⟨σ7, e8, h⟩ := bnd1 h
  refine r_iast (pc := 20) X hP hS (kf_10_sold hk0).1 hj6 dX10_sells_20 (fun H locs hP hS => ?_)
  rw [Option.some.inj e8] at hP
  refine lv_aload_n (pc := 21) hx hb dX10_sells_21 rfl (lv_at hl 2 rfl) ?_
  refine gt_X10_19 X hP hk0 dX10_sells_22 ?_
  refine lv_iload_n (pc := 25) hx hb dX10_sells_25 rfl (lv_at hl 1 rfl) ?_
  refine lv_iload_n (pc := 26) hx hb dX10_sells_26 rfl (lv_at hl 0 rfl) ?_
  refine lv_if_ge (pc := 27) (tgt := 34) hx hb dX10_sells_27 (by decide) (fun c9 => ?_) (fun c9 => ?_)
  · have h := ipos c9 h
    refine lv_aload_n (pc := 34) hx hb dX10_sells_34 rfl (lv_at hl 2 rfl) ?_
    refine gt_X10_41 X hP hk0 dX10_sells_35 ?_
    refine lv_iconst (pc := 38) (v := 3) hx hb dX10_sells_38 (by decide) ?_
    obtain ⟨j10, hj11, h⟩ := bnd1 h
    refine r_iald (pc := 39) X hP (kf_10_row hk0).1 hj11 dX10_sells_39 ?_
    obtain ⟨j12, hj13, h⟩ := bnd1 h
    obtain ⟨σ14, e15, h⟩ := bnd1 h
    refine r_iast (pc := 40) X hP hS (kf_10_prices hk0).1 hj13 dX10_sells_40 (fun H locs hP hS => ?_)
    rw [Option.some.inj e15] at hP
    refine lv_aload_n (pc := 41) hx hb dX10_sells_41 rfl (lv_at hl 2 rfl) ?_
    refine gt_X10_22 X hP hk0 dX10_sells_42 ?_
    refine lv_iload_n (pc := 45) hx hb dX10_sells_45 rfl (lv_at hl 1 rfl) ?_
    refine lv_iload_n (pc := 46) hx hb dX10_sells_46 rfl (lv_at hl 0 rfl) ?_
    obtain ⟨j16, hj17, h⟩ := bnd1 h
    obtain ⟨σ18, e19, h⟩ := bnd1 h
    refine r_iast (pc := 47) X hP hS (kf_10_owners hk0).1 hj17 dX10_sells_47 (fun H locs hP hS => ?_)
    rw [Option.some.inj e19] at hP
    refine lv_aload_n (pc := 48) hx hb dX10_sells_48 rfl (lv_at hl 2 rfl) ?_
    obtain ⟨σ20, e21, h⟩ := bnd1 h
    refine cl_X10_310 X hP hS hk0 (As := []) (rest := []) (c_X10_pays l G hk0 e21) ⟨rfl, rfl, Nat.le_of_ble_eq_true rfl, Nat.le_of_ble_eq_true rfl⟩ rfl hl.1 rfl (Nat.le_of_ble_eq_true rfl) ⟨Nat.zero_le _, Nat.zero_le _⟩ (pc := 49) dX10_sells_49 (fun H locs hP hS => ?_)
    change W p l e _ s m _ below meth c H locs _ _ _ (F0 m (49 + 3) ls [])
    refine lv_aload_n (pc := 52) hx hb dX10_sells_52 rfl (lv_at hl 2 rfl) ?_
    obtain ⟨σ22, e23, h⟩ := bnd1 h
    refine cl_X10_252 X hP hS hk0 (As := []) (rest := []) (c_X10_none l G hk0 e23) ⟨rfl, rfl, Nat.le_of_ble_eq_true rfl, Nat.le_of_ble_eq_true rfl⟩ rfl hl.1 rfl (Nat.le_of_ble_eq_true rfl) ⟨Nat.zero_le _, Nat.zero_le _⟩ (pc := 53) dX10_sells_53 (fun H locs hP hS => ?_)
    change W p l e _ s m _ below meth c H locs _ _ _ (F0 m (53 + 3) ls [])
    refine lv_iload_n (pc := 56) hx hb dX10_sells_56 rfl (lv_at hl 0 rfl) ?_
    obtain ⟨r26, σ24, e25, h⟩ := bnd2 h
    refine cl_X10_307 X hP hS (As := [.int (gI σ (k0 + 10) j3)]) (rest := []) (c_X10_orNot l G  e25) ⟨rfl, rfl, Nat.le_of_ble_eq_true rfl, Nat.le_of_ble_eq_true rfl⟩ rfl hl.1 rfl (Nat.le_of_ble_eq_true rfl) ⟨Nat.zero_le _, Nat.zero_le _⟩ (pc := 57) dX10_sells_57 (fun H locs hP hS => ?_)
    change W p l e _ s m _ below meth c H locs _ _ _ (F0 m (57 + 3) ls (.int r26 :: []))
    obtain ⟨rfl, rfl⟩ := inj2 h
    exact r_iret X hP hS dX10_sells_60
  · have h := ineg c9 h
    refine lv_iconst (pc := 30) (v := 0) hx hb dX10_sells_30 (by decide) ?_
    refine lv_goto (pc := 31) (tgt := 40) hx hb dX10_sells_31 (by decide) ?_
    obtain ⟨j27, hj28, h⟩ := bnd1 h
    obtain ⟨σ29, e30, h⟩ := bnd1 h
    refine r_iast (pc := 40) X hP hS (kf_10_prices hk0).1 hj28 dX10_sells_40 (fun H locs hP hS => ?_)
    rw [Option.some.inj e30] at hP
    refine lv_aload_n (pc := 41) hx hb dX10_sells_41 rfl (lv_at hl 2 rfl) ?_
    refine gt_X10_22 X hP hk0 dX10_sells_42 ?_
    refine lv_iload_n (pc := 45) hx hb dX10_sells_45 rfl (lv_at hl 1 rfl) ?_
    refine lv_iload_n (pc := 46) hx hb dX10_sells_46 rfl (lv_at hl 0 rfl) ?_
    obtain ⟨j31, hj32, h⟩ := bnd1 h
    obtain ⟨σ33, e34, h⟩ := bnd1 h
    refine r_iast (pc := 47) X hP hS (kf_10_owners hk0).1 hj32 dX10_sells_47 (fun H locs hP hS => ?_)
    rw [Option.some.inj e34] at hP
    refine lv_aload_n (pc := 48) hx hb dX10_sells_48 rfl (lv_at hl 2 rfl) ?_
    obtain ⟨σ35, e36, h⟩ := bnd1 h
    refine cl_X10_310 X hP hS hk0 (As := []) (rest := []) (c_X10_pays l G hk0 e36) ⟨rfl, rfl, Nat.le_of_ble_eq_true rfl, Nat.le_of_ble_eq_true rfl⟩ rfl hl.1 rfl (Nat.le_of_ble_eq_true rfl) ⟨Nat.zero_le _, Nat.zero_le _⟩ (pc := 49) dX10_sells_49 (fun H locs hP hS => ?_)
    change W p l e _ s m _ below meth c H locs _ _ _ (F0 m (49 + 3) ls [])
    refine lv_aload_n (pc := 52) hx hb dX10_sells_52 rfl (lv_at hl 2 rfl) ?_
    obtain ⟨σ37, e38, h⟩ := bnd1 h
    refine cl_X10_252 X hP hS hk0 (As := []) (rest := []) (c_X10_none l G hk0 e38) ⟨rfl, rfl, Nat.le_of_ble_eq_true rfl, Nat.le_of_ble_eq_true rfl⟩ rfl hl.1 rfl (Nat.le_of_ble_eq_true rfl) ⟨Nat.zero_le _, Nat.zero_le _⟩ (pc := 53) dX10_sells_53 (fun H locs hP hS => ?_)
    change W p l e _ s m _ below meth c H locs _ _ _ (F0 m (53 + 3) ls [])
    refine lv_iload_n (pc := 56) hx hb dX10_sells_56 rfl (lv_at hl 0 rfl) ?_
    obtain ⟨r41, σ39, e40, h⟩ := bnd2 h
    refine cl_X10_307 X hP hS (As := [.int (gI σ (k0 + 10) j3)]) (rest := []) (c_X10_orNot l G  e40) ⟨rfl, rfl, Nat.le_of_ble_eq_true rfl, Nat.le_of_ble_eq_true rfl⟩ rfl hl.1 rfl (Nat.le_of_ble_eq_true rfl) ⟨Nat.zero_le _, Nat.zero_le _⟩ (pc := 57) dX10_sells_57 (fun H locs hP hS => ?_)
    change W p l e _ s m _ below meth c H locs _ _ _ (F0 m (57 + 3) ls (.int r41 :: []))
    obtain ⟨rfl, rfl⟩ := inj2 h
    exact r_iret X hP hS dX10_sells_60
def F_X10_ticks_14 (k0z : Nat) (p1 : Int32) (rec1 : Int32 → Mem → Option (Int32 × Mem)) : Int32 → Mem → Option (Int32 × Mem) := fun v2 σ =>
  if p1 ≤ v2 then
    some (v2, σ)
  else
    bd1 (ixo (k0z + 10) (0 : Int32)) fun j6 =>
    if (gI σ (k0z + 10) j6) < (0 : Int32) then
      some (v2, σ)
    else
      bd2 (f_X10_tickGoes k0z σ) fun r11 σ9 =>
      if r11 = (0 : Int32) then
        rec1 (v2 + (1 : Int32)) σ9
      else
        bd2 (f_X10_sells k0z σ9) fun r15 σ13 =>
        rec1 (v2 + (1 : Int32)) σ13
def f_X10_ticks (k0 : Nat) (a1 : Int32) (σ : Mem) : Option (Int32 × Mem) :=
  bd2 (f_X10_in a1 (0 : Int32) (60 : Int32) σ) fun r3 σ1 =>
  if r3 = (0 : Int32) then
    some ((-1 : Int32), σ1)
  else
    iterF (F_X10_ticks_14 k0 a1) (fun _ _ => none) FU (0 : Int32) σ1
abbrev RM_X10_ticks : Room := { frames := 5, cells := 0, slots := 0, locals := 108 }
set_option maxHeartbeats 4000000 in
set_option maxRecDepth 100000 in
theorem w_X10_ticks_14 {l : Launch} {G : Gh} {p : Program} {e : Env} {s : State} {m : MethodId} {args : Array Value} {below : List Frame} {meth : Method} {c : Code} (X : Cx G p s m args meth c prog_12_method_56_code RX10 4 (some .int)) {k0z : Nat} {p1 : Int32} (hz0 : kd k0z = 10) {rr : Int32} {σr : Mem} : ∀ (n : Nat) (v2 : Int32) (σ : Mem) (H : Heap) (locs : List Loc) (ls : Array Slot), PW G σ H → va_S (AA G) s.heap H locs → lv_has ls 4 [(0, .ref (ga G k0z)), (1, .int p1), (2, .int v2)] → iterF (F_X10_ticks_14 k0z p1) (fun _ _ => none) n v2 σ = some (rr, σr) → W p l e RM_X10_ticks s m args below meth c H locs 0 0 (MQ below (QG G (some (.int rr)) σr) args s 0 0 (AA G)) (F0 m 14 ls []) := by
  have hx := X.hx
  have hb := X.hb
  intro n
  induction n with
  | zero => intro v2 σ H locs ls hP hS hl h; exact nnone (α := (Int32 × Mem)) h
  | succ n ih1 =>
    intro v2 σ H locs ls hP hS hl h
    have h : F_X10_ticks_14 k0z p1 (iterF (F_X10_ticks_14 k0z p1) (fun _ _ => none) n) v2 σ = some _ := h
    unfold F_X10_ticks_14 at h
    refine lv_iload_n (pc := 14) hx hb dX10_ticks_14 rfl (lv_at hl 2 rfl) ?_
    refine lv_iload_n (pc := 15) hx hb dX10_ticks_15 rfl (lv_at hl 1 rfl) ?_
    refine lv_icmp_ge (pc := 16) (tgt := 46) hx hb dX10_ticks_16 (by decide) (fun c5 => ?_) (fun c5 => ?_)
    · have h := ipos c5 h
      refine lv_iload_n (pc := 46) hx hb dX10_ticks_46 rfl (lv_at hl 2 rfl) ?_
      obtain ⟨rfl, rfl⟩ := inj2 h
      exact r_iret X hP hS dX10_ticks_47
    · have h := ineg c5 h
      refine lv_aload_n (pc := 19) hx hb dX10_ticks_19 rfl (lv_at hl 0 rfl) ?_
      refine gt_X10_41 X hP hz0 dX10_ticks_20 ?_
      refine lv_iconst (pc := 23) (v := 0) hx hb dX10_ticks_23 (by decide) ?_
      obtain ⟨j6, hj7, h⟩ := bnd1 h
      refine r_iald (pc := 24) X hP (kf_10_row hz0).1 hj7 dX10_ticks_24 ?_
      refine lv_if_lt (pc := 25) (tgt := 46) hx hb dX10_ticks_25 (by decide) (fun c8 => ?_) (fun c8 => ?_)
      · have h := ipos c8 h
        refine lv_iload_n (pc := 46) hx hb dX10_ticks_46 rfl (lv_at hl 2 rfl) ?_
        obtain ⟨rfl, rfl⟩ := inj2 h
        exact r_iret X hP hS dX10_ticks_47
      · have h := ineg c8 h
        refine lv_aload_n (pc := 28) hx hb dX10_ticks_28 rfl (lv_at hl 0 rfl) ?_
        obtain ⟨r11, σ9, e10, h⟩ := bnd2 h
        refine cl_X10_313 X hP hS hz0 (As := []) (rest := []) (c_X10_tickGoes l G hz0 e10) ⟨rfl, rfl, Nat.le_of_ble_eq_true rfl, Nat.le_of_ble_eq_true rfl⟩ rfl hl.1 rfl (Nat.le_of_ble_eq_true rfl) ⟨Nat.zero_le _, Nat.zero_le _⟩ (pc := 29) dX10_ticks_29 (fun H locs hP hS => ?_)
        change W p l e _ s m _ below meth c H locs _ _ _ (F0 m (29 + 3) ls (.int r11 :: []))
        refine lv_if_eq (pc := 32) (tgt := 40) hx hb dX10_ticks_32 (by decide) (fun c12 => ?_) (fun c12 => ?_)
        · have h := ipos c12 h
          refine lv_iinc (pc := 40) (v := (v2 + (1 : Int32))) (lv' := [(2, .int (v2 + (1 : Int32))), (0, .ref (ga G k0z)), (1, .int p1)]) hx hb dX10_ticks_40 hl (k := 2) rfl (congrArg (fun z => v2 + z) (by decide)) (by decide) rfl (fun ls hl => ?_)
          refine lv_goto (pc := 43) (tgt := 14) hx hb dX10_ticks_43 (by decide) ?_
          exact ih1 _ _ _ _ _ hP hS (lv_sub hl [1, 2, 0] rfl) h
        · have h := ineg c12 h
          refine lv_aload_n (pc := 35) hx hb dX10_ticks_35 rfl (lv_at hl 0 rfl) ?_
          obtain ⟨r15, σ13, e14, h⟩ := bnd2 h
          refine cl_X10_317 X hP hS hz0 (As := []) (rest := []) (c_X10_sells l G hz0 e14) ⟨rfl, rfl, Nat.le_of_ble_eq_true rfl, Nat.le_of_ble_eq_true rfl⟩ rfl hl.1 rfl (Nat.le_of_ble_eq_true rfl) ⟨Nat.zero_le _, Nat.zero_le _⟩ (pc := 36) dX10_ticks_36 (fun H locs hP hS => ?_)
          change W p l e _ s m _ below meth c H locs _ _ _ (F0 m (36 + 3) ls (.int r15 :: []))
          refine lv_istore_n (pc := 39) (lv' := [(3, .int r15), (0, .ref (ga G k0z)), (1, .int p1), (2, .int v2)]) hx hb dX10_ticks_39 rfl hl (by decide) rfl (fun ls hl => ?_)
          refine lv_iinc (pc := 40) (v := (v2 + (1 : Int32))) (lv' := [(2, .int (v2 + (1 : Int32))), (3, .int r15), (0, .ref (ga G k0z)), (1, .int p1)]) hx hb dX10_ticks_40 hl (k := 3) rfl (congrArg (fun z => v2 + z) (by decide)) (by decide) rfl (fun ls hl => ?_)
          refine lv_goto (pc := 43) (tgt := 14) hx hb dX10_ticks_43 (by decide) ?_
          exact ih1 _ _ _ _ _ hP hS (lv_sub hl [2, 3, 0] rfl) h
set_option maxHeartbeats 4000000 in
set_option maxRecDepth 100000 in
theorem c_X10_ticks (l : Launch) (G : Gh) {k0 : Nat} {a1 : Int32} {σ : Mem} {rr : Int32} {σr : Mem} (hk0 : kd k0 = 10) (h : f_X10_ticks k0 a1 σ = some (rr, σr)) : Met l yX10_ticks [Cond.code yX10_ticks prog_12_method_56_code 4 (some .int)] RM_X10_ticks (va_Pc [.ref (ga G k0), .int a1] (Pre G σ)) (QG G (some (.int rr)) σr) 0 0 (AA G) := by
  refine ct_of (by decide) (fun p e s m below meth c X hP => ?_)
  have hx := X.hx
  have hb := X.hb
  have hS : va_S (AA G) s.heap s.heap [] := va_S.rf
  have hl := lv_entry ([.ref (ga G k0), .int a1]) (n := 4) (Nat.le_of_ble_eq_true rfl)
  rw [lg_entry_eq]
  generalize (lg_sl ([.ref (ga G k0), .int a1]) ++ List.replicate (4 - (lg_sl ([.ref (ga G k0), .int a1])).length) Slot.unset).toArray = ls at hl ⊢
  have hl : lv_has ls 4 [(0, .ref (ga G k0)), (1, .int a1)] := hl
  unfold f_X10_ticks at h
  refine lv_iload_n (pc := 0) hx hb dX10_ticks_0 rfl (lv_at hl 1 rfl) ?_
  refine lv_iconst (pc := 1) (v := 0) hx hb dX10_ticks_1 (by decide) ?_
  refine lv_bipush (pc := 2) (v := (60)) hx hb dX10_ticks_2 (by decide) ?_
  obtain ⟨r3, σ1, e2, h⟩ := bnd2 h
  refine cl_X10_120 X hP hS (As := [.int a1, .int (0 : Int32), .int (60 : Int32)]) (rest := []) (c_X10_in l G  e2) ⟨rfl, rfl, Nat.le_of_ble_eq_true rfl, Nat.le_of_ble_eq_true rfl⟩ rfl hl.1 rfl (Nat.le_of_ble_eq_true rfl) ⟨Nat.zero_le _, Nat.zero_le _⟩ (pc := 4) dX10_ticks_4 (fun H locs hP hS => ?_)
  change W p l e _ s m _ below meth c H locs _ _ _ (F0 m (4 + 3) ls (.int r3 :: []))
  refine lv_if_ne (pc := 7) (tgt := 12) hx hb dX10_ticks_7 (by decide) (fun c4 => ?_) (fun c4 => ?_)
  · have h := ineg c4 h
    refine lv_iconst (pc := 12) (v := 0) hx hb dX10_ticks_12 (by decide) ?_
    refine lv_istore_n (pc := 13) (lv' := [(2, .int (0 : Int32)), (0, .ref (ga G k0)), (1, .int a1)]) hx hb dX10_ticks_13 rfl hl (by decide) rfl (fun ls hl => ?_)
    exact w_X10_ticks_14 X  hk0  FU _ _ _ _ _ hP hS (lv_sub hl [1, 2, 0] rfl) h
  · have h := ipos c4 h
    refine lv_iconst (pc := 10) (v := (-1)) hx hb dX10_ticks_10 (by decide) ?_
    obtain ⟨rfl, rfl⟩ := inj2 h
    exact r_iret X hP hS dX10_ticks_11
def f_X10_call (k0 : Nat) (a1 : Int32) (a2 : Int32) (σ : Mem) : Option (Int32 × Mem) :=
  bd2 (f_X10_isBidder k0 a1 σ) fun r3 σ1 =>
  if r3 = (0 : Int32) then
    some ((-1 : Int32), σ1)
  else
    bd2 (f_X10_in a2 (1 : Int32) (9999 : Int32) σ1) fun r7 σ5 =>
    if r7 = (0 : Int32) then
      some ((-1 : Int32), σ5)
    else
      bd1 (ixo (k0 + 10) (0 : Int32)) fun j9 =>
      if (gI σ5 (k0 + 10) j9) < (0 : Int32) then
        some ((-4 : Int32), σ5)
      else
        bd1 (ixo (k0 + 10) (3 : Int32)) fun j12 =>
        if a2 ≤ (gI σ5 (k0 + 10) j12) then
          some ((-4 : Int32), σ5)
        else
          bd1 (ixo (k0 + 10) ((5 : Int32) + a1)) fun j15 =>
          if a2 ≤ (gI σ5 (k0 + 10) j15) then
            bd1 (ixo (k0 + 10) (3 : Int32)) fun j18 =>
            bd1 (ixo (k0 + 10) (3 : Int32)) fun j20 =>
            bd1 (some (pI σ5 (k0 + 10) j20 a2)) fun σ22 =>
            bd1 (ixo (k0 + 10) (4 : Int32)) fun j24 =>
            bd1 (some (pI σ22 (k0 + 10) j24 a1)) fun σ26 =>
            some ((gI σ5 (k0 + 10) j18), σ26)
          else
            some ((-4 : Int32), σ5)
abbrev RM_X10_call : Room := { frames := 2, cells := 0, slots := 0, locals := 43 }
set_option maxHeartbeats 4000000 in
set_option maxRecDepth 100000 in
theorem c_X10_call (l : Launch) (G : Gh) {k0 : Nat} {a1 : Int32} {a2 : Int32} {σ : Mem} {rr : Int32} {σr : Mem} (hk0 : kd k0 = 10) (h : f_X10_call k0 a1 a2 σ = some (rr, σr)) : Met l yX10_call [Cond.code yX10_call prog_12_method_57_code 4 (some .int)] RM_X10_call (va_Pc [.ref (ga G k0), .int a1, .int a2] (Pre G σ)) (QG G (some (.int rr)) σr) 0 0 (AA G) := by
  refine ct_of (by decide) (fun p e s m below meth c X hP => ?_)
  have hx := X.hx
  have hb := X.hb
  have hS : va_S (AA G) s.heap s.heap [] := va_S.rf
  have hl := lv_entry ([.ref (ga G k0), .int a1, .int a2]) (n := 4) (Nat.le_of_ble_eq_true rfl)
  rw [lg_entry_eq]
  generalize (lg_sl ([.ref (ga G k0), .int a1, .int a2]) ++ List.replicate (4 - (lg_sl ([.ref (ga G k0), .int a1, .int a2])).length) Slot.unset).toArray = ls at hl ⊢
  have hl : lv_has ls 4 [(0, .ref (ga G k0)), (1, .int a1), (2, .int a2)] := hl
  unfold f_X10_call at h
  refine lv_aload_n (pc := 0) hx hb dX10_call_0 rfl (lv_at hl 0 rfl) ?_
  refine lv_iload_n (pc := 1) hx hb dX10_call_1 rfl (lv_at hl 1 rfl) ?_
  obtain ⟨r3, σ1, e2, h⟩ := bnd2 h
  refine cl_X10_271 X hP hS hk0 (As := [.int a1]) (rest := []) (c_X10_isBidder l G hk0 e2) ⟨rfl, rfl, Nat.le_of_ble_eq_true rfl, Nat.le_of_ble_eq_true rfl⟩ rfl hl.1 rfl (Nat.le_of_ble_eq_true rfl) ⟨Nat.zero_le _, Nat.zero_le _⟩ (pc := 2) dX10_call_2 (fun H locs hP hS => ?_)
  change W p l e _ s m _ below meth c H locs _ _ _ (F0 m (2 + 3) ls (.int r3 :: []))
  refine lv_if_eq (pc := 5) (tgt := 19) hx hb dX10_call_5 (by decide) (fun c4 => ?_) (fun c4 => ?_)
  · have h := ipos c4 h
    refine lv_iconst (pc := 19) (v := (-1)) hx hb dX10_call_19 (by decide) ?_
    obtain ⟨rfl, rfl⟩ := inj2 h
    exact r_iret X hP hS dX10_call_20
  · have h := ineg c4 h
    refine lv_iload_n (pc := 8) hx hb dX10_call_8 rfl (lv_at hl 2 rfl) ?_
    refine lv_iconst (pc := 9) (v := 1) hx hb dX10_call_9 (by decide) ?_
    refine lv_sipush (pc := 10) (v := (9999)) hx hb dX10_call_10 (by decide) ?_
    obtain ⟨r7, σ5, e6, h⟩ := bnd2 h
    refine cl_X10_120 X hP hS (As := [.int a2, .int (1 : Int32), .int (9999 : Int32)]) (rest := []) (c_X10_in l G  e6) ⟨rfl, rfl, Nat.le_of_ble_eq_true rfl, Nat.le_of_ble_eq_true rfl⟩ rfl hl.1 rfl (Nat.le_of_ble_eq_true rfl) ⟨Nat.zero_le _, Nat.zero_le _⟩ (pc := 13) dX10_call_13 (fun H locs hP hS => ?_)
    change W p l e _ s m _ below meth c H locs _ _ _ (F0 m (13 + 3) ls (.int r7 :: []))
    refine lv_if_ne (pc := 16) (tgt := 21) hx hb dX10_call_16 (by decide) (fun c8 => ?_) (fun c8 => ?_)
    · have h := ineg c8 h
      refine lv_aload_n (pc := 21) hx hb dX10_call_21 rfl (lv_at hl 0 rfl) ?_
      refine gt_X10_41 X hP hk0 dX10_call_22 ?_
      refine lv_iconst (pc := 25) (v := 0) hx hb dX10_call_25 (by decide) ?_
      obtain ⟨j9, hj10, h⟩ := bnd1 h
      refine r_iald (pc := 26) X hP (kf_10_row hk0).1 hj10 dX10_call_26 ?_
      refine lv_if_lt (pc := 27) (tgt := 52) hx hb dX10_call_27 (by decide) (fun c11 => ?_) (fun c11 => ?_)
      · have h := ipos c11 h
        refine lv_bipush (pc := 52) (v := (-4)) hx hb dX10_call_52 (by decide) ?_
        obtain ⟨rfl, rfl⟩ := inj2 h
        exact r_iret X hP hS dX10_call_54
      · have h := ineg c11 h
        refine lv_iload_n (pc := 30) hx hb dX10_call_30 rfl (lv_at hl 2 rfl) ?_
        refine lv_aload_n (pc := 31) hx hb dX10_call_31 rfl (lv_at hl 0 rfl) ?_
        refine gt_X10_41 X hP hk0 dX10_call_32 ?_
        refine lv_iconst (pc := 35) (v := 3) hx hb dX10_call_35 (by decide) ?_
        obtain ⟨j12, hj13, h⟩ := bnd1 h
        refine r_iald (pc := 36) X hP (kf_10_row hk0).1 hj13 dX10_call_36 ?_
        refine lv_icmp_le (pc := 37) (tgt := 52) hx hb dX10_call_37 (by decide) (fun c14 => ?_) (fun c14 => ?_)
        · have h := ipos c14 h
          refine lv_bipush (pc := 52) (v := (-4)) hx hb dX10_call_52 (by decide) ?_
          obtain ⟨rfl, rfl⟩ := inj2 h
          exact r_iret X hP hS dX10_call_54
        · have h := ineg c14 h
          refine lv_iload_n (pc := 40) hx hb dX10_call_40 rfl (lv_at hl 2 rfl) ?_
          refine lv_aload_n (pc := 41) hx hb dX10_call_41 rfl (lv_at hl 0 rfl) ?_
          refine gt_X10_41 X hP hk0 dX10_call_42 ?_
          refine lv_iconst (pc := 45) (v := 5) hx hb dX10_call_45 (by decide) ?_
          refine lv_iload_n (pc := 46) hx hb dX10_call_46 rfl (lv_at hl 1 rfl) ?_
          refine lv_iadd (pc := 47) hx hb dX10_call_47 ?_
          obtain ⟨j15, hj16, h⟩ := bnd1 h
          refine r_iald (pc := 48) X hP (kf_10_row hk0).1 hj16 dX10_call_48 ?_
          refine lv_icmp_le (pc := 49) (tgt := 55) hx hb dX10_call_49 (by decide) (fun c17 => ?_) (fun c17 => ?_)
          · have h := ipos c17 h
            refine lv_aload_n (pc := 55) hx hb dX10_call_55 rfl (lv_at hl 0 rfl) ?_
            refine gt_X10_41 X hP hk0 dX10_call_56 ?_
            refine lv_iconst (pc := 59) (v := 3) hx hb dX10_call_59 (by decide) ?_
            obtain ⟨j18, hj19, h⟩ := bnd1 h
            refine r_iald (pc := 60) X hP (kf_10_row hk0).1 hj19 dX10_call_60 ?_
            refine lv_istore_n (pc := 61) (lv' := [(3, .int (gI σ5 (k0 + 10) j18)), (0, .ref (ga G k0)), (1, .int a1), (2, .int a2)]) hx hb dX10_call_61 rfl hl (by decide) rfl (fun ls hl => ?_)
            refine lv_aload_n (pc := 62) hx hb dX10_call_62 rfl (lv_at hl 1 rfl) ?_
            refine gt_X10_41 X hP hk0 dX10_call_63 ?_
            refine lv_iconst (pc := 66) (v := 3) hx hb dX10_call_66 (by decide) ?_
            refine lv_iload_n (pc := 67) hx hb dX10_call_67 rfl (lv_at hl 3 rfl) ?_
            obtain ⟨j20, hj21, h⟩ := bnd1 h
            obtain ⟨σ22, e23, h⟩ := bnd1 h
            refine r_iast (pc := 68) X hP hS (kf_10_row hk0).1 hj21 dX10_call_68 (fun H locs hP hS => ?_)
            rw [Option.some.inj e23] at hP
            refine lv_aload_n (pc := 69) hx hb dX10_call_69 rfl (lv_at hl 1 rfl) ?_
            refine gt_X10_41 X hP hk0 dX10_call_70 ?_
            refine lv_iconst (pc := 73) (v := 4) hx hb dX10_call_73 (by decide) ?_
            refine lv_iload_n (pc := 74) hx hb dX10_call_74 rfl (lv_at hl 2 rfl) ?_
            obtain ⟨j24, hj25, h⟩ := bnd1 h
            obtain ⟨σ26, e27, h⟩ := bnd1 h
            refine r_iast (pc := 75) X hP hS (kf_10_row hk0).1 hj25 dX10_call_75 (fun H locs hP hS => ?_)
            rw [Option.some.inj e27] at hP
            refine lv_iload_n (pc := 76) hx hb dX10_call_76 rfl (lv_at hl 0 rfl) ?_
            obtain ⟨rfl, rfl⟩ := inj2 h
            exact r_iret X hP hS dX10_call_77
          · have h := ineg c17 h
            refine lv_bipush (pc := 52) (v := (-4)) hx hb dX10_call_52 (by decide) ?_
            obtain ⟨rfl, rfl⟩ := inj2 h
            exact r_iret X hP hS dX10_call_54
    · have h := ipos c8 h
      refine lv_iconst (pc := 19) (v := (-1)) hx hb dX10_call_19 (by decide) ?_
      obtain ⟨rfl, rfl⟩ := inj2 h
      exact r_iret X hP hS dX10_call_20
def f_X10_snuff (k0 : Nat) (σ : Mem) : Option (Int32 × Mem) :=
  bd1 (ixo (k0 + 10) (0 : Int32)) fun j1 =>
  if (0 : Int32) ≤ (gI σ (k0 + 10) j1) then
    bd2 (f_X10_sells k0 σ) fun r6 σ4 =>
    some (r6, σ4)
  else
    some ((-4 : Int32), σ)
abbrev RM_X10_snuff : Room := { frames := 3, cells := 0, slots := 0, locals := 66 }
set_option maxHeartbeats 4000000 in
set_option maxRecDepth 100000 in
theorem c_X10_snuff (l : Launch) (G : Gh) {k0 : Nat} {σ : Mem} {rr : Int32} {σr : Mem} (hk0 : kd k0 = 10) (h : f_X10_snuff k0 σ = some (rr, σr)) : Met l yX10_snuff [Cond.code yX10_snuff prog_12_method_58_code 1 (some .int)] RM_X10_snuff (va_Pc [.ref (ga G k0)] (Pre G σ)) (QG G (some (.int rr)) σr) 0 0 (AA G) := by
  refine ct_of (by decide) (fun p e s m below meth c X hP => ?_)
  have hx := X.hx
  have hb := X.hb
  have hS : va_S (AA G) s.heap s.heap [] := va_S.rf
  have hl := lv_entry ([.ref (ga G k0)]) (n := 1) (Nat.le_of_ble_eq_true rfl)
  rw [lg_entry_eq]
  generalize (lg_sl ([.ref (ga G k0)]) ++ List.replicate (1 - (lg_sl ([.ref (ga G k0)])).length) Slot.unset).toArray = ls at hl ⊢
  have hl : lv_has ls 1 [(0, .ref (ga G k0))] := hl
  unfold f_X10_snuff at h
  refine lv_aload_n (pc := 0) hx hb dX10_snuff_0 rfl (lv_at hl 0 rfl) ?_
  refine gt_X10_41 X hP hk0 dX10_snuff_1 ?_
  refine lv_iconst (pc := 4) (v := 0) hx hb dX10_snuff_4 (by decide) ?_
  obtain ⟨j1, hj2, h⟩ := bnd1 h
  refine r_iald (pc := 5) X hP (kf_10_row hk0).1 hj2 dX10_snuff_5 ?_
  refine lv_if_ge (pc := 6) (tgt := 14) hx hb dX10_snuff_6 (by decide) (fun c3 => ?_) (fun c3 => ?_)
  · have h := ipos c3 h
    refine lv_aload_n (pc := 14) hx hb dX10_snuff_14 rfl (lv_at hl 0 rfl) ?_
    obtain ⟨r6, σ4, e5, h⟩ := bnd2 h
    refine cl_X10_317 X hP hS hk0 (As := []) (rest := []) (c_X10_sells l G hk0 e5) ⟨rfl, rfl, Nat.le_of_ble_eq_true rfl, Nat.le_of_ble_eq_true rfl⟩ rfl hl.1 rfl (Nat.le_of_ble_eq_true rfl) ⟨Nat.zero_le _, Nat.zero_le _⟩ (pc := 15) dX10_snuff_15 (fun H locs hP hS => ?_)
    change W p l e _ s m _ below meth c H locs _ _ _ (F0 m (15 + 3) ls (.int r6 :: []))
    obtain ⟨rfl, rfl⟩ := inj2 h
    exact r_iret X hP hS dX10_snuff_18
  · have h := ineg c3 h
    refine lv_bipush (pc := 9) (v := (-4)) hx hb dX10_snuff_9 (by decide) ?_
    refine lv_goto (pc := 11) (tgt := 18) hx hb dX10_snuff_11 (by decide) ?_
    obtain ⟨rfl, rfl⟩ := inj2 h
    exact r_iret X hP hS dX10_snuff_18
def f_X10_back (k0 : Nat) (a1 : Int32) (σ : Mem) : Option (Int32 × Mem) :=
  bd2 (f_X10_isLot k0 a1 σ) fun r3 σ1 =>
  if r3 = (0 : Int32) then
    some ((-1 : Int32), σ1)
  else
    bd1 (ixo (k0 + 3) a1) fun j5 =>
    if (gI σ1 (k0 + 3) j5) = (0 : Int32) then
      some ((-4 : Int32), σ1)
    else
      bd1 (ixo (k0 + 3) a1) fun j8 =>
      bd1 (some (pI σ1 (k0 + 3) j8 (0 : Int32))) fun σ10 =>
      bd1 (ixo (k0 + 5) a1) fun j12 =>
      if (gI σ10 (k0 + 5) j12) < (0 : Int32) then
        some ((1 : Int32), σ10)
      else
        bd1 (ixo (k0 + 10) ((5 : Int32) + (gI σ10 (k0 + 5) j12))) fun j15 =>
        bd1 (ixo (k0 + 4) a1) fun j17 =>
        if ((gI σ10 (k0 + 10) j15) + (gI σ10 (k0 + 4) j17)) ≤ (9999 : Int32) then
          bd1 (ixo (k0 + 10) ((5 : Int32) + (gI σ10 (k0 + 5) j12))) fun j20 =>
          bd1 (some (pI σ10 (k0 + 10) j20 ((gI σ10 (k0 + 10) j15) + (gI σ10 (k0 + 4) j17)))) fun σ22 =>
          some ((1 : Int32), σ22)
        else
          bd1 (ixo (k0 + 10) ((5 : Int32) + (gI σ10 (k0 + 5) j12))) fun j24 =>
          bd1 (some (pI σ10 (k0 + 10) j24 (9999 : Int32))) fun σ26 =>
          some ((1 : Int32), σ26)
abbrev RM_X10_back : Room := { frames := 2, cells := 0, slots := 0, locals := 43 }
set_option maxHeartbeats 4000000 in
set_option maxRecDepth 100000 in
theorem c_X10_back (l : Launch) (G : Gh) {k0 : Nat} {a1 : Int32} {σ : Mem} {rr : Int32} {σr : Mem} (hk0 : kd k0 = 10) (h : f_X10_back k0 a1 σ = some (rr, σr)) : Met l yX10_back [Cond.code yX10_back prog_12_method_59_code 4 (some .int)] RM_X10_back (va_Pc [.ref (ga G k0), .int a1] (Pre G σ)) (QG G (some (.int rr)) σr) 0 0 (AA G) := by
  refine ct_of (by decide) (fun p e s m below meth c X hP => ?_)
  have hx := X.hx
  have hb := X.hb
  have hS : va_S (AA G) s.heap s.heap [] := va_S.rf
  have hl := lv_entry ([.ref (ga G k0), .int a1]) (n := 4) (Nat.le_of_ble_eq_true rfl)
  rw [lg_entry_eq]
  generalize (lg_sl ([.ref (ga G k0), .int a1]) ++ List.replicate (4 - (lg_sl ([.ref (ga G k0), .int a1])).length) Slot.unset).toArray = ls at hl ⊢
  have hl : lv_has ls 4 [(0, .ref (ga G k0)), (1, .int a1)] := hl
  unfold f_X10_back at h
  refine lv_aload_n (pc := 0) hx hb dX10_back_0 rfl (lv_at hl 0 rfl) ?_
  refine lv_iload_n (pc := 1) hx hb dX10_back_1 rfl (lv_at hl 1 rfl) ?_
  obtain ⟨r3, σ1, e2, h⟩ := bnd2 h
  refine cl_X10_124 X hP hS hk0 (As := [.int a1]) (rest := []) (c_X10_isLot l G hk0 e2) ⟨rfl, rfl, Nat.le_of_ble_eq_true rfl, Nat.le_of_ble_eq_true rfl⟩ rfl hl.1 rfl (Nat.le_of_ble_eq_true rfl) ⟨Nat.zero_le _, Nat.zero_le _⟩ (pc := 2) dX10_back_2 (fun H locs hP hS => ?_)
  change W p l e _ s m _ below meth c H locs _ _ _ (F0 m (2 + 3) ls (.int r3 :: []))
  refine lv_if_ne (pc := 5) (tgt := 10) hx hb dX10_back_5 (by decide) (fun c4 => ?_) (fun c4 => ?_)
  · have h := ineg c4 h
    refine lv_aload_n (pc := 10) hx hb dX10_back_10 rfl (lv_at hl 0 rfl) ?_
    refine gt_X10_16 X hP hk0 dX10_back_11 ?_
    refine lv_iload_n (pc := 14) hx hb dX10_back_14 rfl (lv_at hl 1 rfl) ?_
    obtain ⟨j5, hj6, h⟩ := bnd1 h
    refine r_iald (pc := 15) X hP (kf_10_sold hk0).1 hj6 dX10_back_15 ?_
    refine lv_if_ne (pc := 16) (tgt := 22) hx hb dX10_back_16 (by decide) (fun c7 => ?_) (fun c7 => ?_)
    · have h := ineg c7 h
      refine lv_aload_n (pc := 22) hx hb dX10_back_22 rfl (lv_at hl 0 rfl) ?_
      refine gt_X10_16 X hP hk0 dX10_back_23 ?_
      refine lv_iload_n (pc := 26) hx hb dX10_back_26 rfl (lv_at hl 1 rfl) ?_
      refine lv_iconst (pc := 27) (v := 0) hx hb dX10_back_27 (by decide) ?_
      obtain ⟨j8, hj9, h⟩ := bnd1 h
      obtain ⟨σ10, e11, h⟩ := bnd1 h
      refine r_iast (pc := 28) X hP hS (kf_10_sold hk0).1 hj9 dX10_back_28 (fun H locs hP hS => ?_)
      rw [Option.some.inj e11] at hP
      refine lv_aload_n (pc := 29) hx hb dX10_back_29 rfl (lv_at hl 0 rfl) ?_
      refine gt_X10_22 X hP hk0 dX10_back_30 ?_
      refine lv_iload_n (pc := 33) hx hb dX10_back_33 rfl (lv_at hl 1 rfl) ?_
      obtain ⟨j12, hj13, h⟩ := bnd1 h
      refine r_iald (pc := 34) X hP (kf_10_owners hk0).1 hj13 dX10_back_34 ?_
      refine lv_istore_n (pc := 35) (lv' := [(2, .int (gI σ10 (k0 + 5) j12)), (0, .ref (ga G k0)), (1, .int a1)]) hx hb dX10_back_35 rfl hl (by decide) rfl (fun ls hl => ?_)
      refine lv_iload_n (pc := 36) hx hb dX10_back_36 rfl (lv_at hl 0 rfl) ?_
      refine lv_if_lt (pc := 37) (tgt := 78) hx hb dX10_back_37 (by decide) (fun c14 => ?_) (fun c14 => ?_)
      · have h := ipos c14 h
        refine lv_iconst (pc := 78) (v := 1) hx hb dX10_back_78 (by decide) ?_
        obtain ⟨rfl, rfl⟩ := inj2 h
        exact r_iret X hP hS dX10_back_79
      · have h := ineg c14 h
        refine lv_aload_n (pc := 40) hx hb dX10_back_40 rfl (lv_at hl 1 rfl) ?_
        refine gt_X10_41 X hP hk0 dX10_back_41 ?_
        refine lv_iconst (pc := 44) (v := 5) hx hb dX10_back_44 (by decide) ?_
        refine lv_iload_n (pc := 45) hx hb dX10_back_45 rfl (lv_at hl 0 rfl) ?_
        refine lv_iadd (pc := 46) hx hb dX10_back_46 ?_
        obtain ⟨j15, hj16, h⟩ := bnd1 h
        refine r_iald (pc := 47) X hP (kf_10_row hk0).1 hj16 dX10_back_47 ?_
        refine lv_aload_n (pc := 48) hx hb dX10_back_48 rfl (lv_at hl 1 rfl) ?_
        refine gt_X10_19 X hP hk0 dX10_back_49 ?_
        refine lv_iload_n (pc := 52) hx hb dX10_back_52 rfl (lv_at hl 2 rfl) ?_
        obtain ⟨j17, hj18, h⟩ := bnd1 h
        refine r_iald (pc := 53) X hP (kf_10_prices hk0).1 hj18 dX10_back_53 ?_
        refine lv_iadd (pc := 54) hx hb dX10_back_54 ?_
        refine lv_istore_n (pc := 55) (lv' := [(3, .int ((gI σ10 (k0 + 10) j15) + (gI σ10 (k0 + 4) j17))), (2, .int (gI σ10 (k0 + 5) j12)), (0, .ref (ga G k0)), (1, .int a1)]) hx hb dX10_back_55 rfl hl (by decide) rfl (fun ls hl => ?_)
        refine lv_aload_n (pc := 56) hx hb dX10_back_56 rfl (lv_at hl 2 rfl) ?_
        refine gt_X10_41 X hP hk0 dX10_back_57 ?_
        refine lv_iconst (pc := 60) (v := 5) hx hb dX10_back_60 (by decide) ?_
        refine lv_iload_n (pc := 61) hx hb dX10_back_61 rfl (lv_at hl 1 rfl) ?_
        refine lv_iadd (pc := 62) hx hb dX10_back_62 ?_
        refine lv_iload_n (pc := 63) hx hb dX10_back_63 rfl (lv_at hl 0 rfl) ?_
        refine lv_sipush (pc := 64) (v := (9999)) hx hb dX10_back_64 (by decide) ?_
        refine lv_icmp_le (pc := 67) (tgt := 76) hx hb dX10_back_67 (by decide) (fun c19 => ?_) (fun c19 => ?_)
        · have h := ipos c19 h
          refine lv_iload_n (pc := 76) hx hb dX10_back_76 rfl (lv_at hl 0 rfl) ?_
          obtain ⟨j20, hj21, h⟩ := bnd1 h
          obtain ⟨σ22, e23, h⟩ := bnd1 h
          refine r_iast (pc := 77) X hP hS (kf_10_row hk0).1 hj21 dX10_back_77 (fun H locs hP hS => ?_)
          rw [Option.some.inj e23] at hP
          refine lv_iconst (pc := 78) (v := 1) hx hb dX10_back_78 (by decide) ?_
          obtain ⟨rfl, rfl⟩ := inj2 h
          exact r_iret X hP hS dX10_back_79
        · have h := ineg c19 h
          refine lv_sipush (pc := 70) (v := (9999)) hx hb dX10_back_70 (by decide) ?_
          refine lv_goto (pc := 73) (tgt := 77) hx hb dX10_back_73 (by decide) ?_
          obtain ⟨j24, hj25, h⟩ := bnd1 h
          obtain ⟨σ26, e27, h⟩ := bnd1 h
          refine r_iast (pc := 77) X hP hS (kf_10_row hk0).1 hj25 dX10_back_77 (fun H locs hP hS => ?_)
          rw [Option.some.inj e27] at hP
          refine lv_iconst (pc := 78) (v := 1) hx hb dX10_back_78 (by decide) ?_
          obtain ⟨rfl, rfl⟩ := inj2 h
          exact r_iret X hP hS dX10_back_79
    · have h := ipos c7 h
      refine lv_bipush (pc := 19) (v := (-4)) hx hb dX10_back_19 (by decide) ?_
      obtain ⟨rfl, rfl⟩ := inj2 h
      exact r_iret X hP hS dX10_back_21
  · have h := ipos c4 h
    refine lv_iconst (pc := 8) (v := (-1)) hx hb dX10_back_8 (by decide) ?_
    obtain ⟨rfl, rfl⟩ := inj2 h
    exact r_iret X hP hS dX10_back_9
def F_X10_lends_7 (k0z : Nat) (rec1 : Int32 → Mem → Option Mem) : Int32 → Mem → Option Mem := fun v1 σ =>
  if (11 : Int32) ≤ v1 then
    bd1 (some (pI σ k0z 13 (11 : Int32))) fun σ4 =>
    some σ4
  else
    bd1 (ixo (k0z + 10) v1) fun j6 =>
    bd1 (ixo (k0z + 10) ((11 : Int32) + v1)) fun j8 =>
    bd1 (some (pI σ (k0z + 10) j8 (gI σ (k0z + 10) j6))) fun σ10 =>
    rec1 (v1 + (1 : Int32)) σ10
def f_X10_lends (k0 : Nat) (σ : Mem) : Option Mem :=
  bd1 (some (pI σ k0 13 (0 : Int32))) fun σ1 =>
  iterF (F_X10_lends_7 k0) (fun _ _ => none) FU (0 : Int32) σ1
abbrev RM_X10_lends : Room := { frames := 0, cells := 0, slots := 0, locals := 0 }
set_option maxHeartbeats 4000000 in
set_option maxRecDepth 100000 in
theorem w_X10_lends_7 {l : Launch} {G : Gh} {p : Program} {e : Env} {s : State} {m : MethodId} {args : Array Value} {below : List Frame} {meth : Method} {c : Code} (X : Cx G p s m args meth c prog_12_method_60_code RX10 2 none) {k0z : Nat} (hz0 : kd k0z = 10) {σr : Mem} : ∀ (n : Nat) (v1 : Int32) (σ : Mem) (H : Heap) (locs : List Loc) (ls : Array Slot), PW G σ H → va_S (AA G) s.heap H locs → lv_has ls 2 [(0, .ref (ga G k0z)), (1, .int v1)] → iterF (F_X10_lends_7 k0z) (fun _ _ => none) n v1 σ = some σr → W p l e RM_X10_lends s m args below meth c H locs 0 0 (MQ below (QG G none σr) args s 0 0 (AA G)) (F0 m 7 ls []) := by
  have hx := X.hx
  have hb := X.hb
  intro n
  induction n with
  | zero => intro v1 σ H locs ls hP hS hl h; exact nnone (α := Mem) h
  | succ n ih1 =>
    intro v1 σ H locs ls hP hS hl h
    have h : F_X10_lends_7 k0z (iterF (F_X10_lends_7 k0z) (fun _ _ => none) n) v1 σ = some _ := h
    unfold F_X10_lends_7 at h
    refine lv_iload_n (pc := 7) hx hb dX10_lends_7 rfl (lv_at hl 1 rfl) ?_
    refine lv_bipush (pc := 8) (v := (11)) hx hb dX10_lends_8 (by decide) ?_
    refine lv_icmp_ge (pc := 10) (tgt := 34) hx hb dX10_lends_10 (by decide) (fun c3 => ?_) (fun c3 => ?_)
    · have h := ipos c3 h
      refine lv_aload_n (pc := 34) hx hb dX10_lends_34 rfl (lv_at hl 0 rfl) ?_
      refine lv_bipush (pc := 35) (v := (11)) hx hb dX10_lends_35 (by decide) ?_
      obtain ⟨σ4, e5, h⟩ := bnd1 h
      refine pt_X10_131 X hP hS hz0 dX10_lends_37 (fun H locs hP hS => ?_)
      rw [Option.some.inj e5] at hP
      obtain rfl := Option.some.inj h
      exact r_vret X hP hS dX10_lends_40
    · have h := ineg c3 h
      refine lv_aload_n (pc := 13) hx hb dX10_lends_13 rfl (lv_at hl 0 rfl) ?_
      refine gt_X10_41 X hP hz0 dX10_lends_14 ?_
      refine lv_bipush (pc := 17) (v := (11)) hx hb dX10_lends_17 (by decide) ?_
      refine lv_iload_n (pc := 19) hx hb dX10_lends_19 rfl (lv_at hl 1 rfl) ?_
      refine lv_iadd (pc := 20) hx hb dX10_lends_20 ?_
      refine lv_aload_n (pc := 21) hx hb dX10_lends_21 rfl (lv_at hl 0 rfl) ?_
      refine gt_X10_41 X hP hz0 dX10_lends_22 ?_
      refine lv_iload_n (pc := 25) hx hb dX10_lends_25 rfl (lv_at hl 1 rfl) ?_
      obtain ⟨j6, hj7, h⟩ := bnd1 h
      refine r_iald (pc := 26) X hP (kf_10_row hz0).1 hj7 dX10_lends_26 ?_
      obtain ⟨j8, hj9, h⟩ := bnd1 h
      obtain ⟨σ10, e11, h⟩ := bnd1 h
      refine r_iast (pc := 27) X hP hS (kf_10_row hz0).1 hj9 dX10_lends_27 (fun H locs hP hS => ?_)
      rw [Option.some.inj e11] at hP
      refine lv_iinc (pc := 28) (v := (v1 + (1 : Int32))) (lv' := [(1, .int (v1 + (1 : Int32))), (0, .ref (ga G k0z))]) hx hb dX10_lends_28 hl (k := 1) rfl (congrArg (fun z => v1 + z) (by decide)) (by decide) rfl (fun ls hl => ?_)
      refine lv_goto (pc := 31) (tgt := 7) hx hb dX10_lends_31 (by decide) ?_
      exact ih1 _ _ _ _ _ hP hS (lv_sub hl [1, 0] rfl) h
set_option maxHeartbeats 4000000 in
set_option maxRecDepth 100000 in
theorem c_X10_lends (l : Launch) (G : Gh) {k0 : Nat} {σ : Mem} {σr : Mem} (hk0 : kd k0 = 10) (h : f_X10_lends k0 σ = some σr) : Met l yX10_lends [Cond.code yX10_lends prog_12_method_60_code 2 none] RM_X10_lends (va_Pc [.ref (ga G k0)] (Pre G σ)) (QG G none σr) 0 0 (AA G) := by
  refine ct_of (by decide) (fun p e s m below meth c X hP => ?_)
  have hx := X.hx
  have hb := X.hb
  have hS : va_S (AA G) s.heap s.heap [] := va_S.rf
  have hl := lv_entry ([.ref (ga G k0)]) (n := 2) (Nat.le_of_ble_eq_true rfl)
  rw [lg_entry_eq]
  generalize (lg_sl ([.ref (ga G k0)]) ++ List.replicate (2 - (lg_sl ([.ref (ga G k0)])).length) Slot.unset).toArray = ls at hl ⊢
  have hl : lv_has ls 2 [(0, .ref (ga G k0))] := hl
  unfold f_X10_lends at h
  refine lv_aload_n (pc := 0) hx hb dX10_lends_0 rfl (lv_at hl 0 rfl) ?_
  refine lv_iconst (pc := 1) (v := 0) hx hb dX10_lends_1 (by decide) ?_
  obtain ⟨σ1, e2, h⟩ := bnd1 h
  refine pt_X10_131 X hP hS hk0 dX10_lends_2 (fun H locs hP hS => ?_)
  rw [Option.some.inj e2] at hP
  refine lv_iconst (pc := 5) (v := 0) hx hb dX10_lends_5 (by decide) ?_
  refine lv_istore_n (pc := 6) (lv' := [(1, .int (0 : Int32)), (0, .ref (ga G k0))]) hx hb dX10_lends_6 rfl hl (by decide) rfl (fun ls hl => ?_)
  exact w_X10_lends_7 X  hk0  FU _ _ _ _ _ hP hS (lv_sub hl [1, 0] rfl) h
def F_X10_burnsOut_7 (k0z : Nat) (rec1 : Int32 → Mem → Option (Int32 × Mem)) : Int32 → Mem → Option (Int32 × Mem) := fun v2 σ =>
  bd2 (f_X10_tickGoes k0z σ) fun r5 σ3 =>
  if r5 = (0 : Int32) then
    rec1 (v2 + (1 : Int32)) σ3
  else
    some (v2, σ3)
def f_X10_burnsOut (k0 : Nat) (a1 : Int32) (σ : Mem) : Option (Int32 × Mem) :=
  bd1 (f_X10_lights k0 a1 σ) fun σ1 =>
  iterF (F_X10_burnsOut_7 k0) (fun _ _ => none) FU (1 : Int32) σ1
abbrev RM_X10_burnsOut : Room := { frames := 5, cells := 0, slots := 0, locals := 108 }
set_option maxHeartbeats 4000000 in
set_option maxRecDepth 100000 in
theorem w_X10_burnsOut_7 {l : Launch} {G : Gh} {p : Program} {e : Env} {s : State} {m : MethodId} {args : Array Value} {below : List Frame} {meth : Method} {c : Code} (X : Cx G p s m args meth c prog_12_method_61_code RX10 3 (some .int)) {k0z : Nat} (hz0 : kd k0z = 10) {rr : Int32} {σr : Mem} : ∀ (n : Nat) (v2 : Int32) (σ : Mem) (H : Heap) (locs : List Loc) (ls : Array Slot), PW G σ H → va_S (AA G) s.heap H locs → lv_has ls 3 [(0, .ref (ga G k0z)), (2, .int v2)] → iterF (F_X10_burnsOut_7 k0z) (fun _ _ => none) n v2 σ = some (rr, σr) → W p l e RM_X10_burnsOut s m args below meth c H locs 0 0 (MQ below (QG G (some (.int rr)) σr) args s 0 0 (AA G)) (F0 m 7 ls []) := by
  have hx := X.hx
  have hb := X.hb
  intro n
  induction n with
  | zero => intro v2 σ H locs ls hP hS hl h; exact nnone (α := (Int32 × Mem)) h
  | succ n ih1 =>
    intro v2 σ H locs ls hP hS hl h
    have h : F_X10_burnsOut_7 k0z (iterF (F_X10_burnsOut_7 k0z) (fun _ _ => none) n) v2 σ = some _ := h
    unfold F_X10_burnsOut_7 at h
    refine lv_aload_n (pc := 7) hx hb dX10_burnsOut_7 rfl (lv_at hl 0 rfl) ?_
    obtain ⟨r5, σ3, e4, h⟩ := bnd2 h
    refine cl_X10_313 X hP hS hz0 (As := []) (rest := []) (c_X10_tickGoes l G hz0 e4) ⟨rfl, rfl, Nat.le_of_ble_eq_true rfl, Nat.le_of_ble_eq_true rfl⟩ rfl hl.1 rfl (Nat.le_of_ble_eq_true rfl) ⟨Nat.zero_le _, Nat.zero_le _⟩ (pc := 8) dX10_burnsOut_8 (fun H locs hP hS => ?_)
    change W p l e _ s m _ below meth c H locs _ _ _ (F0 m (8 + 3) ls (.int r5 :: []))
    refine lv_if_ne (pc := 11) (tgt := 20) hx hb dX10_burnsOut_11 (by decide) (fun c6 => ?_) (fun c6 => ?_)
    · have h := ineg c6 h
      refine lv_iload_n (pc := 20) hx hb dX10_burnsOut_20 rfl (lv_at hl 1 rfl) ?_
      obtain ⟨rfl, rfl⟩ := inj2 h
      exact r_iret X hP hS dX10_burnsOut_21
    · have h := ipos c6 h
      refine lv_iinc (pc := 14) (v := (v2 + (1 : Int32))) (lv' := [(2, .int (v2 + (1 : Int32))), (0, .ref (ga G k0z))]) hx hb dX10_burnsOut_14 hl (k := 1) rfl (congrArg (fun z => v2 + z) (by decide)) (by decide) rfl (fun ls hl => ?_)
      refine lv_goto (pc := 17) (tgt := 7) hx hb dX10_burnsOut_17 (by decide) ?_
      exact ih1 _ _ _ _ _ hP hS (lv_sub hl [1, 0] rfl) h
set_option maxHeartbeats 4000000 in
set_option maxRecDepth 100000 in
theorem c_X10_burnsOut (l : Launch) (G : Gh) {k0 : Nat} {a1 : Int32} {σ : Mem} {rr : Int32} {σr : Mem} (hk0 : kd k0 = 10) (h : f_X10_burnsOut k0 a1 σ = some (rr, σr)) : Met l yX10_burnsOut [Cond.code yX10_burnsOut prog_12_method_61_code 3 (some .int)] RM_X10_burnsOut (va_Pc [.ref (ga G k0), .int a1] (Pre G σ)) (QG G (some (.int rr)) σr) 0 0 (AA G) := by
  refine ct_of (by decide) (fun p e s m below meth c X hP => ?_)
  have hx := X.hx
  have hb := X.hb
  have hS : va_S (AA G) s.heap s.heap [] := va_S.rf
  have hl := lv_entry ([.ref (ga G k0), .int a1]) (n := 3) (Nat.le_of_ble_eq_true rfl)
  rw [lg_entry_eq]
  generalize (lg_sl ([.ref (ga G k0), .int a1]) ++ List.replicate (3 - (lg_sl ([.ref (ga G k0), .int a1])).length) Slot.unset).toArray = ls at hl ⊢
  have hl : lv_has ls 3 [(0, .ref (ga G k0)), (1, .int a1)] := hl
  unfold f_X10_burnsOut at h
  refine lv_aload_n (pc := 0) hx hb dX10_burnsOut_0 rfl (lv_at hl 0 rfl) ?_
  refine lv_iload_n (pc := 1) hx hb dX10_burnsOut_1 rfl (lv_at hl 1 rfl) ?_
  obtain ⟨σ1, e2, h⟩ := bnd1 h
  refine cl_X10_304 X hP hS hk0 (As := [.int a1]) (rest := []) (c_X10_lights l G hk0 e2) ⟨rfl, rfl, Nat.le_of_ble_eq_true rfl, Nat.le_of_ble_eq_true rfl⟩ rfl hl.1 rfl (Nat.le_of_ble_eq_true rfl) ⟨Nat.zero_le _, Nat.zero_le _⟩ (pc := 2) dX10_burnsOut_2 (fun H locs hP hS => ?_)
  change W p l e _ s m _ below meth c H locs _ _ _ (F0 m (2 + 3) ls [])
  refine lv_iconst (pc := 5) (v := 1) hx hb dX10_burnsOut_5 (by decide) ?_
  refine lv_istore_n (pc := 6) (lv' := [(2, .int (1 : Int32)), (0, .ref (ga G k0)), (1, .int a1)]) hx hb dX10_burnsOut_6 rfl hl (by decide) rfl (fun ls hl => ?_)
  exact w_X10_burnsOut_7 X  hk0  FU _ _ _ _ _ hP hS (lv_sub hl [1, 0] rfl) h
def f_X10_tries (k0 : Nat) (a1 : Int32) (σ : Mem) : Option Mem :=
  bd1 (some (pI σ k0 35 (0 : Int32))) fun σ1 =>
  bd1 (f_X10_lends k0 σ1) fun σ3 =>
  bd2 (f_X10_burnsOut k0 a1 σ3) fun r7 σ5 =>
  bd1 (some (pI σ5 k0 36 r7)) fun σ8 =>
  bd2 (f_X10_its k0 (4 : Int32) σ8) fun r12 σ10 =>
  bd1 (some (pI σ10 k0 37 r12)) fun σ13 =>
  if (0 : Int32) ≤ (gI σ13 k0 37) then
    bd2 (f_X10_its k0 (3 : Int32) σ13) fun r18 σ16 =>
    bd1 (some (pI σ16 k0 38 r18)) fun σ19 =>
    bd1 (some (pI σ19 k0 13 (0 : Int32))) fun σ21 =>
    some σ21
  else
    bd1 (some (pI σ13 k0 38 (0 : Int32))) fun σ23 =>
    bd1 (some (pI σ23 k0 13 (0 : Int32))) fun σ25 =>
    some σ25
abbrev RM_X10_tries : Room := { frames := 6, cells := 0, slots := 0, locals := 130 }
set_option maxHeartbeats 4000000 in
set_option maxRecDepth 100000 in
theorem c_X10_tries (l : Launch) (G : Gh) {k0 : Nat} {a1 : Int32} {σ : Mem} {σr : Mem} (hk0 : kd k0 = 10) (h : f_X10_tries k0 a1 σ = some σr) : Met l yX10_tries [Cond.code yX10_tries prog_12_method_62_code 2 none] RM_X10_tries (va_Pc [.ref (ga G k0), .int a1] (Pre G σ)) (QG G none σr) 0 0 (AA G) := by
  refine ct_of (by decide) (fun p e s m below meth c X hP => ?_)
  have hx := X.hx
  have hb := X.hb
  have hS : va_S (AA G) s.heap s.heap [] := va_S.rf
  have hl := lv_entry ([.ref (ga G k0), .int a1]) (n := 2) (Nat.le_of_ble_eq_true rfl)
  rw [lg_entry_eq]
  generalize (lg_sl ([.ref (ga G k0), .int a1]) ++ List.replicate (2 - (lg_sl ([.ref (ga G k0), .int a1])).length) Slot.unset).toArray = ls at hl ⊢
  have hl : lv_has ls 2 [(0, .ref (ga G k0)), (1, .int a1)] := hl
  unfold f_X10_tries at h
  refine lv_aload_n (pc := 0) hx hb dX10_tries_0 rfl (lv_at hl 0 rfl) ?_
  refine lv_iconst (pc := 1) (v := 0) hx hb dX10_tries_1 (by decide) ?_
  obtain ⟨σ1, e2, h⟩ := bnd1 h
  refine pt_X10_295 X hP hS hk0 dX10_tries_2 (fun H locs hP hS => ?_)
  rw [Option.some.inj e2] at hP
  refine lv_aload_n (pc := 5) hx hb dX10_tries_5 rfl (lv_at hl 0 rfl) ?_
  obtain ⟨σ3, e4, h⟩ := bnd1 h
  refine cl_X10_320 X hP hS hk0 (As := []) (rest := []) (c_X10_lends l G hk0 e4) ⟨rfl, rfl, Nat.le_of_ble_eq_true rfl, Nat.le_of_ble_eq_true rfl⟩ rfl hl.1 rfl (Nat.le_of_ble_eq_true rfl) ⟨Nat.zero_le _, Nat.zero_le _⟩ (pc := 6) dX10_tries_6 (fun H locs hP hS => ?_)
  change W p l e _ s m _ below meth c H locs _ _ _ (F0 m (6 + 3) ls [])
  refine lv_aload_n (pc := 9) hx hb dX10_tries_9 rfl (lv_at hl 0 rfl) ?_
  refine lv_aload_n (pc := 10) hx hb dX10_tries_10 rfl (lv_at hl 0 rfl) ?_
  refine lv_iload_n (pc := 11) hx hb dX10_tries_11 rfl (lv_at hl 1 rfl) ?_
  obtain ⟨r7, σ5, e6, h⟩ := bnd2 h
  refine cl_X10_323 X hP hS hk0 (As := [.int a1]) (rest := [.ref (ga G k0)]) (c_X10_burnsOut l G hk0 e6) ⟨rfl, rfl, Nat.le_of_ble_eq_true rfl, Nat.le_of_ble_eq_true rfl⟩ rfl hl.1 rfl (Nat.le_of_ble_eq_true rfl) ⟨Nat.zero_le _, Nat.zero_le _⟩ (pc := 12) dX10_tries_12 (fun H locs hP hS => ?_)
  change W p l e _ s m _ below meth c H locs _ _ _ (F0 m (12 + 3) ls (.int r7 :: [.ref (ga G k0)]))
  obtain ⟨σ8, e9, h⟩ := bnd1 h
  refine pt_X10_326 X hP hS hk0 dX10_tries_15 (fun H locs hP hS => ?_)
  rw [Option.some.inj e9] at hP
  refine lv_aload_n (pc := 18) hx hb dX10_tries_18 rfl (lv_at hl 0 rfl) ?_
  refine lv_aload_n (pc := 19) hx hb dX10_tries_19 rfl (lv_at hl 0 rfl) ?_
  refine lv_iconst (pc := 20) (v := 4) hx hb dX10_tries_20 (by decide) ?_
  obtain ⟨r12, σ10, e11, h⟩ := bnd2 h
  refine cl_X10_277 X hP hS hk0 (As := [.int (4 : Int32)]) (rest := [.ref (ga G k0)]) (c_X10_its l G hk0 e11) ⟨rfl, rfl, Nat.le_of_ble_eq_true rfl, Nat.le_of_ble_eq_true rfl⟩ rfl hl.1 rfl (Nat.le_of_ble_eq_true rfl) ⟨Nat.zero_le _, Nat.zero_le _⟩ (pc := 21) dX10_tries_21 (fun H locs hP hS => ?_)
  change W p l e _ s m _ below meth c H locs _ _ _ (F0 m (21 + 3) ls (.int r12 :: [.ref (ga G k0)]))
  obtain ⟨σ13, e14, h⟩ := bnd1 h
  refine pt_X10_329 X hP hS hk0 dX10_tries_24 (fun H locs hP hS => ?_)
  rw [Option.some.inj e14] at hP
  refine lv_aload_n (pc := 27) hx hb dX10_tries_27 rfl (lv_at hl 0 rfl) ?_
  refine lv_aload_n (pc := 28) hx hb dX10_tries_28 rfl (lv_at hl 0 rfl) ?_
  refine gt_X10_329 X hP hk0 dX10_tries_29 ?_
  refine lv_if_ge (pc := 32) (tgt := 39) hx hb dX10_tries_32 (by decide) (fun c15 => ?_) (fun c15 => ?_)
  · have h := ipos c15 h
    refine lv_aload_n (pc := 39) hx hb dX10_tries_39 rfl (lv_at hl 0 rfl) ?_
    refine lv_iconst (pc := 40) (v := 3) hx hb dX10_tries_40 (by decide) ?_
    obtain ⟨r18, σ16, e17, h⟩ := bnd2 h
    refine cl_X10_277 X hP hS hk0 (As := [.int (3 : Int32)]) (rest := [.ref (ga G k0)]) (c_X10_its l G hk0 e17) ⟨rfl, rfl, Nat.le_of_ble_eq_true rfl, Nat.le_of_ble_eq_true rfl⟩ rfl hl.1 rfl (Nat.le_of_ble_eq_true rfl) ⟨Nat.zero_le _, Nat.zero_le _⟩ (pc := 41) dX10_tries_41 (fun H locs hP hS => ?_)
    change W p l e _ s m _ below meth c H locs _ _ _ (F0 m (41 + 3) ls (.int r18 :: [.ref (ga G k0)]))
    obtain ⟨σ19, e20, h⟩ := bnd1 h
    refine pt_X10_332 X hP hS hk0 dX10_tries_44 (fun H locs hP hS => ?_)
    rw [Option.some.inj e20] at hP
    refine lv_aload_n (pc := 47) hx hb dX10_tries_47 rfl (lv_at hl 0 rfl) ?_
    refine lv_iconst (pc := 48) (v := 0) hx hb dX10_tries_48 (by decide) ?_
    obtain ⟨σ21, e22, h⟩ := bnd1 h
    refine pt_X10_131 X hP hS hk0 dX10_tries_49 (fun H locs hP hS => ?_)
    rw [Option.some.inj e22] at hP
    obtain rfl := Option.some.inj h
    exact r_vret X hP hS dX10_tries_52
  · have h := ineg c15 h
    refine lv_iconst (pc := 35) (v := 0) hx hb dX10_tries_35 (by decide) ?_
    refine lv_goto (pc := 36) (tgt := 44) hx hb dX10_tries_36 (by decide) ?_
    obtain ⟨σ23, e24, h⟩ := bnd1 h
    refine pt_X10_332 X hP hS hk0 dX10_tries_44 (fun H locs hP hS => ?_)
    rw [Option.some.inj e24] at hP
    refine lv_aload_n (pc := 47) hx hb dX10_tries_47 rfl (lv_at hl 0 rfl) ?_
    refine lv_iconst (pc := 48) (v := 0) hx hb dX10_tries_48 (by decide) ?_
    obtain ⟨σ25, e26, h⟩ := bnd1 h
    refine pt_X10_131 X hP hS hk0 dX10_tries_49 (fun H locs hP hS => ?_)
    rw [Option.some.inj e26] at hP
    obtain rfl := Option.some.inj h
    exact r_vret X hP hS dX10_tries_52
def f_X10_end (k0 : Nat) (a1 : Int32) (σ : Mem) : Option (Int32 × Mem) :=
  bd2 (f_X10_isFree k0 a1 σ) fun r3 σ1 =>
  if r3 = (0 : Int32) then
    some ((-1 : Int32), σ1)
  else
    bd1 (f_X10_tries k0 a1 σ1) fun σ5 =>
    some ((gI σ5 k0 36), σ5)
abbrev RM_X10_end : Room := { frames := 7, cells := 0, slots := 0, locals := 151 }
set_option maxHeartbeats 4000000 in
set_option maxRecDepth 100000 in
theorem c_X10_end (l : Launch) (G : Gh) {k0 : Nat} {a1 : Int32} {σ : Mem} {rr : Int32} {σr : Mem} (hk0 : kd k0 = 10) (h : f_X10_end k0 a1 σ = some (rr, σr)) : Met l yX10_end [Cond.code yX10_end prog_12_method_63_code 2 (some .int)] RM_X10_end (va_Pc [.ref (ga G k0), .int a1] (Pre G σ)) (QG G (some (.int rr)) σr) 0 0 (AA G) := by
  refine ct_of (by decide) (fun p e s m below meth c X hP => ?_)
  have hx := X.hx
  have hb := X.hb
  have hS : va_S (AA G) s.heap s.heap [] := va_S.rf
  have hl := lv_entry ([.ref (ga G k0), .int a1]) (n := 2) (Nat.le_of_ble_eq_true rfl)
  rw [lg_entry_eq]
  generalize (lg_sl ([.ref (ga G k0), .int a1]) ++ List.replicate (2 - (lg_sl ([.ref (ga G k0), .int a1])).length) Slot.unset).toArray = ls at hl ⊢
  have hl : lv_has ls 2 [(0, .ref (ga G k0)), (1, .int a1)] := hl
  unfold f_X10_end at h
  refine lv_aload_n (pc := 0) hx hb dX10_end_0 rfl (lv_at hl 0 rfl) ?_
  refine lv_iload_n (pc := 1) hx hb dX10_end_1 rfl (lv_at hl 1 rfl) ?_
  obtain ⟨r3, σ1, e2, h⟩ := bnd2 h
  refine cl_X10_335 X hP hS hk0 (As := [.int a1]) (rest := []) (c_X10_isFree l G hk0 e2) ⟨rfl, rfl, Nat.le_of_ble_eq_true rfl, Nat.le_of_ble_eq_true rfl⟩ rfl hl.1 rfl (Nat.le_of_ble_eq_true rfl) ⟨Nat.zero_le _, Nat.zero_le _⟩ (pc := 2) dX10_end_2 (fun H locs hP hS => ?_)
  change W p l e _ s m _ below meth c H locs _ _ _ (F0 m (2 + 3) ls (.int r3 :: []))
  refine lv_if_ne (pc := 5) (tgt := 10) hx hb dX10_end_5 (by decide) (fun c4 => ?_) (fun c4 => ?_)
  · have h := ineg c4 h
    refine lv_aload_n (pc := 10) hx hb dX10_end_10 rfl (lv_at hl 0 rfl) ?_
    refine lv_iload_n (pc := 11) hx hb dX10_end_11 rfl (lv_at hl 1 rfl) ?_
    obtain ⟨σ5, e6, h⟩ := bnd1 h
    refine cl_X10_338 X hP hS hk0 (As := [.int a1]) (rest := []) (c_X10_tries l G hk0 e6) ⟨rfl, rfl, Nat.le_of_ble_eq_true rfl, Nat.le_of_ble_eq_true rfl⟩ rfl hl.1 rfl (Nat.le_of_ble_eq_true rfl) ⟨Nat.zero_le _, Nat.zero_le _⟩ (pc := 12) dX10_end_12 (fun H locs hP hS => ?_)
    change W p l e _ s m _ below meth c H locs _ _ _ (F0 m (12 + 3) ls [])
    refine lv_aload_n (pc := 15) hx hb dX10_end_15 rfl (lv_at hl 0 rfl) ?_
    refine gt_X10_326 X hP hk0 dX10_end_16 ?_
    obtain ⟨rfl, rfl⟩ := inj2 h
    exact r_iret X hP hS dX10_end_19
  · have h := ipos c4 h
    refine lv_iconst (pc := 8) (v := (-1)) hx hb dX10_end_8 (by decide) ?_
    obtain ⟨rfl, rfl⟩ := inj2 h
    exact r_iret X hP hS dX10_end_9
def f_X10_wins (k0 : Nat) (a1 : Int32) (a2 : Int32) (σ : Mem) : Option (Int32 × Mem) :=
  bd2 (f_X10_isFree k0 a1 σ) fun r3 σ1 =>
  if r3 = (0 : Int32) then
    some ((-1 : Int32), σ1)
  else
    bd2 (f_X10_isSide a2 σ1) fun r7 σ5 =>
    if r7 = (0 : Int32) then
      some ((-1 : Int32), σ5)
    else
      bd1 (f_X10_tries k0 a1 σ5) fun σ9 =>
      if a2 = (0 : Int32) then
        bd2 (f_X10_orNot (gI σ9 k0 37) σ9) fun r14 σ12 =>
        some (r14, σ12)
      else
        some ((gI σ9 k0 38), σ9)
abbrev RM_X10_wins : Room := { frames := 7, cells := 0, slots := 0, locals := 151 }
set_option maxHeartbeats 4000000 in
set_option maxRecDepth 100000 in
theorem c_X10_wins (l : Launch) (G : Gh) {k0 : Nat} {a1 : Int32} {a2 : Int32} {σ : Mem} {rr : Int32} {σr : Mem} (hk0 : kd k0 = 10) (h : f_X10_wins k0 a1 a2 σ = some (rr, σr)) : Met l yX10_wins [Cond.code yX10_wins prog_12_method_64_code 3 (some .int)] RM_X10_wins (va_Pc [.ref (ga G k0), .int a1, .int a2] (Pre G σ)) (QG G (some (.int rr)) σr) 0 0 (AA G) := by
  refine ct_of (by decide) (fun p e s m below meth c X hP => ?_)
  have hx := X.hx
  have hb := X.hb
  have hS : va_S (AA G) s.heap s.heap [] := va_S.rf
  have hl := lv_entry ([.ref (ga G k0), .int a1, .int a2]) (n := 3) (Nat.le_of_ble_eq_true rfl)
  rw [lg_entry_eq]
  generalize (lg_sl ([.ref (ga G k0), .int a1, .int a2]) ++ List.replicate (3 - (lg_sl ([.ref (ga G k0), .int a1, .int a2])).length) Slot.unset).toArray = ls at hl ⊢
  have hl : lv_has ls 3 [(0, .ref (ga G k0)), (1, .int a1), (2, .int a2)] := hl
  unfold f_X10_wins at h
  refine lv_aload_n (pc := 0) hx hb dX10_wins_0 rfl (lv_at hl 0 rfl) ?_
  refine lv_iload_n (pc := 1) hx hb dX10_wins_1 rfl (lv_at hl 1 rfl) ?_
  obtain ⟨r3, σ1, e2, h⟩ := bnd2 h
  refine cl_X10_335 X hP hS hk0 (As := [.int a1]) (rest := []) (c_X10_isFree l G hk0 e2) ⟨rfl, rfl, Nat.le_of_ble_eq_true rfl, Nat.le_of_ble_eq_true rfl⟩ rfl hl.1 rfl (Nat.le_of_ble_eq_true rfl) ⟨Nat.zero_le _, Nat.zero_le _⟩ (pc := 2) dX10_wins_2 (fun H locs hP hS => ?_)
  change W p l e _ s m _ below meth c H locs _ _ _ (F0 m (2 + 3) ls (.int r3 :: []))
  refine lv_if_eq (pc := 5) (tgt := 15) hx hb dX10_wins_5 (by decide) (fun c4 => ?_) (fun c4 => ?_)
  · have h := ipos c4 h
    refine lv_iconst (pc := 15) (v := (-1)) hx hb dX10_wins_15 (by decide) ?_
    obtain ⟨rfl, rfl⟩ := inj2 h
    exact r_iret X hP hS dX10_wins_16
  · have h := ineg c4 h
    refine lv_iload_n (pc := 8) hx hb dX10_wins_8 rfl (lv_at hl 2 rfl) ?_
    obtain ⟨r7, σ5, e6, h⟩ := bnd2 h
    refine cl_X10_265 X hP hS (As := [.int a2]) (rest := []) (c_X10_isSide l G  e6) ⟨rfl, rfl, Nat.le_of_ble_eq_true rfl, Nat.le_of_ble_eq_true rfl⟩ rfl hl.1 rfl (Nat.le_of_ble_eq_true rfl) ⟨Nat.zero_le _, Nat.zero_le _⟩ (pc := 9) dX10_wins_9 (fun H locs hP hS => ?_)
    change W p l e _ s m _ below meth c H locs _ _ _ (F0 m (9 + 3) ls (.int r7 :: []))
    refine lv_if_ne (pc := 12) (tgt := 17) hx hb dX10_wins_12 (by decide) (fun c8 => ?_) (fun c8 => ?_)
    · have h := ineg c8 h
      refine lv_aload_n (pc := 17) hx hb dX10_wins_17 rfl (lv_at hl 0 rfl) ?_
      refine lv_iload_n (pc := 18) hx hb dX10_wins_18 rfl (lv_at hl 1 rfl) ?_
      obtain ⟨σ9, e10, h⟩ := bnd1 h
      refine cl_X10_338 X hP hS hk0 (As := [.int a1]) (rest := []) (c_X10_tries l G hk0 e10) ⟨rfl, rfl, Nat.le_of_ble_eq_true rfl, Nat.le_of_ble_eq_true rfl⟩ rfl hl.1 rfl (Nat.le_of_ble_eq_true rfl) ⟨Nat.zero_le _, Nat.zero_le _⟩ (pc := 19) dX10_wins_19 (fun H locs hP hS => ?_)
      change W p l e _ s m _ below meth c H locs _ _ _ (F0 m (19 + 3) ls [])
      refine lv_iload_n (pc := 22) hx hb dX10_wins_22 rfl (lv_at hl 2 rfl) ?_
      refine lv_if_ne (pc := 23) (tgt := 36) hx hb dX10_wins_23 (by decide) (fun c11 => ?_) (fun c11 => ?_)
      · have h := ineg c11 h
        refine lv_aload_n (pc := 36) hx hb dX10_wins_36 rfl (lv_at hl 0 rfl) ?_
        refine gt_X10_332 X hP hk0 dX10_wins_37 ?_
        obtain ⟨rfl, rfl⟩ := inj2 h
        exact r_iret X hP hS dX10_wins_40
      · have h := ipos c11 h
        refine lv_aload_n (pc := 26) hx hb dX10_wins_26 rfl (lv_at hl 0 rfl) ?_
        refine gt_X10_329 X hP hk0 dX10_wins_27 ?_
        obtain ⟨r14, σ12, e13, h⟩ := bnd2 h
        refine cl_X10_307 X hP hS (As := [.int (gI σ9 k0 37)]) (rest := []) (c_X10_orNot l G  e13) ⟨rfl, rfl, Nat.le_of_ble_eq_true rfl, Nat.le_of_ble_eq_true rfl⟩ rfl hl.1 rfl (Nat.le_of_ble_eq_true rfl) ⟨Nat.zero_le _, Nat.zero_le _⟩ (pc := 30) dX10_wins_30 (fun H locs hP hS => ?_)
        change W p l e _ s m _ below meth c H locs _ _ _ (F0 m (30 + 3) ls (.int r14 :: []))
        refine lv_goto (pc := 33) (tgt := 40) hx hb dX10_wins_33 (by decide) ?_
        obtain ⟨rfl, rfl⟩ := inj2 h
        exact r_iret X hP hS dX10_wins_40
    · have h := ipos c8 h
      refine lv_iconst (pc := 15) (v := (-1)) hx hb dX10_wins_15 (by decide) ?_
      obtain ⟨rfl, rfl⟩ := inj2 h
      exact r_iret X hP hS dX10_wins_16
def F_X10_patience_35 (k0z : Nat) (p1 : Int32) (p2 : Int32) (p3 : Int32) (rec1 : Int32 → Int32 → Int32 → Mem → Option (Int32 × Mem)) : Int32 → Int32 → Int32 → Mem → Option (Int32 × Mem) := fun v4 v5 v6 σ =>
  if (10 : Int32) ≤ v6 then
    bd1 (ixo (k0z + 8) p1) fun j12 =>
    bd1 (some (pI σ (k0z + 8) j12 p3)) fun σ14 =>
    some (v4, σ14)
  else
    bd1 (ixo (k0z + 8) p1) fun j16 =>
    bd1 (some (pI σ (k0z + 8) j16 v6)) fun σ18 =>
    bd1 (f_X10_tries k0z p2 σ18) fun σ20 =>
    if (gI σ20 k0z 37) = p1 then
      if v4 < (0 : Int32) then
        rec1 v6 (gI σ20 k0z 38) (v6 + (1 : Int32)) σ20
      else
        if v5 ≤ (gI σ20 k0z 38) then
          rec1 v4 v5 (v6 + (1 : Int32)) σ20
        else
          rec1 v6 (gI σ20 k0z 38) (v6 + (1 : Int32)) σ20
    else
      rec1 v4 v5 (v6 + (1 : Int32)) σ20
def f_X10_patience (k0 : Nat) (a1 : Int32) (a2 : Int32) (σ : Mem) : Option (Int32 × Mem) :=
  bd2 (f_X10_isBidder k0 a1 σ) fun r3 σ1 =>
  if r3 = (0 : Int32) then
    some ((-1 : Int32), σ1)
  else
    bd2 (f_X10_isFree k0 a2 σ1) fun r7 σ5 =>
    if r7 = (0 : Int32) then
      some ((-1 : Int32), σ5)
    else
      bd1 (ixo (k0 + 8) a1) fun j9 =>
      iterF (F_X10_patience_35 k0 a1 a2 (gI σ5 (k0 + 8) j9)) (fun _ _ _ _ => none) FU (-3 : Int32) (0 : Int32) (0 : Int32) σ5
abbrev RM_X10_patience : Room := { frames := 7, cells := 0, slots := 0, locals := 151 }
set_option maxHeartbeats 4000000 in
set_option maxRecDepth 100000 in
theorem w_X10_patience_35 {l : Launch} {G : Gh} {p : Program} {e : Env} {s : State} {m : MethodId} {args : Array Value} {below : List Frame} {meth : Method} {c : Code} (X : Cx G p s m args meth c prog_12_method_65_code RX10 7 (some .int)) {k0z : Nat} {p1 : Int32} {p2 : Int32} {p3 : Int32} (hz0 : kd k0z = 10) {rr : Int32} {σr : Mem} : ∀ (n : Nat) (v4 : Int32) (v5 : Int32) (v6 : Int32) (σ : Mem) (H : Heap) (locs : List Loc) (ls : Array Slot), PW G σ H → va_S (AA G) s.heap H locs → lv_has ls 7 [(0, .ref (ga G k0z)), (1, .int p1), (2, .int p2), (3, .int p3), (4, .int v4), (5, .int v5), (6, .int v6)] → iterF (F_X10_patience_35 k0z p1 p2 p3) (fun _ _ _ _ => none) n v4 v5 v6 σ = some (rr, σr) → W p l e RM_X10_patience s m args below meth c H locs 0 0 (MQ below (QG G (some (.int rr)) σr) args s 0 0 (AA G)) (F0 m 35 ls []) := by
  have hx := X.hx
  have hb := X.hb
  intro n
  induction n with
  | zero => intro v4 v5 v6 σ H locs ls hP hS hl h; exact nnone (α := (Int32 × Mem)) h
  | succ n ih1 =>
    intro v4 v5 v6 σ H locs ls hP hS hl h
    have h : F_X10_patience_35 k0z p1 p2 p3 (iterF (F_X10_patience_35 k0z p1 p2 p3) (fun _ _ _ _ => none) n) v4 v5 v6 σ = some _ := h
    unfold F_X10_patience_35 at h
    refine lv_iload (pc := 35) hx hb dX10_patience_35 (lv_at hl 6 rfl) ?_
    refine lv_bipush (pc := 37) (v := (10)) hx hb dX10_patience_37 (by decide) ?_
    refine lv_icmp_ge (pc := 39) (tgt := 93) hx hb dX10_patience_39 (by decide) (fun c11 => ?_) (fun c11 => ?_)
    · have h := ipos c11 h
      refine lv_aload_n (pc := 93) hx hb dX10_patience_93 rfl (lv_at hl 0 rfl) ?_
      refine gt_X10_35 X hP hz0 dX10_patience_94 ?_
      refine lv_iload_n (pc := 97) hx hb dX10_patience_97 rfl (lv_at hl 1 rfl) ?_
      refine lv_iload_n (pc := 98) hx hb dX10_patience_98 rfl (lv_at hl 3 rfl) ?_
      obtain ⟨j12, hj13, h⟩ := bnd1 h
      obtain ⟨σ14, e15, h⟩ := bnd1 h
      refine r_iast (pc := 99) X hP hS (kf_10_own hz0).1 hj13 dX10_patience_99 (fun H locs hP hS => ?_)
      rw [Option.some.inj e15] at hP
      refine lv_iload (pc := 100) hx hb dX10_patience_100 (lv_at hl 4 rfl) ?_
      obtain ⟨rfl, rfl⟩ := inj2 h
      exact r_iret X hP hS dX10_patience_102
    · have h := ineg c11 h
      refine lv_aload_n (pc := 42) hx hb dX10_patience_42 rfl (lv_at hl 0 rfl) ?_
      refine gt_X10_35 X hP hz0 dX10_patience_43 ?_
      refine lv_iload_n (pc := 46) hx hb dX10_patience_46 rfl (lv_at hl 1 rfl) ?_
      refine lv_iload (pc := 47) hx hb dX10_patience_47 (lv_at hl 6 rfl) ?_
      obtain ⟨j16, hj17, h⟩ := bnd1 h
      obtain ⟨σ18, e19, h⟩ := bnd1 h
      refine r_iast (pc := 49) X hP hS (kf_10_own hz0).1 hj17 dX10_patience_49 (fun H locs hP hS => ?_)
      rw [Option.some.inj e19] at hP
      refine lv_aload_n (pc := 50) hx hb dX10_patience_50 rfl (lv_at hl 0 rfl) ?_
      refine lv_iload_n (pc := 51) hx hb dX10_patience_51 rfl (lv_at hl 2 rfl) ?_
      obtain ⟨σ20, e21, h⟩ := bnd1 h
      refine cl_X10_338 X hP hS hz0 (As := [.int p2]) (rest := []) (c_X10_tries l G hz0 e21) ⟨rfl, rfl, Nat.le_of_ble_eq_true rfl, Nat.le_of_ble_eq_true rfl⟩ rfl hl.1 rfl (Nat.le_of_ble_eq_true rfl) ⟨Nat.zero_le _, Nat.zero_le _⟩ (pc := 52) dX10_patience_52 (fun H locs hP hS => ?_)
      change W p l e _ s m _ below meth c H locs _ _ _ (F0 m (52 + 3) ls [])
      refine lv_aload_n (pc := 55) hx hb dX10_patience_55 rfl (lv_at hl 0 rfl) ?_
      refine gt_X10_329 X hP hz0 dX10_patience_56 ?_
      refine lv_iload_n (pc := 59) hx hb dX10_patience_59 rfl (lv_at hl 1 rfl) ?_
      refine lv_icmp_ne (pc := 60) (tgt := 87) hx hb dX10_patience_60 (by decide) (fun c22 => ?_) (fun c22 => ?_)
      · have h := ineg c22 h
        refine lv_iinc (pc := 87) (v := (v6 + (1 : Int32))) (lv' := [(6, .int (v6 + (1 : Int32))), (0, .ref (ga G k0z)), (1, .int p1), (2, .int p2), (3, .int p3), (4, .int v4), (5, .int v5)]) hx hb dX10_patience_87 hl (k := 6) rfl (congrArg (fun z => v6 + z) (by decide)) (by decide) rfl (fun ls hl => ?_)
        refine lv_goto (pc := 90) (tgt := 35) hx hb dX10_patience_90 (by decide) ?_
        exact ih1 _ _ _ _ _ _ _ hP hS (lv_sub hl [1, 2, 3, 4, 5, 6, 0] rfl) h
      · have h := ipos c22 h
        refine lv_iload (pc := 63) hx hb dX10_patience_63 (lv_at hl 4 rfl) ?_
        refine lv_if_lt (pc := 65) (tgt := 77) hx hb dX10_patience_65 (by decide) (fun c23 => ?_) (fun c23 => ?_)
        · have h := ipos c23 h
          refine lv_iload (pc := 77) hx hb dX10_patience_77 (lv_at hl 6 rfl) ?_
          refine lv_istore (pc := 79) (lv' := [(4, .int v6), (0, .ref (ga G k0z)), (1, .int p1), (2, .int p2), (3, .int p3), (5, .int v5), (6, .int v6)]) hx hb dX10_patience_79 hl (by decide) rfl (fun ls hl => ?_)
          refine lv_aload_n (pc := 81) hx hb dX10_patience_81 rfl (lv_at hl 1 rfl) ?_
          refine gt_X10_332 X hP hz0 dX10_patience_82 ?_
          refine lv_istore (pc := 85) (lv' := [(5, .int (gI σ20 k0z 38)), (4, .int v6), (0, .ref (ga G k0z)), (1, .int p1), (2, .int p2), (3, .int p3), (6, .int v6)]) hx hb dX10_patience_85 hl (by decide) rfl (fun ls hl => ?_)
          refine lv_iinc (pc := 87) (v := (v6 + (1 : Int32))) (lv' := [(6, .int (v6 + (1 : Int32))), (5, .int (gI σ20 k0z 38)), (4, .int v6), (0, .ref (ga G k0z)), (1, .int p1), (2, .int p2), (3, .int p3)]) hx hb dX10_patience_87 hl (k := 6) rfl (congrArg (fun z => v6 + z) (by decide)) (by decide) rfl (fun ls hl => ?_)
          refine lv_goto (pc := 90) (tgt := 35) hx hb dX10_patience_90 (by decide) ?_
          exact ih1 _ _ _ _ _ _ _ hP hS (lv_sub hl [3, 4, 5, 6, 2, 1, 0] rfl) h
        · have h := ineg c23 h
          refine lv_aload_n (pc := 68) hx hb dX10_patience_68 rfl (lv_at hl 0 rfl) ?_
          refine gt_X10_332 X hP hz0 dX10_patience_69 ?_
          refine lv_iload (pc := 72) hx hb dX10_patience_72 (lv_at hl 5 rfl) ?_
          refine lv_icmp_ge (pc := 74) (tgt := 87) hx hb dX10_patience_74 (by decide) (fun c24 => ?_) (fun c24 => ?_)
          · have h := ipos c24 h
            refine lv_iinc (pc := 87) (v := (v6 + (1 : Int32))) (lv' := [(6, .int (v6 + (1 : Int32))), (0, .ref (ga G k0z)), (1, .int p1), (2, .int p2), (3, .int p3), (4, .int v4), (5, .int v5)]) hx hb dX10_patience_87 hl (k := 6) rfl (congrArg (fun z => v6 + z) (by decide)) (by decide) rfl (fun ls hl => ?_)
            refine lv_goto (pc := 90) (tgt := 35) hx hb dX10_patience_90 (by decide) ?_
            exact ih1 _ _ _ _ _ _ _ hP hS (lv_sub hl [1, 2, 3, 4, 5, 6, 0] rfl) h
          · have h := ineg c24 h
            refine lv_iload (pc := 77) hx hb dX10_patience_77 (lv_at hl 6 rfl) ?_
            refine lv_istore (pc := 79) (lv' := [(4, .int v6), (0, .ref (ga G k0z)), (1, .int p1), (2, .int p2), (3, .int p3), (5, .int v5), (6, .int v6)]) hx hb dX10_patience_79 hl (by decide) rfl (fun ls hl => ?_)
            refine lv_aload_n (pc := 81) hx hb dX10_patience_81 rfl (lv_at hl 1 rfl) ?_
            refine gt_X10_332 X hP hz0 dX10_patience_82 ?_
            refine lv_istore (pc := 85) (lv' := [(5, .int (gI σ20 k0z 38)), (4, .int v6), (0, .ref (ga G k0z)), (1, .int p1), (2, .int p2), (3, .int p3), (6, .int v6)]) hx hb dX10_patience_85 hl (by decide) rfl (fun ls hl => ?_)
            refine lv_iinc (pc := 87) (v := (v6 + (1 : Int32))) (lv' := [(6, .int (v6 + (1 : Int32))), (5, .int (gI σ20 k0z 38)), (4, .int v6), (0, .ref (ga G k0z)), (1, .int p1), (2, .int p2), (3, .int p3)]) hx hb dX10_patience_87 hl (k := 6) rfl (congrArg (fun z => v6 + z) (by decide)) (by decide) rfl (fun ls hl => ?_)
            refine lv_goto (pc := 90) (tgt := 35) hx hb dX10_patience_90 (by decide) ?_
            exact ih1 _ _ _ _ _ _ _ hP hS (lv_sub hl [3, 4, 5, 6, 2, 1, 0] rfl) h
set_option maxHeartbeats 4000000 in
set_option maxRecDepth 100000 in
theorem c_X10_patience (l : Launch) (G : Gh) {k0 : Nat} {a1 : Int32} {a2 : Int32} {σ : Mem} {rr : Int32} {σr : Mem} (hk0 : kd k0 = 10) (h : f_X10_patience k0 a1 a2 σ = some (rr, σr)) : Met l yX10_patience [Cond.code yX10_patience prog_12_method_65_code 7 (some .int)] RM_X10_patience (va_Pc [.ref (ga G k0), .int a1, .int a2] (Pre G σ)) (QG G (some (.int rr)) σr) 0 0 (AA G) := by
  refine ct_of (by decide) (fun p e s m below meth c X hP => ?_)
  have hx := X.hx
  have hb := X.hb
  have hS : va_S (AA G) s.heap s.heap [] := va_S.rf
  have hl := lv_entry ([.ref (ga G k0), .int a1, .int a2]) (n := 7) (Nat.le_of_ble_eq_true rfl)
  rw [lg_entry_eq]
  generalize (lg_sl ([.ref (ga G k0), .int a1, .int a2]) ++ List.replicate (7 - (lg_sl ([.ref (ga G k0), .int a1, .int a2])).length) Slot.unset).toArray = ls at hl ⊢
  have hl : lv_has ls 7 [(0, .ref (ga G k0)), (1, .int a1), (2, .int a2)] := hl
  unfold f_X10_patience at h
  refine lv_aload_n (pc := 0) hx hb dX10_patience_0 rfl (lv_at hl 0 rfl) ?_
  refine lv_iload_n (pc := 1) hx hb dX10_patience_1 rfl (lv_at hl 1 rfl) ?_
  obtain ⟨r3, σ1, e2, h⟩ := bnd2 h
  refine cl_X10_271 X hP hS hk0 (As := [.int a1]) (rest := []) (c_X10_isBidder l G hk0 e2) ⟨rfl, rfl, Nat.le_of_ble_eq_true rfl, Nat.le_of_ble_eq_true rfl⟩ rfl hl.1 rfl (Nat.le_of_ble_eq_true rfl) ⟨Nat.zero_le _, Nat.zero_le _⟩ (pc := 2) dX10_patience_2 (fun H locs hP hS => ?_)
  change W p l e _ s m _ below meth c H locs _ _ _ (F0 m (2 + 3) ls (.int r3 :: []))
  refine lv_if_eq (pc := 5) (tgt := 16) hx hb dX10_patience_5 (by decide) (fun c4 => ?_) (fun c4 => ?_)
  · have h := ipos c4 h
    refine lv_iconst (pc := 16) (v := (-1)) hx hb dX10_patience_16 (by decide) ?_
    obtain ⟨rfl, rfl⟩ := inj2 h
    exact r_iret X hP hS dX10_patience_17
  · have h := ineg c4 h
    refine lv_aload_n (pc := 8) hx hb dX10_patience_8 rfl (lv_at hl 0 rfl) ?_
    refine lv_iload_n (pc := 9) hx hb dX10_patience_9 rfl (lv_at hl 2 rfl) ?_
    obtain ⟨r7, σ5, e6, h⟩ := bnd2 h
    refine cl_X10_335 X hP hS hk0 (As := [.int a2]) (rest := []) (c_X10_isFree l G hk0 e6) ⟨rfl, rfl, Nat.le_of_ble_eq_true rfl, Nat.le_of_ble_eq_true rfl⟩ rfl hl.1 rfl (Nat.le_of_ble_eq_true rfl) ⟨Nat.zero_le _, Nat.zero_le _⟩ (pc := 10) dX10_patience_10 (fun H locs hP hS => ?_)
    change W p l e _ s m _ below meth c H locs _ _ _ (F0 m (10 + 3) ls (.int r7 :: []))
    refine lv_if_ne (pc := 13) (tgt := 18) hx hb dX10_patience_13 (by decide) (fun c8 => ?_) (fun c8 => ?_)
    · have h := ineg c8 h
      refine lv_aload_n (pc := 18) hx hb dX10_patience_18 rfl (lv_at hl 0 rfl) ?_
      refine gt_X10_35 X hP hk0 dX10_patience_19 ?_
      refine lv_iload_n (pc := 22) hx hb dX10_patience_22 rfl (lv_at hl 1 rfl) ?_
      obtain ⟨j9, hj10, h⟩ := bnd1 h
      refine r_iald (pc := 23) X hP (kf_10_own hk0).1 hj10 dX10_patience_23 ?_
      refine lv_istore_n (pc := 24) (lv' := [(3, .int (gI σ5 (k0 + 8) j9)), (0, .ref (ga G k0)), (1, .int a1), (2, .int a2)]) hx hb dX10_patience_24 rfl hl (by decide) rfl (fun ls hl => ?_)
      refine lv_bipush (pc := 25) (v := (-3)) hx hb dX10_patience_25 (by decide) ?_
      refine lv_istore (pc := 27) (lv' := [(4, .int (-3 : Int32)), (3, .int (gI σ5 (k0 + 8) j9)), (0, .ref (ga G k0)), (1, .int a1), (2, .int a2)]) hx hb dX10_patience_27 hl (by decide) rfl (fun ls hl => ?_)
      refine lv_iconst (pc := 29) (v := 0) hx hb dX10_patience_29 (by decide) ?_
      refine lv_istore (pc := 30) (lv' := [(5, .int (0 : Int32)), (4, .int (-3 : Int32)), (3, .int (gI σ5 (k0 + 8) j9)), (0, .ref (ga G k0)), (1, .int a1), (2, .int a2)]) hx hb dX10_patience_30 hl (by decide) rfl (fun ls hl => ?_)
      refine lv_iconst (pc := 32) (v := 0) hx hb dX10_patience_32 (by decide) ?_
      refine lv_istore (pc := 33) (lv' := [(6, .int (0 : Int32)), (5, .int (0 : Int32)), (4, .int (-3 : Int32)), (3, .int (gI σ5 (k0 + 8) j9)), (0, .ref (ga G k0)), (1, .int a1), (2, .int a2)]) hx hb dX10_patience_33 hl (by decide) rfl (fun ls hl => ?_)
      exact w_X10_patience_35 X  hk0  FU _ _ _ _ _ _ _ hP hS (lv_sub hl [4, 5, 6, 3, 2, 1, 0] rfl) h
    · have h := ipos c8 h
      refine lv_iconst (pc := 16) (v := (-1)) hx hb dX10_patience_16 (by decide) ?_
      obtain ⟨rfl, rfl⟩ := inj2 h
      exact r_iret X hP hS dX10_patience_17
def F_X10_gust_46 (k0z : Nat) (p1 : Int32) (p2 : Int32) (p5 : Int32) (p6 : Int32) (rec1 : Int32 → Int32 → Int32 → Mem → Option (Int32 × Mem)) (rec2 : Int32 → Int32 → Int32 → Mem → Option (Int32 × Mem)) : Int32 → Int32 → Int32 → Mem → Option (Int32 × Mem) := fun v3 v4 v7 σ =>
  if (4 : Int32) ≤ v7 then
    bd1 (ixo (k0z + 6) p5) fun j13 =>
    bd1 (some (pI σ (k0z + 6) j13 p6)) fun σ15 =>
    rec1 v3 v4 (p5 + (1 : Int32)) σ15
  else
    bd1 (ixo (k0z + 6) p5) fun j17 =>
    bd1 (some (pI σ (k0z + 6) j17 v7)) fun σ19 =>
    bd1 (f_X10_tries k0z p2 σ19) fun σ21 =>
    if (gI σ21 k0z 37) = p1 then
      if v3 < (0 : Int32) then
        rec2 (((10 : Int32) * p5) + v7) (gI σ21 k0z 38) (v7 + (1 : Int32)) σ21
      else
        if v4 ≤ (gI σ21 k0z 38) then
          rec2 v3 v4 (v7 + (1 : Int32)) σ21
        else
          rec2 (((10 : Int32) * p5) + v7) (gI σ21 k0z 38) (v7 + (1 : Int32)) σ21
    else
      rec2 v3 v4 (v7 + (1 : Int32)) σ21
def F_X10_gust_27 (k0z : Nat) (p1 : Int32) (p2 : Int32) (rec1 : Int32 → Int32 → Int32 → Mem → Option (Int32 × Mem)) : Int32 → Int32 → Int32 → Mem → Option (Int32 × Mem) := fun v3 v4 v5 σ =>
  if (12 : Int32) ≤ v5 then
    some (v3, σ)
  else
    bd1 (ixo (k0z + 6) v5) fun j10 =>
    iterF (F_X10_gust_46 k0z p1 p2 v5 (gI σ (k0z + 6) j10) rec1) (fun _ _ _ _ => none) FU v3 v4 (0 : Int32) σ
def f_X10_gust (k0 : Nat) (a1 : Int32) (a2 : Int32) (σ : Mem) : Option (Int32 × Mem) :=
  bd2 (f_X10_isBidder k0 a1 σ) fun r3 σ1 =>
  if r3 = (0 : Int32) then
    some ((-1 : Int32), σ1)
  else
    bd2 (f_X10_isFree k0 a2 σ1) fun r7 σ5 =>
    if r7 = (0 : Int32) then
      some ((-1 : Int32), σ5)
    else
      iterF (F_X10_gust_27 k0 a1 a2) (fun _ _ _ _ => none) FU (-3 : Int32) (0 : Int32) (0 : Int32) σ5
abbrev RM_X10_gust : Room := { frames := 7, cells := 0, slots := 0, locals := 151 }
set_option maxHeartbeats 4000000 in
set_option maxRecDepth 100000 in
theorem w_X10_gust_46 {l : Launch} {G : Gh} {p : Program} {e : Env} {s : State} {m : MethodId} {args : Array Value} {below : List Frame} {meth : Method} {c : Code} (X : Cx G p s m args meth c prog_12_method_66_code RX10 8 (some .int)) {k0z : Nat} {p1 : Int32} {p2 : Int32} {p5 : Int32} {p6 : Int32} (hz0 : kd k0z = 10) {rr : Int32} {σr : Mem} {rec1 : Int32 → Int32 → Int32 → Mem → Option (Int32 × Mem)} (ih1 : ∀ (v3 : Int32) (v4 : Int32) (v5 : Int32) (σ : Mem) (H : Heap) (locs : List Loc) (ls : Array Slot), PW G σ H → va_S (AA G) s.heap H locs → lv_has ls 8 [(0, .ref (ga G k0z)), (1, .int p1), (2, .int p2), (3, .int v3), (4, .int v4), (5, .int v5)] → rec1 v3 v4 v5 σ = some (rr, σr) → W p l e RM_X10_gust s m args below meth c H locs 0 0 (MQ below (QG G (some (.int rr)) σr) args s 0 0 (AA G)) (F0 m 27 ls [])) : ∀ (n : Nat) (v3 : Int32) (v4 : Int32) (v7 : Int32) (σ : Mem) (H : Heap) (locs : List Loc) (ls : Array Slot), PW G σ H → va_S (AA G) s.heap H locs → lv_has ls 8 [(0, .ref (ga G k0z)), (1, .int p1), (2, .int p2), (3, .int v3), (4, .int v4), (5, .int p5), (6, .int p6), (7, .int v7)] → iterF (F_X10_gust_46 k0z p1 p2 p5 p6 rec1) (fun _ _ _ _ => none) n v3 v4 v7 σ = some (rr, σr) → W p l e RM_X10_gust s m args below meth c H locs 0 0 (MQ below (QG G (some (.int rr)) σr) args s 0 0 (AA G)) (F0 m 46 ls []) := by
  have hx := X.hx
  have hb := X.hb
  intro n
  induction n with
  | zero => intro v3 v4 v7 σ H locs ls hP hS hl h; exact nnone (α := (Int32 × Mem)) h
  | succ n ih2 =>
    intro v3 v4 v7 σ H locs ls hP hS hl h
    have h : F_X10_gust_46 k0z p1 p2 p5 p6 rec1 (iterF (F_X10_gust_46 k0z p1 p2 p5 p6 rec1) (fun _ _ _ _ => none) n) v3 v4 v7 σ = some _ := h
    unfold F_X10_gust_46 at h
    refine lv_iload (pc := 46) hx hb dX10_gust_46 (lv_at hl 7 rfl) ?_
    refine lv_iconst (pc := 48) (v := 4) hx hb dX10_gust_48 (by decide) ?_
    refine lv_icmp_ge (pc := 49) (tgt := 108) hx hb dX10_gust_49 (by decide) (fun c12 => ?_) (fun c12 => ?_)
    · have h := ipos c12 h
      refine lv_aload_n (pc := 108) hx hb dX10_gust_108 rfl (lv_at hl 0 rfl) ?_
      refine gt_X10_25 X hP hz0 dX10_gust_109 ?_
      refine lv_iload (pc := 112) hx hb dX10_gust_112 (lv_at hl 5 rfl) ?_
      refine lv_iload (pc := 114) hx hb dX10_gust_114 (lv_at hl 6 rfl) ?_
      obtain ⟨j13, hj14, h⟩ := bnd1 h
      obtain ⟨σ15, e16, h⟩ := bnd1 h
      refine r_iast (pc := 116) X hP hS (kf_10_draughts hz0).1 hj14 dX10_gust_116 (fun H locs hP hS => ?_)
      rw [Option.some.inj e16] at hP
      refine lv_iinc (pc := 117) (v := (p5 + (1 : Int32))) (lv' := [(5, .int (p5 + (1 : Int32))), (0, .ref (ga G k0z)), (1, .int p1), (2, .int p2), (3, .int v3), (4, .int v4), (6, .int p6), (7, .int v7)]) hx hb dX10_gust_117 hl (k := 5) rfl (congrArg (fun z => p5 + z) (by decide)) (by decide) rfl (fun ls hl => ?_)
      refine lv_goto (pc := 120) (tgt := 27) hx hb dX10_gust_120 (by decide) ?_
      exact ih1 _ _ _ _ _ _ _ hP hS (lv_sub hl [1, 2, 3, 4, 5, 0] rfl) h
    · have h := ineg c12 h
      refine lv_aload_n (pc := 52) hx hb dX10_gust_52 rfl (lv_at hl 0 rfl) ?_
      refine gt_X10_25 X hP hz0 dX10_gust_53 ?_
      refine lv_iload (pc := 56) hx hb dX10_gust_56 (lv_at hl 5 rfl) ?_
      refine lv_iload (pc := 58) hx hb dX10_gust_58 (lv_at hl 7 rfl) ?_
      obtain ⟨j17, hj18, h⟩ := bnd1 h
      obtain ⟨σ19, e20, h⟩ := bnd1 h
      refine r_iast (pc := 60) X hP hS (kf_10_draughts hz0).1 hj18 dX10_gust_60 (fun H locs hP hS => ?_)
      rw [Option.some.inj e20] at hP
      refine lv_aload_n (pc := 61) hx hb dX10_gust_61 rfl (lv_at hl 0 rfl) ?_
      refine lv_iload_n (pc := 62) hx hb dX10_gust_62 rfl (lv_at hl 2 rfl) ?_
      obtain ⟨σ21, e22, h⟩ := bnd1 h
      refine cl_X10_338 X hP hS hz0 (As := [.int p2]) (rest := []) (c_X10_tries l G hz0 e22) ⟨rfl, rfl, Nat.le_of_ble_eq_true rfl, Nat.le_of_ble_eq_true rfl⟩ rfl hl.1 rfl (Nat.le_of_ble_eq_true rfl) ⟨Nat.zero_le _, Nat.zero_le _⟩ (pc := 63) dX10_gust_63 (fun H locs hP hS => ?_)
      change W p l e _ s m _ below meth c H locs _ _ _ (F0 m (63 + 3) ls [])
      refine lv_aload_n (pc := 66) hx hb dX10_gust_66 rfl (lv_at hl 0 rfl) ?_
      refine gt_X10_329 X hP hz0 dX10_gust_67 ?_
      refine lv_iload_n (pc := 70) hx hb dX10_gust_70 rfl (lv_at hl 1 rfl) ?_
      refine lv_icmp_ne (pc := 71) (tgt := 102) hx hb dX10_gust_71 (by decide) (fun c23 => ?_) (fun c23 => ?_)
      · have h := ineg c23 h
        refine lv_iinc (pc := 102) (v := (v7 + (1 : Int32))) (lv' := [(7, .int (v7 + (1 : Int32))), (0, .ref (ga G k0z)), (1, .int p1), (2, .int p2), (3, .int v3), (4, .int v4), (5, .int p5), (6, .int p6)]) hx hb dX10_gust_102 hl (k := 7) rfl (congrArg (fun z => v7 + z) (by decide)) (by decide) rfl (fun ls hl => ?_)
        refine lv_goto (pc := 105) (tgt := 46) hx hb dX10_gust_105 (by decide) ?_
        exact ih2 _ _ _ _ _ _ _ hP hS (lv_sub hl [1, 2, 3, 4, 5, 6, 7, 0] rfl) h
      · have h := ipos c23 h
        refine lv_iload_n (pc := 74) hx hb dX10_gust_74 rfl (lv_at hl 3 rfl) ?_
        refine lv_if_lt (pc := 75) (tgt := 87) hx hb dX10_gust_75 (by decide) (fun c24 => ?_) (fun c24 => ?_)
        · have h := ipos c24 h
          refine lv_bipush (pc := 87) (v := (10)) hx hb dX10_gust_87 (by decide) ?_
          refine lv_iload (pc := 89) hx hb dX10_gust_89 (lv_at hl 5 rfl) ?_
          refine lv_imul (pc := 91) hx hb dX10_gust_91 ?_
          refine lv_iload (pc := 92) hx hb dX10_gust_92 (lv_at hl 7 rfl) ?_
          refine lv_iadd (pc := 94) hx hb dX10_gust_94 ?_
          refine lv_istore_n (pc := 95) (lv' := [(3, .int (((10 : Int32) * p5) + v7)), (0, .ref (ga G k0z)), (1, .int p1), (2, .int p2), (4, .int v4), (5, .int p5), (6, .int p6), (7, .int v7)]) hx hb dX10_gust_95 rfl hl (by decide) rfl (fun ls hl => ?_)
          refine lv_aload_n (pc := 96) hx hb dX10_gust_96 rfl (lv_at hl 1 rfl) ?_
          refine gt_X10_332 X hP hz0 dX10_gust_97 ?_
          refine lv_istore (pc := 100) (lv' := [(4, .int (gI σ21 k0z 38)), (3, .int (((10 : Int32) * p5) + v7)), (0, .ref (ga G k0z)), (1, .int p1), (2, .int p2), (5, .int p5), (6, .int p6), (7, .int v7)]) hx hb dX10_gust_100 hl (by decide) rfl (fun ls hl => ?_)
          refine lv_iinc (pc := 102) (v := (v7 + (1 : Int32))) (lv' := [(7, .int (v7 + (1 : Int32))), (4, .int (gI σ21 k0z 38)), (3, .int (((10 : Int32) * p5) + v7)), (0, .ref (ga G k0z)), (1, .int p1), (2, .int p2), (5, .int p5), (6, .int p6)]) hx hb dX10_gust_102 hl (k := 7) rfl (congrArg (fun z => v7 + z) (by decide)) (by decide) rfl (fun ls hl => ?_)
          refine lv_goto (pc := 105) (tgt := 46) hx hb dX10_gust_105 (by decide) ?_
          exact ih2 _ _ _ _ _ _ _ hP hS (lv_sub hl [3, 4, 5, 2, 1, 6, 7, 0] rfl) h
        · have h := ineg c24 h
          refine lv_aload_n (pc := 78) hx hb dX10_gust_78 rfl (lv_at hl 0 rfl) ?_
          refine gt_X10_332 X hP hz0 dX10_gust_79 ?_
          refine lv_iload (pc := 82) hx hb dX10_gust_82 (lv_at hl 4 rfl) ?_
          refine lv_icmp_ge (pc := 84) (tgt := 102) hx hb dX10_gust_84 (by decide) (fun c25 => ?_) (fun c25 => ?_)
          · have h := ipos c25 h
            refine lv_iinc (pc := 102) (v := (v7 + (1 : Int32))) (lv' := [(7, .int (v7 + (1 : Int32))), (0, .ref (ga G k0z)), (1, .int p1), (2, .int p2), (3, .int v3), (4, .int v4), (5, .int p5), (6, .int p6)]) hx hb dX10_gust_102 hl (k := 7) rfl (congrArg (fun z => v7 + z) (by decide)) (by decide) rfl (fun ls hl => ?_)
            refine lv_goto (pc := 105) (tgt := 46) hx hb dX10_gust_105 (by decide) ?_
            exact ih2 _ _ _ _ _ _ _ hP hS (lv_sub hl [1, 2, 3, 4, 5, 6, 7, 0] rfl) h
          · have h := ineg c25 h
            refine lv_bipush (pc := 87) (v := (10)) hx hb dX10_gust_87 (by decide) ?_
            refine lv_iload (pc := 89) hx hb dX10_gust_89 (lv_at hl 5 rfl) ?_
            refine lv_imul (pc := 91) hx hb dX10_gust_91 ?_
            refine lv_iload (pc := 92) hx hb dX10_gust_92 (lv_at hl 7 rfl) ?_
            refine lv_iadd (pc := 94) hx hb dX10_gust_94 ?_
            refine lv_istore_n (pc := 95) (lv' := [(3, .int (((10 : Int32) * p5) + v7)), (0, .ref (ga G k0z)), (1, .int p1), (2, .int p2), (4, .int v4), (5, .int p5), (6, .int p6), (7, .int v7)]) hx hb dX10_gust_95 rfl hl (by decide) rfl (fun ls hl => ?_)
            refine lv_aload_n (pc := 96) hx hb dX10_gust_96 rfl (lv_at hl 1 rfl) ?_
            refine gt_X10_332 X hP hz0 dX10_gust_97 ?_
            refine lv_istore (pc := 100) (lv' := [(4, .int (gI σ21 k0z 38)), (3, .int (((10 : Int32) * p5) + v7)), (0, .ref (ga G k0z)), (1, .int p1), (2, .int p2), (5, .int p5), (6, .int p6), (7, .int v7)]) hx hb dX10_gust_100 hl (by decide) rfl (fun ls hl => ?_)
            refine lv_iinc (pc := 102) (v := (v7 + (1 : Int32))) (lv' := [(7, .int (v7 + (1 : Int32))), (4, .int (gI σ21 k0z 38)), (3, .int (((10 : Int32) * p5) + v7)), (0, .ref (ga G k0z)), (1, .int p1), (2, .int p2), (5, .int p5), (6, .int p6)]) hx hb dX10_gust_102 hl (k := 7) rfl (congrArg (fun z => v7 + z) (by decide)) (by decide) rfl (fun ls hl => ?_)
            refine lv_goto (pc := 105) (tgt := 46) hx hb dX10_gust_105 (by decide) ?_
            exact ih2 _ _ _ _ _ _ _ hP hS (lv_sub hl [3, 4, 5, 2, 1, 6, 7, 0] rfl) h
set_option maxHeartbeats 4000000 in
set_option maxRecDepth 100000 in
theorem w_X10_gust_27 {l : Launch} {G : Gh} {p : Program} {e : Env} {s : State} {m : MethodId} {args : Array Value} {below : List Frame} {meth : Method} {c : Code} (X : Cx G p s m args meth c prog_12_method_66_code RX10 8 (some .int)) {k0z : Nat} {p1 : Int32} {p2 : Int32} (hz0 : kd k0z = 10) {rr : Int32} {σr : Mem} : ∀ (n : Nat) (v3 : Int32) (v4 : Int32) (v5 : Int32) (σ : Mem) (H : Heap) (locs : List Loc) (ls : Array Slot), PW G σ H → va_S (AA G) s.heap H locs → lv_has ls 8 [(0, .ref (ga G k0z)), (1, .int p1), (2, .int p2), (3, .int v3), (4, .int v4), (5, .int v5)] → iterF (F_X10_gust_27 k0z p1 p2) (fun _ _ _ _ => none) n v3 v4 v5 σ = some (rr, σr) → W p l e RM_X10_gust s m args below meth c H locs 0 0 (MQ below (QG G (some (.int rr)) σr) args s 0 0 (AA G)) (F0 m 27 ls []) := by
  have hx := X.hx
  have hb := X.hb
  intro n
  induction n with
  | zero => intro v3 v4 v5 σ H locs ls hP hS hl h; exact nnone (α := (Int32 × Mem)) h
  | succ n ih1 =>
    intro v3 v4 v5 σ H locs ls hP hS hl h
    have h : F_X10_gust_27 k0z p1 p2 (iterF (F_X10_gust_27 k0z p1 p2) (fun _ _ _ _ => none) n) v3 v4 v5 σ = some _ := h
    unfold F_X10_gust_27 at h
    refine lv_iload (pc := 27) hx hb dX10_gust_27 (lv_at hl 5 rfl) ?_
    refine lv_bipush (pc := 29) (v := (12)) hx hb dX10_gust_29 (by decide) ?_
    refine lv_icmp_ge (pc := 31) (tgt := 123) hx hb dX10_gust_31 (by decide) (fun c9 => ?_) (fun c9 => ?_)
    · have h := ipos c9 h
      refine lv_iload_n (pc := 123) hx hb dX10_gust_123 rfl (lv_at hl 3 rfl) ?_
      obtain ⟨rfl, rfl⟩ := inj2 h
      exact r_iret X hP hS dX10_gust_124
    · have h := ineg c9 h
      refine lv_aload_n (pc := 34) hx hb dX10_gust_34 rfl (lv_at hl 0 rfl) ?_
      refine gt_X10_25 X hP hz0 dX10_gust_35 ?_
      refine lv_iload (pc := 38) hx hb dX10_gust_38 (lv_at hl 5 rfl) ?_
      obtain ⟨j10, hj11, h⟩ := bnd1 h
      refine r_iald (pc := 40) X hP (kf_10_draughts hz0).1 hj11 dX10_gust_40 ?_
      refine lv_istore (pc := 41) (lv' := [(6, .int (gI σ (k0z + 6) j10)), (0, .ref (ga G k0z)), (1, .int p1), (2, .int p2), (3, .int v3), (4, .int v4), (5, .int v5)]) hx hb dX10_gust_41 hl (by decide) rfl (fun ls hl => ?_)
      refine lv_iconst (pc := 43) (v := 0) hx hb dX10_gust_43 (by decide) ?_
      refine lv_istore (pc := 44) (lv' := [(7, .int (0 : Int32)), (6, .int (gI σ (k0z + 6) j10)), (0, .ref (ga G k0z)), (1, .int p1), (2, .int p2), (3, .int v3), (4, .int v4), (5, .int v5)]) hx hb dX10_gust_44 hl (by decide) rfl (fun ls hl => ?_)
      exact w_X10_gust_46 X  hz0 ih1 FU _ _ _ _ _ _ _ hP hS (lv_sub hl [2, 3, 4, 5, 6, 7, 1, 0] rfl) h
set_option maxHeartbeats 4000000 in
set_option maxRecDepth 100000 in
theorem c_X10_gust (l : Launch) (G : Gh) {k0 : Nat} {a1 : Int32} {a2 : Int32} {σ : Mem} {rr : Int32} {σr : Mem} (hk0 : kd k0 = 10) (h : f_X10_gust k0 a1 a2 σ = some (rr, σr)) : Met l yX10_gust [Cond.code yX10_gust prog_12_method_66_code 8 (some .int)] RM_X10_gust (va_Pc [.ref (ga G k0), .int a1, .int a2] (Pre G σ)) (QG G (some (.int rr)) σr) 0 0 (AA G) := by
  refine ct_of (by decide) (fun p e s m below meth c X hP => ?_)
  have hx := X.hx
  have hb := X.hb
  have hS : va_S (AA G) s.heap s.heap [] := va_S.rf
  have hl := lv_entry ([.ref (ga G k0), .int a1, .int a2]) (n := 8) (Nat.le_of_ble_eq_true rfl)
  rw [lg_entry_eq]
  generalize (lg_sl ([.ref (ga G k0), .int a1, .int a2]) ++ List.replicate (8 - (lg_sl ([.ref (ga G k0), .int a1, .int a2])).length) Slot.unset).toArray = ls at hl ⊢
  have hl : lv_has ls 8 [(0, .ref (ga G k0)), (1, .int a1), (2, .int a2)] := hl
  unfold f_X10_gust at h
  refine lv_aload_n (pc := 0) hx hb dX10_gust_0 rfl (lv_at hl 0 rfl) ?_
  refine lv_iload_n (pc := 1) hx hb dX10_gust_1 rfl (lv_at hl 1 rfl) ?_
  obtain ⟨r3, σ1, e2, h⟩ := bnd2 h
  refine cl_X10_271 X hP hS hk0 (As := [.int a1]) (rest := []) (c_X10_isBidder l G hk0 e2) ⟨rfl, rfl, Nat.le_of_ble_eq_true rfl, Nat.le_of_ble_eq_true rfl⟩ rfl hl.1 rfl (Nat.le_of_ble_eq_true rfl) ⟨Nat.zero_le _, Nat.zero_le _⟩ (pc := 2) dX10_gust_2 (fun H locs hP hS => ?_)
  change W p l e _ s m _ below meth c H locs _ _ _ (F0 m (2 + 3) ls (.int r3 :: []))
  refine lv_if_eq (pc := 5) (tgt := 16) hx hb dX10_gust_5 (by decide) (fun c4 => ?_) (fun c4 => ?_)
  · have h := ipos c4 h
    refine lv_iconst (pc := 16) (v := (-1)) hx hb dX10_gust_16 (by decide) ?_
    obtain ⟨rfl, rfl⟩ := inj2 h
    exact r_iret X hP hS dX10_gust_17
  · have h := ineg c4 h
    refine lv_aload_n (pc := 8) hx hb dX10_gust_8 rfl (lv_at hl 0 rfl) ?_
    refine lv_iload_n (pc := 9) hx hb dX10_gust_9 rfl (lv_at hl 2 rfl) ?_
    obtain ⟨r7, σ5, e6, h⟩ := bnd2 h
    refine cl_X10_335 X hP hS hk0 (As := [.int a2]) (rest := []) (c_X10_isFree l G hk0 e6) ⟨rfl, rfl, Nat.le_of_ble_eq_true rfl, Nat.le_of_ble_eq_true rfl⟩ rfl hl.1 rfl (Nat.le_of_ble_eq_true rfl) ⟨Nat.zero_le _, Nat.zero_le _⟩ (pc := 10) dX10_gust_10 (fun H locs hP hS => ?_)
    change W p l e _ s m _ below meth c H locs _ _ _ (F0 m (10 + 3) ls (.int r7 :: []))
    refine lv_if_ne (pc := 13) (tgt := 18) hx hb dX10_gust_13 (by decide) (fun c8 => ?_) (fun c8 => ?_)
    · have h := ineg c8 h
      refine lv_bipush (pc := 18) (v := (-3)) hx hb dX10_gust_18 (by decide) ?_
      refine lv_istore_n (pc := 20) (lv' := [(3, .int (-3 : Int32)), (0, .ref (ga G k0)), (1, .int a1), (2, .int a2)]) hx hb dX10_gust_20 rfl hl (by decide) rfl (fun ls hl => ?_)
      refine lv_iconst (pc := 21) (v := 0) hx hb dX10_gust_21 (by decide) ?_
      refine lv_istore (pc := 22) (lv' := [(4, .int (0 : Int32)), (3, .int (-3 : Int32)), (0, .ref (ga G k0)), (1, .int a1), (2, .int a2)]) hx hb dX10_gust_22 hl (by decide) rfl (fun ls hl => ?_)
      refine lv_iconst (pc := 24) (v := 0) hx hb dX10_gust_24 (by decide) ?_
      refine lv_istore (pc := 25) (lv' := [(5, .int (0 : Int32)), (4, .int (0 : Int32)), (3, .int (-3 : Int32)), (0, .ref (ga G k0)), (1, .int a1), (2, .int a2)]) hx hb dX10_gust_25 hl (by decide) rfl (fun ls hl => ?_)
      exact w_X10_gust_27 X  hk0  FU _ _ _ _ _ _ _ hP hS (lv_sub hl [3, 4, 5, 2, 1, 0] rfl) h
    · have h := ipos c8 h
      refine lv_iconst (pc := 16) (v := (-1)) hx hb dX10_gust_16 (by decide) ?_
      obtain ⟨rfl, rfl⟩ := inj2 h
      exact r_iret X hP hS dX10_gust_17
def F_X10_wax_33 (k0z : Nat) (p1 : Int32) (p2 : Int32) (p3 : Int32) (rec1 : Int32 → Int32 → Int32 → Mem → Option (Int32 × Mem)) : Int32 → Int32 → Int32 → Mem → Option (Int32 × Mem) := fun v4 v5 v6 σ =>
  if (60 : Int32) < v6 then
    bd1 (ixo (k0z + 1) p1) fun j12 =>
    bd1 (some (pI σ (k0z + 1) j12 p3)) fun σ14 =>
    if p2 = (0 : Int32) then
      some (v4, σ14)
    else
      some (v5, σ14)
  else
    bd1 (ixo (k0z + 1) p1) fun j17 =>
    bd1 (some (pI σ (k0z + 1) j17 v6)) fun σ19 =>
    bd1 (f_X10_tries k0z p1 σ19) fun σ21 =>
    if (gI σ21 k0z 38) ≤ v5 then
      if (gI σ21 k0z 38) ≤ v5 then
        rec1 v4 v5 (v6 + (1 : Int32)) σ21
      else
        rec1 v4 (gI σ21 k0z 38) (v6 + (1 : Int32)) σ21
    else
      if (gI σ21 k0z 38) ≤ v5 then
        rec1 v6 v5 (v6 + (1 : Int32)) σ21
      else
        rec1 v6 (gI σ21 k0z 38) (v6 + (1 : Int32)) σ21
def f_X10_wax (k0 : Nat) (a1 : Int32) (a2 : Int32) (σ : Mem) : Option (Int32 × Mem) :=
  bd2 (f_X10_isFree k0 a1 σ) fun r3 σ1 =>
  if r3 = (0 : Int32) then
    some ((-1 : Int32), σ1)
  else
    bd2 (f_X10_isSide a2 σ1) fun r7 σ5 =>
    if r7 = (0 : Int32) then
      some ((-1 : Int32), σ5)
    else
      bd1 (ixo (k0 + 1) a1) fun j9 =>
      iterF (F_X10_wax_33 k0 a1 a2 (gI σ5 (k0 + 1) j9)) (fun _ _ _ _ => none) FU (1 : Int32) (-1 : Int32) (1 : Int32) σ5
abbrev RM_X10_wax : Room := { frames := 7, cells := 0, slots := 0, locals := 151 }
set_option maxHeartbeats 4000000 in
set_option maxRecDepth 100000 in
theorem w_X10_wax_33 {l : Launch} {G : Gh} {p : Program} {e : Env} {s : State} {m : MethodId} {args : Array Value} {below : List Frame} {meth : Method} {c : Code} (X : Cx G p s m args meth c prog_12_method_67_code RX10 7 (some .int)) {k0z : Nat} {p1 : Int32} {p2 : Int32} {p3 : Int32} (hz0 : kd k0z = 10) {rr : Int32} {σr : Mem} : ∀ (n : Nat) (v4 : Int32) (v5 : Int32) (v6 : Int32) (σ : Mem) (H : Heap) (locs : List Loc) (ls : Array Slot), PW G σ H → va_S (AA G) s.heap H locs → lv_has ls 7 [(0, .ref (ga G k0z)), (1, .int p1), (2, .int p2), (3, .int p3), (4, .int v4), (5, .int v5), (6, .int v6)] → iterF (F_X10_wax_33 k0z p1 p2 p3) (fun _ _ _ _ => none) n v4 v5 v6 σ = some (rr, σr) → W p l e RM_X10_wax s m args below meth c H locs 0 0 (MQ below (QG G (some (.int rr)) σr) args s 0 0 (AA G)) (F0 m 33 ls []) := by
  have hx := X.hx
  have hb := X.hb
  intro n
  induction n with
  | zero => intro v4 v5 v6 σ H locs ls hP hS hl h; exact nnone (α := (Int32 × Mem)) h
  | succ n ih1 =>
    intro v4 v5 v6 σ H locs ls hP hS hl h
    have h : F_X10_wax_33 k0z p1 p2 p3 (iterF (F_X10_wax_33 k0z p1 p2 p3) (fun _ _ _ _ => none) n) v4 v5 v6 σ = some _ := h
    unfold F_X10_wax_33 at h
    refine lv_iload (pc := 33) hx hb dX10_wax_33 (lv_at hl 6 rfl) ?_
    refine lv_bipush (pc := 35) (v := (60)) hx hb dX10_wax_35 (by decide) ?_
    refine lv_icmp_gt (pc := 37) (tgt := 97) hx hb dX10_wax_37 (by decide) (fun c11 => ?_) (fun c11 => ?_)
    · have h := ipos c11 h
      refine lv_aload_n (pc := 97) hx hb dX10_wax_97 rfl (lv_at hl 0 rfl) ?_
      refine gt_X10_7 X hP hz0 dX10_wax_98 ?_
      refine lv_iload_n (pc := 101) hx hb dX10_wax_101 rfl (lv_at hl 1 rfl) ?_
      refine lv_iload_n (pc := 102) hx hb dX10_wax_102 rfl (lv_at hl 3 rfl) ?_
      obtain ⟨j12, hj13, h⟩ := bnd1 h
      obtain ⟨σ14, e15, h⟩ := bnd1 h
      refine r_iast (pc := 103) X hP hS (kf_10_waxes hz0).1 hj13 dX10_wax_103 (fun H locs hP hS => ?_)
      rw [Option.some.inj e15] at hP
      refine lv_iload_n (pc := 104) hx hb dX10_wax_104 rfl (lv_at hl 2 rfl) ?_
      refine lv_if_ne (pc := 105) (tgt := 113) hx hb dX10_wax_105 (by decide) (fun c16 => ?_) (fun c16 => ?_)
      · have h := ineg c16 h
        refine lv_iload (pc := 113) hx hb dX10_wax_113 (lv_at hl 5 rfl) ?_
        obtain ⟨rfl, rfl⟩ := inj2 h
        exact r_iret X hP hS dX10_wax_115
      · have h := ipos c16 h
        refine lv_iload (pc := 108) hx hb dX10_wax_108 (lv_at hl 4 rfl) ?_
        refine lv_goto (pc := 110) (tgt := 115) hx hb dX10_wax_110 (by decide) ?_
        obtain ⟨rfl, rfl⟩ := inj2 h
        exact r_iret X hP hS dX10_wax_115
    · have h := ineg c11 h
      refine lv_aload_n (pc := 40) hx hb dX10_wax_40 rfl (lv_at hl 0 rfl) ?_
      refine gt_X10_7 X hP hz0 dX10_wax_41 ?_
      refine lv_iload_n (pc := 44) hx hb dX10_wax_44 rfl (lv_at hl 1 rfl) ?_
      refine lv_iload (pc := 45) hx hb dX10_wax_45 (lv_at hl 6 rfl) ?_
      obtain ⟨j17, hj18, h⟩ := bnd1 h
      obtain ⟨σ19, e20, h⟩ := bnd1 h
      refine r_iast (pc := 47) X hP hS (kf_10_waxes hz0).1 hj18 dX10_wax_47 (fun H locs hP hS => ?_)
      rw [Option.some.inj e20] at hP
      refine lv_aload_n (pc := 48) hx hb dX10_wax_48 rfl (lv_at hl 0 rfl) ?_
      refine lv_iload_n (pc := 49) hx hb dX10_wax_49 rfl (lv_at hl 1 rfl) ?_
      obtain ⟨σ21, e22, h⟩ := bnd1 h
      refine cl_X10_338 X hP hS hz0 (As := [.int p1]) (rest := []) (c_X10_tries l G hz0 e22) ⟨rfl, rfl, Nat.le_of_ble_eq_true rfl, Nat.le_of_ble_eq_true rfl⟩ rfl hl.1 rfl (Nat.le_of_ble_eq_true rfl) ⟨Nat.zero_le _, Nat.zero_le _⟩ (pc := 50) dX10_wax_50 (fun H locs hP hS => ?_)
      change W p l e _ s m _ below meth c H locs _ _ _ (F0 m (50 + 3) ls [])
      refine lv_aload_n (pc := 53) hx hb dX10_wax_53 rfl (lv_at hl 0 rfl) ?_
      refine gt_X10_332 X hP hz0 dX10_wax_54 ?_
      refine lv_iload (pc := 57) hx hb dX10_wax_57 (lv_at hl 5 rfl) ?_
      refine lv_icmp_le (pc := 59) (tgt := 67) hx hb dX10_wax_59 (by decide) (fun c23 => ?_) (fun c23 => ?_)
      · have h := ipos c23 h
        refine lv_iload (pc := 67) hx hb dX10_wax_67 (lv_at hl 4 rfl) ?_
        refine lv_istore (pc := 69) (lv' := [(4, .int v4), (0, .ref (ga G k0z)), (1, .int p1), (2, .int p2), (3, .int p3), (5, .int v5), (6, .int v6)]) hx hb dX10_wax_69 hl (by decide) rfl (fun ls hl => ?_)
        refine lv_aload_n (pc := 71) hx hb dX10_wax_71 rfl (lv_at hl 1 rfl) ?_
        refine gt_X10_332 X hP hz0 dX10_wax_72 ?_
        refine lv_iload (pc := 75) hx hb dX10_wax_75 (lv_at hl 5 rfl) ?_
        refine lv_icmp_le (pc := 77) (tgt := 87) hx hb dX10_wax_77 (by decide) (fun c24 => ?_) (fun c24 => ?_)
        · have h := ipos c24 h
          refine lv_iload (pc := 87) hx hb dX10_wax_87 (lv_at hl 5 rfl) ?_
          refine lv_istore (pc := 89) (lv' := [(5, .int v5), (4, .int v4), (0, .ref (ga G k0z)), (1, .int p1), (2, .int p2), (3, .int p3), (6, .int v6)]) hx hb dX10_wax_89 hl (by decide) rfl (fun ls hl => ?_)
          refine lv_iinc (pc := 91) (v := (v6 + (1 : Int32))) (lv' := [(6, .int (v6 + (1 : Int32))), (5, .int v5), (4, .int v4), (0, .ref (ga G k0z)), (1, .int p1), (2, .int p2), (3, .int p3)]) hx hb dX10_wax_91 hl (k := 6) rfl (congrArg (fun z => v6 + z) (by decide)) (by decide) rfl (fun ls hl => ?_)
          refine lv_goto (pc := 94) (tgt := 33) hx hb dX10_wax_94 (by decide) ?_
          exact ih1 _ _ _ _ _ _ _ hP hS (lv_sub hl [3, 4, 5, 6, 2, 1, 0] rfl) h
        · have h := ineg c24 h
          refine lv_aload_n (pc := 80) hx hb dX10_wax_80 rfl (lv_at hl 1 rfl) ?_
          refine gt_X10_332 X hP hz0 dX10_wax_81 ?_
          refine lv_goto (pc := 84) (tgt := 89) hx hb dX10_wax_84 (by decide) ?_
          refine lv_istore (pc := 89) (lv' := [(5, .int (gI σ21 k0z 38)), (4, .int v4), (0, .ref (ga G k0z)), (1, .int p1), (2, .int p2), (3, .int p3), (6, .int v6)]) hx hb dX10_wax_89 hl (by decide) rfl (fun ls hl => ?_)
          refine lv_iinc (pc := 91) (v := (v6 + (1 : Int32))) (lv' := [(6, .int (v6 + (1 : Int32))), (5, .int (gI σ21 k0z 38)), (4, .int v4), (0, .ref (ga G k0z)), (1, .int p1), (2, .int p2), (3, .int p3)]) hx hb dX10_wax_91 hl (k := 6) rfl (congrArg (fun z => v6 + z) (by decide)) (by decide) rfl (fun ls hl => ?_)
          refine lv_goto (pc := 94) (tgt := 33) hx hb dX10_wax_94 (by decide) ?_
          exact ih1 _ _ _ _ _ _ _ hP hS (lv_sub hl [3, 4, 5, 6, 2, 1, 0] rfl) h
      · have h := ineg c23 h
        refine lv_iload (pc := 62) hx hb dX10_wax_62 (lv_at hl 6 rfl) ?_
        refine lv_goto (pc := 64) (tgt := 69) hx hb dX10_wax_64 (by decide) ?_
        refine lv_istore (pc := 69) (lv' := [(4, .int v6), (0, .ref (ga G k0z)), (1, .int p1), (2, .int p2), (3, .int p3), (5, .int v5), (6, .int v6)]) hx hb dX10_wax_69 hl (by decide) rfl (fun ls hl => ?_)
        refine lv_aload_n (pc := 71) hx hb dX10_wax_71 rfl (lv_at hl 1 rfl) ?_
        refine gt_X10_332 X hP hz0 dX10_wax_72 ?_
        refine lv_iload (pc := 75) hx hb dX10_wax_75 (lv_at hl 5 rfl) ?_
        refine lv_icmp_le (pc := 77) (tgt := 87) hx hb dX10_wax_77 (by decide) (fun c25 => ?_) (fun c25 => ?_)
        · have h := ipos c25 h
          refine lv_iload (pc := 87) hx hb dX10_wax_87 (lv_at hl 5 rfl) ?_
          refine lv_istore (pc := 89) (lv' := [(5, .int v5), (4, .int v6), (0, .ref (ga G k0z)), (1, .int p1), (2, .int p2), (3, .int p3), (6, .int v6)]) hx hb dX10_wax_89 hl (by decide) rfl (fun ls hl => ?_)
          refine lv_iinc (pc := 91) (v := (v6 + (1 : Int32))) (lv' := [(6, .int (v6 + (1 : Int32))), (5, .int v5), (4, .int v6), (0, .ref (ga G k0z)), (1, .int p1), (2, .int p2), (3, .int p3)]) hx hb dX10_wax_91 hl (k := 6) rfl (congrArg (fun z => v6 + z) (by decide)) (by decide) rfl (fun ls hl => ?_)
          refine lv_goto (pc := 94) (tgt := 33) hx hb dX10_wax_94 (by decide) ?_
          exact ih1 _ _ _ _ _ _ _ hP hS (lv_sub hl [3, 4, 5, 6, 2, 1, 0] rfl) h
        · have h := ineg c25 h
          refine lv_aload_n (pc := 80) hx hb dX10_wax_80 rfl (lv_at hl 1 rfl) ?_
          refine gt_X10_332 X hP hz0 dX10_wax_81 ?_
          refine lv_goto (pc := 84) (tgt := 89) hx hb dX10_wax_84 (by decide) ?_
          refine lv_istore (pc := 89) (lv' := [(5, .int (gI σ21 k0z 38)), (4, .int v6), (0, .ref (ga G k0z)), (1, .int p1), (2, .int p2), (3, .int p3), (6, .int v6)]) hx hb dX10_wax_89 hl (by decide) rfl (fun ls hl => ?_)
          refine lv_iinc (pc := 91) (v := (v6 + (1 : Int32))) (lv' := [(6, .int (v6 + (1 : Int32))), (5, .int (gI σ21 k0z 38)), (4, .int v6), (0, .ref (ga G k0z)), (1, .int p1), (2, .int p2), (3, .int p3)]) hx hb dX10_wax_91 hl (k := 6) rfl (congrArg (fun z => v6 + z) (by decide)) (by decide) rfl (fun ls hl => ?_)
          refine lv_goto (pc := 94) (tgt := 33) hx hb dX10_wax_94 (by decide) ?_
          exact ih1 _ _ _ _ _ _ _ hP hS (lv_sub hl [3, 4, 5, 6, 2, 1, 0] rfl) h
set_option maxHeartbeats 4000000 in
set_option maxRecDepth 100000 in
theorem c_X10_wax (l : Launch) (G : Gh) {k0 : Nat} {a1 : Int32} {a2 : Int32} {σ : Mem} {rr : Int32} {σr : Mem} (hk0 : kd k0 = 10) (h : f_X10_wax k0 a1 a2 σ = some (rr, σr)) : Met l yX10_wax [Cond.code yX10_wax prog_12_method_67_code 7 (some .int)] RM_X10_wax (va_Pc [.ref (ga G k0), .int a1, .int a2] (Pre G σ)) (QG G (some (.int rr)) σr) 0 0 (AA G) := by
  refine ct_of (by decide) (fun p e s m below meth c X hP => ?_)
  have hx := X.hx
  have hb := X.hb
  have hS : va_S (AA G) s.heap s.heap [] := va_S.rf
  have hl := lv_entry ([.ref (ga G k0), .int a1, .int a2]) (n := 7) (Nat.le_of_ble_eq_true rfl)
  rw [lg_entry_eq]
  generalize (lg_sl ([.ref (ga G k0), .int a1, .int a2]) ++ List.replicate (7 - (lg_sl ([.ref (ga G k0), .int a1, .int a2])).length) Slot.unset).toArray = ls at hl ⊢
  have hl : lv_has ls 7 [(0, .ref (ga G k0)), (1, .int a1), (2, .int a2)] := hl
  unfold f_X10_wax at h
  refine lv_aload_n (pc := 0) hx hb dX10_wax_0 rfl (lv_at hl 0 rfl) ?_
  refine lv_iload_n (pc := 1) hx hb dX10_wax_1 rfl (lv_at hl 1 rfl) ?_
  obtain ⟨r3, σ1, e2, h⟩ := bnd2 h
  refine cl_X10_335 X hP hS hk0 (As := [.int a1]) (rest := []) (c_X10_isFree l G hk0 e2) ⟨rfl, rfl, Nat.le_of_ble_eq_true rfl, Nat.le_of_ble_eq_true rfl⟩ rfl hl.1 rfl (Nat.le_of_ble_eq_true rfl) ⟨Nat.zero_le _, Nat.zero_le _⟩ (pc := 2) dX10_wax_2 (fun H locs hP hS => ?_)
  change W p l e _ s m _ below meth c H locs _ _ _ (F0 m (2 + 3) ls (.int r3 :: []))
  refine lv_if_eq (pc := 5) (tgt := 15) hx hb dX10_wax_5 (by decide) (fun c4 => ?_) (fun c4 => ?_)
  · have h := ipos c4 h
    refine lv_iconst (pc := 15) (v := (-1)) hx hb dX10_wax_15 (by decide) ?_
    obtain ⟨rfl, rfl⟩ := inj2 h
    exact r_iret X hP hS dX10_wax_16
  · have h := ineg c4 h
    refine lv_iload_n (pc := 8) hx hb dX10_wax_8 rfl (lv_at hl 2 rfl) ?_
    obtain ⟨r7, σ5, e6, h⟩ := bnd2 h
    refine cl_X10_265 X hP hS (As := [.int a2]) (rest := []) (c_X10_isSide l G  e6) ⟨rfl, rfl, Nat.le_of_ble_eq_true rfl, Nat.le_of_ble_eq_true rfl⟩ rfl hl.1 rfl (Nat.le_of_ble_eq_true rfl) ⟨Nat.zero_le _, Nat.zero_le _⟩ (pc := 9) dX10_wax_9 (fun H locs hP hS => ?_)
    change W p l e _ s m _ below meth c H locs _ _ _ (F0 m (9 + 3) ls (.int r7 :: []))
    refine lv_if_ne (pc := 12) (tgt := 17) hx hb dX10_wax_12 (by decide) (fun c8 => ?_) (fun c8 => ?_)
    · have h := ineg c8 h
      refine lv_aload_n (pc := 17) hx hb dX10_wax_17 rfl (lv_at hl 0 rfl) ?_
      refine gt_X10_7 X hP hk0 dX10_wax_18 ?_
      refine lv_iload_n (pc := 21) hx hb dX10_wax_21 rfl (lv_at hl 1 rfl) ?_
      obtain ⟨j9, hj10, h⟩ := bnd1 h
      refine r_iald (pc := 22) X hP (kf_10_waxes hk0).1 hj10 dX10_wax_22 ?_
      refine lv_istore_n (pc := 23) (lv' := [(3, .int (gI σ5 (k0 + 1) j9)), (0, .ref (ga G k0)), (1, .int a1), (2, .int a2)]) hx hb dX10_wax_23 rfl hl (by decide) rfl (fun ls hl => ?_)
      refine lv_iconst (pc := 24) (v := 1) hx hb dX10_wax_24 (by decide) ?_
      refine lv_istore (pc := 25) (lv' := [(4, .int (1 : Int32)), (3, .int (gI σ5 (k0 + 1) j9)), (0, .ref (ga G k0)), (1, .int a1), (2, .int a2)]) hx hb dX10_wax_25 hl (by decide) rfl (fun ls hl => ?_)
      refine lv_iconst (pc := 27) (v := (-1)) hx hb dX10_wax_27 (by decide) ?_
      refine lv_istore (pc := 28) (lv' := [(5, .int (-1 : Int32)), (4, .int (1 : Int32)), (3, .int (gI σ5 (k0 + 1) j9)), (0, .ref (ga G k0)), (1, .int a1), (2, .int a2)]) hx hb dX10_wax_28 hl (by decide) rfl (fun ls hl => ?_)
      refine lv_iconst (pc := 30) (v := 1) hx hb dX10_wax_30 (by decide) ?_
      refine lv_istore (pc := 31) (lv' := [(6, .int (1 : Int32)), (5, .int (-1 : Int32)), (4, .int (1 : Int32)), (3, .int (gI σ5 (k0 + 1) j9)), (0, .ref (ga G k0)), (1, .int a1), (2, .int a2)]) hx hb dX10_wax_31 hl (by decide) rfl (fun ls hl => ?_)
      exact w_X10_wax_33 X  hk0  FU _ _ _ _ _ _ _ hP hS (lv_sub hl [4, 5, 6, 3, 2, 1, 0] rfl) h
    · have h := ipos c8 h
      refine lv_iconst (pc := 15) (v := (-1)) hx hb dX10_wax_15 (by decide) ?_
      obtain ⟨rfl, rfl⟩ := inj2 h
      exact r_iret X hP hS dX10_wax_16
def F_X10_silent_18 (k0z : Nat) (p1 : Int32) (rec1 : Int32 → Int32 → Int32 → Mem → Option (Int32 × Mem)) : Int32 → Int32 → Int32 → Mem → Option (Int32 × Mem) := fun v2 v3 v4 σ =>
  if (gI σ k0z 8) ≤ v4 then
    bd1 (some (pI σ k0z 33 (-1 : Int32))) fun σ6 =>
    some (v2, σ6)
  else
    bd1 (some (pI σ k0z 33 v4)) fun σ8 =>
    bd1 (f_X10_tries k0z p1 σ8) fun σ10 =>
    if (gI σ10 k0z 37) < (0 : Int32) then
      rec1 v2 v3 (v4 + (1 : Int32)) σ10
    else
      if v2 < (0 : Int32) then
        rec1 v4 (gI σ10 k0z 38) (v4 + (1 : Int32)) σ10
      else
        if v3 ≤ (gI σ10 k0z 38) then
          rec1 v2 v3 (v4 + (1 : Int32)) σ10
        else
          rec1 v4 (gI σ10 k0z 38) (v4 + (1 : Int32)) σ10
def f_X10_silent (k0 : Nat) (a1 : Int32) (σ : Mem) : Option (Int32 × Mem) :=
  bd2 (f_X10_isFree k0 a1 σ) fun r3 σ1 =>
  if r3 = (0 : Int32) then
    some ((-1 : Int32), σ1)
  else
    iterF (F_X10_silent_18 k0 a1) (fun _ _ _ _ => none) FU (-3 : Int32) (0 : Int32) (0 : Int32) σ1
abbrev RM_X10_silent : Room := { frames := 7, cells := 0, slots := 0, locals := 151 }
set_option maxHeartbeats 4000000 in
set_option maxRecDepth 100000 in
theorem w_X10_silent_18 {l : Launch} {G : Gh} {p : Program} {e : Env} {s : State} {m : MethodId} {args : Array Value} {below : List Frame} {meth : Method} {c : Code} (X : Cx G p s m args meth c prog_12_method_68_code RX10 5 (some .int)) {k0z : Nat} {p1 : Int32} (hz0 : kd k0z = 10) {rr : Int32} {σr : Mem} : ∀ (n : Nat) (v2 : Int32) (v3 : Int32) (v4 : Int32) (σ : Mem) (H : Heap) (locs : List Loc) (ls : Array Slot), PW G σ H → va_S (AA G) s.heap H locs → lv_has ls 5 [(0, .ref (ga G k0z)), (1, .int p1), (2, .int v2), (3, .int v3), (4, .int v4)] → iterF (F_X10_silent_18 k0z p1) (fun _ _ _ _ => none) n v2 v3 v4 σ = some (rr, σr) → W p l e RM_X10_silent s m args below meth c H locs 0 0 (MQ below (QG G (some (.int rr)) σr) args s 0 0 (AA G)) (F0 m 18 ls []) := by
  have hx := X.hx
  have hb := X.hb
  intro n
  induction n with
  | zero => intro v2 v3 v4 σ H locs ls hP hS hl h; exact nnone (α := (Int32 × Mem)) h
  | succ n ih1 =>
    intro v2 v3 v4 σ H locs ls hP hS hl h
    have h : F_X10_silent_18 k0z p1 (iterF (F_X10_silent_18 k0z p1) (fun _ _ _ _ => none) n) v2 v3 v4 σ = some _ := h
    unfold F_X10_silent_18 at h
    refine lv_iload (pc := 18) hx hb dX10_silent_18 (lv_at hl 4 rfl) ?_
    refine lv_aload_n (pc := 20) hx hb dX10_silent_20 rfl (lv_at hl 0 rfl) ?_
    refine gt_X10_128 X hP hz0 dX10_silent_21 ?_
    refine lv_icmp_ge (pc := 24) (tgt := 71) hx hb dX10_silent_24 (by decide) (fun c5 => ?_) (fun c5 => ?_)
    · have h := ipos c5 h
      refine lv_aload_n (pc := 71) hx hb dX10_silent_71 rfl (lv_at hl 0 rfl) ?_
      refine lv_iconst (pc := 72) (v := (-1)) hx hb dX10_silent_72 (by decide) ?_
      obtain ⟨σ6, e7, h⟩ := bnd1 h
      refine pt_X10_71 X hP hS hz0 dX10_silent_73 (fun H locs hP hS => ?_)
      rw [Option.some.inj e7] at hP
      refine lv_iload_n (pc := 76) hx hb dX10_silent_76 rfl (lv_at hl 2 rfl) ?_
      obtain ⟨rfl, rfl⟩ := inj2 h
      exact r_iret X hP hS dX10_silent_77
    · have h := ineg c5 h
      refine lv_aload_n (pc := 27) hx hb dX10_silent_27 rfl (lv_at hl 0 rfl) ?_
      refine lv_iload (pc := 28) hx hb dX10_silent_28 (lv_at hl 4 rfl) ?_
      obtain ⟨σ8, e9, h⟩ := bnd1 h
      refine pt_X10_71 X hP hS hz0 dX10_silent_30 (fun H locs hP hS => ?_)
      rw [Option.some.inj e9] at hP
      refine lv_aload_n (pc := 33) hx hb dX10_silent_33 rfl (lv_at hl 0 rfl) ?_
      refine lv_iload_n (pc := 34) hx hb dX10_silent_34 rfl (lv_at hl 1 rfl) ?_
      obtain ⟨σ10, e11, h⟩ := bnd1 h
      refine cl_X10_338 X hP hS hz0 (As := [.int p1]) (rest := []) (c_X10_tries l G hz0 e11) ⟨rfl, rfl, Nat.le_of_ble_eq_true rfl, Nat.le_of_ble_eq_true rfl⟩ rfl hl.1 rfl (Nat.le_of_ble_eq_true rfl) ⟨Nat.zero_le _, Nat.zero_le _⟩ (pc := 35) dX10_silent_35 (fun H locs hP hS => ?_)
      change W p l e _ s m _ below meth c H locs _ _ _ (F0 m (35 + 3) ls [])
      refine lv_aload_n (pc := 38) hx hb dX10_silent_38 rfl (lv_at hl 0 rfl) ?_
      refine gt_X10_329 X hP hz0 dX10_silent_39 ?_
      refine lv_if_lt (pc := 42) (tgt := 65) hx hb dX10_silent_42 (by decide) (fun c12 => ?_) (fun c12 => ?_)
      · have h := ipos c12 h
        refine lv_iinc (pc := 65) (v := (v4 + (1 : Int32))) (lv' := [(4, .int (v4 + (1 : Int32))), (0, .ref (ga G k0z)), (1, .int p1), (2, .int v2), (3, .int v3)]) hx hb dX10_silent_65 hl (k := 4) rfl (congrArg (fun z => v4 + z) (by decide)) (by decide) rfl (fun ls hl => ?_)
        refine lv_goto (pc := 68) (tgt := 18) hx hb dX10_silent_68 (by decide) ?_
        exact ih1 _ _ _ _ _ _ _ hP hS (lv_sub hl [1, 2, 3, 4, 0] rfl) h
      · have h := ineg c12 h
        refine lv_iload_n (pc := 45) hx hb dX10_silent_45 rfl (lv_at hl 2 rfl) ?_
        refine lv_if_lt (pc := 46) (tgt := 57) hx hb dX10_silent_46 (by decide) (fun c13 => ?_) (fun c13 => ?_)
        · have h := ipos c13 h
          refine lv_iload (pc := 57) hx hb dX10_silent_57 (lv_at hl 4 rfl) ?_
          refine lv_istore_n (pc := 59) (lv' := [(2, .int v4), (0, .ref (ga G k0z)), (1, .int p1), (3, .int v3), (4, .int v4)]) hx hb dX10_silent_59 rfl hl (by decide) rfl (fun ls hl => ?_)
          refine lv_aload_n (pc := 60) hx hb dX10_silent_60 rfl (lv_at hl 1 rfl) ?_
          refine gt_X10_332 X hP hz0 dX10_silent_61 ?_
          refine lv_istore_n (pc := 64) (lv' := [(3, .int (gI σ10 k0z 38)), (2, .int v4), (0, .ref (ga G k0z)), (1, .int p1), (4, .int v4)]) hx hb dX10_silent_64 rfl hl (by decide) rfl (fun ls hl => ?_)
          refine lv_iinc (pc := 65) (v := (v4 + (1 : Int32))) (lv' := [(4, .int (v4 + (1 : Int32))), (3, .int (gI σ10 k0z 38)), (2, .int v4), (0, .ref (ga G k0z)), (1, .int p1)]) hx hb dX10_silent_65 hl (k := 4) rfl (congrArg (fun z => v4 + z) (by decide)) (by decide) rfl (fun ls hl => ?_)
          refine lv_goto (pc := 68) (tgt := 18) hx hb dX10_silent_68 (by decide) ?_
          exact ih1 _ _ _ _ _ _ _ hP hS (lv_sub hl [3, 4, 2, 1, 0] rfl) h
        · have h := ineg c13 h
          refine lv_aload_n (pc := 49) hx hb dX10_silent_49 rfl (lv_at hl 0 rfl) ?_
          refine gt_X10_332 X hP hz0 dX10_silent_50 ?_
          refine lv_iload_n (pc := 53) hx hb dX10_silent_53 rfl (lv_at hl 3 rfl) ?_
          refine lv_icmp_ge (pc := 54) (tgt := 65) hx hb dX10_silent_54 (by decide) (fun c14 => ?_) (fun c14 => ?_)
          · have h := ipos c14 h
            refine lv_iinc (pc := 65) (v := (v4 + (1 : Int32))) (lv' := [(4, .int (v4 + (1 : Int32))), (0, .ref (ga G k0z)), (1, .int p1), (2, .int v2), (3, .int v3)]) hx hb dX10_silent_65 hl (k := 4) rfl (congrArg (fun z => v4 + z) (by decide)) (by decide) rfl (fun ls hl => ?_)
            refine lv_goto (pc := 68) (tgt := 18) hx hb dX10_silent_68 (by decide) ?_
            exact ih1 _ _ _ _ _ _ _ hP hS (lv_sub hl [1, 2, 3, 4, 0] rfl) h
          · have h := ineg c14 h
            refine lv_iload (pc := 57) hx hb dX10_silent_57 (lv_at hl 4 rfl) ?_
            refine lv_istore_n (pc := 59) (lv' := [(2, .int v4), (0, .ref (ga G k0z)), (1, .int p1), (3, .int v3), (4, .int v4)]) hx hb dX10_silent_59 rfl hl (by decide) rfl (fun ls hl => ?_)
            refine lv_aload_n (pc := 60) hx hb dX10_silent_60 rfl (lv_at hl 1 rfl) ?_
            refine gt_X10_332 X hP hz0 dX10_silent_61 ?_
            refine lv_istore_n (pc := 64) (lv' := [(3, .int (gI σ10 k0z 38)), (2, .int v4), (0, .ref (ga G k0z)), (1, .int p1), (4, .int v4)]) hx hb dX10_silent_64 rfl hl (by decide) rfl (fun ls hl => ?_)
            refine lv_iinc (pc := 65) (v := (v4 + (1 : Int32))) (lv' := [(4, .int (v4 + (1 : Int32))), (3, .int (gI σ10 k0z 38)), (2, .int v4), (0, .ref (ga G k0z)), (1, .int p1)]) hx hb dX10_silent_65 hl (k := 4) rfl (congrArg (fun z => v4 + z) (by decide)) (by decide) rfl (fun ls hl => ?_)
            refine lv_goto (pc := 68) (tgt := 18) hx hb dX10_silent_68 (by decide) ?_
            exact ih1 _ _ _ _ _ _ _ hP hS (lv_sub hl [3, 4, 2, 1, 0] rfl) h
set_option maxHeartbeats 4000000 in
set_option maxRecDepth 100000 in
theorem c_X10_silent (l : Launch) (G : Gh) {k0 : Nat} {a1 : Int32} {σ : Mem} {rr : Int32} {σr : Mem} (hk0 : kd k0 = 10) (h : f_X10_silent k0 a1 σ = some (rr, σr)) : Met l yX10_silent [Cond.code yX10_silent prog_12_method_68_code 5 (some .int)] RM_X10_silent (va_Pc [.ref (ga G k0), .int a1] (Pre G σ)) (QG G (some (.int rr)) σr) 0 0 (AA G) := by
  refine ct_of (by decide) (fun p e s m below meth c X hP => ?_)
  have hx := X.hx
  have hb := X.hb
  have hS : va_S (AA G) s.heap s.heap [] := va_S.rf
  have hl := lv_entry ([.ref (ga G k0), .int a1]) (n := 5) (Nat.le_of_ble_eq_true rfl)
  rw [lg_entry_eq]
  generalize (lg_sl ([.ref (ga G k0), .int a1]) ++ List.replicate (5 - (lg_sl ([.ref (ga G k0), .int a1])).length) Slot.unset).toArray = ls at hl ⊢
  have hl : lv_has ls 5 [(0, .ref (ga G k0)), (1, .int a1)] := hl
  unfold f_X10_silent at h
  refine lv_aload_n (pc := 0) hx hb dX10_silent_0 rfl (lv_at hl 0 rfl) ?_
  refine lv_iload_n (pc := 1) hx hb dX10_silent_1 rfl (lv_at hl 1 rfl) ?_
  obtain ⟨r3, σ1, e2, h⟩ := bnd2 h
  refine cl_X10_335 X hP hS hk0 (As := [.int a1]) (rest := []) (c_X10_isFree l G hk0 e2) ⟨rfl, rfl, Nat.le_of_ble_eq_true rfl, Nat.le_of_ble_eq_true rfl⟩ rfl hl.1 rfl (Nat.le_of_ble_eq_true rfl) ⟨Nat.zero_le _, Nat.zero_le _⟩ (pc := 2) dX10_silent_2 (fun H locs hP hS => ?_)
  change W p l e _ s m _ below meth c H locs _ _ _ (F0 m (2 + 3) ls (.int r3 :: []))
  refine lv_if_ne (pc := 5) (tgt := 10) hx hb dX10_silent_5 (by decide) (fun c4 => ?_) (fun c4 => ?_)
  · have h := ineg c4 h
    refine lv_bipush (pc := 10) (v := (-3)) hx hb dX10_silent_10 (by decide) ?_
    refine lv_istore_n (pc := 12) (lv' := [(2, .int (-3 : Int32)), (0, .ref (ga G k0)), (1, .int a1)]) hx hb dX10_silent_12 rfl hl (by decide) rfl (fun ls hl => ?_)
    refine lv_iconst (pc := 13) (v := 0) hx hb dX10_silent_13 (by decide) ?_
    refine lv_istore_n (pc := 14) (lv' := [(3, .int (0 : Int32)), (2, .int (-3 : Int32)), (0, .ref (ga G k0)), (1, .int a1)]) hx hb dX10_silent_14 rfl hl (by decide) rfl (fun ls hl => ?_)
    refine lv_iconst (pc := 15) (v := 0) hx hb dX10_silent_15 (by decide) ?_
    refine lv_istore (pc := 16) (lv' := [(4, .int (0 : Int32)), (3, .int (0 : Int32)), (2, .int (-3 : Int32)), (0, .ref (ga G k0)), (1, .int a1)]) hx hb dX10_silent_16 hl (by decide) rfl (fun ls hl => ?_)
    exact w_X10_silent_18 X  hk0  FU _ _ _ _ _ _ _ hP hS (lv_sub hl [3, 4, 2, 1, 0] rfl) h
  · have h := ipos c4 h
    refine lv_iconst (pc := 8) (v := (-1)) hx hb dX10_silent_8 (by decide) ?_
    obtain ⟨rfl, rfl⟩ := inj2 h
    exact r_iret X hP hS dX10_silent_9
def F_X10_findOrder_89 (k0z : Nat) (p2 : Int32) (p3 : Int32) (p5 : Int32) (rec1 : Int32 → Int32 → Int32 → Int32 → Mem → Option Mem) (rec2 : Int32 → Int32 → Mem → Option Mem) : Int32 → Int32 → Mem → Option Mem := fun v6 v7 σ =>
  if ((p3 >>> (v7 &&& 31)) &&& (1 : Int32)) = (1 : Int32) then
    if ((p3 >>> (v7 &&& 31)) &&& (1 : Int32)) = (1 : Int32) then
      rec2 (v6 - (0 : Int32)) (v7 + (1 : Int32)) σ
    else
      rec2 (v6 - (1 : Int32)) (v7 + (1 : Int32)) σ
  else
    if v6 ≤ (0 : Int32) then
      bd1 (ixo (k0z + 20) v7) fun j9 =>
      bd1 (ixo (k0z + 21) p5) fun j11 =>
      bd1 (some (pI σ (k0z + 21) j11 (gI σ (k0z + 20) j9))) fun σ13 =>
      rec1 p2 (p3 ||| ((1 : Int32) <<< (v7 &&& 31))) (1 : Int32) (p5 + (1 : Int32)) σ13
    else
      if ((p3 >>> (v7 &&& 31)) &&& (1 : Int32)) = (1 : Int32) then
        rec2 (v6 - (0 : Int32)) (v7 + (1 : Int32)) σ
      else
        rec2 (v6 - (1 : Int32)) (v7 + (1 : Int32)) σ
def F_X10_findOrder_89x1 (k0z : Nat) (p2 : Int32) (p3 : Int32) (p4 : Int32) (p5 : Int32) (rec1 : Int32 → Int32 → Int32 → Int32 → Mem → Option Mem) (rec2 : Int32 → Int32 → Mem → Option Mem) : Int32 → Int32 → Mem → Option Mem := fun v6 v7 σ =>
  if ((p3 >>> (v7 &&& 31)) &&& (1 : Int32)) = (1 : Int32) then
    if ((p3 >>> (v7 &&& 31)) &&& (1 : Int32)) = (1 : Int32) then
      rec2 (v6 - (0 : Int32)) (v7 + (1 : Int32)) σ
    else
      rec2 (v6 - (1 : Int32)) (v7 + (1 : Int32)) σ
  else
    if v6 ≤ (0 : Int32) then
      bd1 (ixo (k0z + 20) v7) fun j20 =>
      bd1 (ixo (k0z + 21) p5) fun j22 =>
      bd1 (some (pI σ (k0z + 21) j22 (gI σ (k0z + 20) j20))) fun σ24 =>
      rec1 p2 (p3 ||| ((1 : Int32) <<< (v7 &&& 31))) p4 (p5 + (1 : Int32)) σ24
    else
      if ((p3 >>> (v7 &&& 31)) &&& (1 : Int32)) = (1 : Int32) then
        rec2 (v6 - (0 : Int32)) (v7 + (1 : Int32)) σ
      else
        rec2 (v6 - (1 : Int32)) (v7 + (1 : Int32)) σ
def F_X10_findOrder_35 (k0z : Nat) (rec1 : Int32 → Int32 → Int32 → Int32 → Mem → Option Mem) : Int32 → Int32 → Int32 → Int32 → Mem → Option Mem := fun v2 v3 v4 v5 σ =>
  if (gI σ k0z 42) ≤ v5 then
    some σ
  else
    grd (¬ v4 = 0) <|
    grd (¬ v4 = 0) <|
    if (((gI σ k0z 42) - (1 : Int32)) - v5) ≤ (1 : Int32) then
      iterF (F_X10_findOrder_89 k0z (v2 - v2 / v4 * v4) v3 v5 rec1) (fun _ _ _ => none) FU (v2 / v4) (0 : Int32) σ
    else
      grd (¬ (((gI σ k0z 42) - (1 : Int32)) - v5) = 0) <|
      iterF (F_X10_findOrder_89x1 k0z (v2 - v2 / v4 * v4) v3 (v4 / (((gI σ k0z 42) - (1 : Int32)) - v5)) v5 rec1) (fun _ _ _ => none) FU (v2 / v4) (0 : Int32) σ
def F_X10_findOrder_10 (k0z : Nat) (p2 : Int32) (rec1 : Int32 → Int32 → Mem → Option Mem) : Int32 → Int32 → Mem → Option Mem := fun v4 v5 σ =>
  if (gI σ k0z 42) ≤ v5 then
    iterF (F_X10_findOrder_35 k0z) (fun _ _ _ _ _ => none) FU p2 (0 : Int32) v4 (0 : Int32) σ
  else
    rec1 (v4 * v5) (v5 + (1 : Int32)) σ
def f_X10_findOrder (k0 : Nat) (a1 : Int32) (σ : Mem) : Option Mem :=
  iterF (F_X10_findOrder_10 k0 a1) (fun _ _ _ => none) FU (1 : Int32) (2 : Int32) σ
abbrev RM_X10_findOrder : Room := { frames := 0, cells := 0, slots := 0, locals := 0 }
set_option maxHeartbeats 4000000 in
set_option maxRecDepth 100000 in
theorem w_X10_findOrder_89 {l : Launch} {G : Gh} {p : Program} {e : Env} {s : State} {m : MethodId} {args : Array Value} {below : List Frame} {meth : Method} {c : Code} (X : Cx G p s m args meth c prog_12_method_69_code RX10 8 none) {k0z : Nat} {p2 : Int32} {p3 : Int32} {p5 : Int32} (hz0 : kd k0z = 10) {σr : Mem} {rec1 : Int32 → Int32 → Int32 → Int32 → Mem → Option Mem} (ih1 : ∀ (v2 : Int32) (v3 : Int32) (v4 : Int32) (v5 : Int32) (σ : Mem) (H : Heap) (locs : List Loc) (ls : Array Slot), PW G σ H → va_S (AA G) s.heap H locs → lv_has ls 8 [(0, .ref (ga G k0z)), (2, .int v2), (3, .int v3), (4, .int v4), (5, .int v5)] → rec1 v2 v3 v4 v5 σ = some σr → W p l e RM_X10_findOrder s m args below meth c H locs 0 0 (MQ below (QG G none σr) args s 0 0 (AA G)) (F0 m 35 ls [])) : ∀ (n : Nat) (v6 : Int32) (v7 : Int32) (σ : Mem) (H : Heap) (locs : List Loc) (ls : Array Slot), PW G σ H → va_S (AA G) s.heap H locs → lv_has ls 8 [(0, .ref (ga G k0z)), (2, .int p2), (3, .int p3), (4, .int (1 : Int32)), (5, .int p5), (6, .int v6), (7, .int v7)] → iterF (F_X10_findOrder_89 k0z p2 p3 p5 rec1) (fun _ _ _ => none) n v6 v7 σ = some σr → W p l e RM_X10_findOrder s m args below meth c H locs 0 0 (MQ below (QG G none σr) args s 0 0 (AA G)) (F0 m 89 ls []) := by
  have hx := X.hx
  have hb := X.hb
  intro n
  induction n with
  | zero => intro v6 v7 σ H locs ls hP hS hl h; exact nnone (α := Mem) h
  | succ n ih2 =>
    intro v6 v7 σ H locs ls hP hS hl h
    have h : F_X10_findOrder_89 k0z p2 p3 p5 rec1 (iterF (F_X10_findOrder_89 k0z p2 p3 p5 rec1) (fun _ _ _ => none) n) v6 v7 σ = some _ := h
    unfold F_X10_findOrder_89 at h
    refine lv_iload_n (pc := 89) hx hb dX10_findOrder_89 rfl (lv_at hl 2 rfl) ?_
    refine lv_iload (pc := 90) hx hb dX10_findOrder_90 (lv_at hl 6 rfl) ?_
    refine lv_ishr (pc := 92) hx hb dX10_findOrder_92 ?_
    refine lv_iconst (pc := 93) (v := 1) hx hb dX10_findOrder_93 (by decide) ?_
    refine lv_iand (pc := 94) hx hb dX10_findOrder_94 ?_
    refine lv_iconst (pc := 95) (v := 1) hx hb dX10_findOrder_95 (by decide) ?_
    refine lv_icmp_eq (pc := 96) (tgt := 104) hx hb dX10_findOrder_96 (by decide) (fun c6 => ?_) (fun c6 => ?_)
    · have h := ipos c6 h
      refine lv_iload (pc := 104) hx hb dX10_findOrder_104 (lv_at hl 5 rfl) ?_
      refine lv_iload_n (pc := 106) hx hb dX10_findOrder_106 rfl (lv_at hl 2 rfl) ?_
      refine lv_iload (pc := 107) hx hb dX10_findOrder_107 (lv_at hl 6 rfl) ?_
      refine lv_ishr (pc := 109) hx hb dX10_findOrder_109 ?_
      refine lv_iconst (pc := 110) (v := 1) hx hb dX10_findOrder_110 (by decide) ?_
      refine lv_iand (pc := 111) hx hb dX10_findOrder_111 ?_
      refine lv_iconst (pc := 112) (v := 1) hx hb dX10_findOrder_112 (by decide) ?_
      refine lv_icmp_ne (pc := 113) (tgt := 120) hx hb dX10_findOrder_113 (by decide) (fun c7 => ?_) (fun c7 => ?_)
      · have h := ineg c7 h
        refine lv_iconst (pc := 120) (v := 1) hx hb dX10_findOrder_120 (by decide) ?_
        refine lv_isub (pc := 121) hx hb dX10_findOrder_121 ?_
        refine lv_istore (pc := 122) (lv' := [(6, .int (v6 - (1 : Int32))), (0, .ref (ga G k0z)), (2, .int p2), (3, .int p3), (4, .int (1 : Int32)), (5, .int p5), (7, .int v7)]) hx hb dX10_findOrder_122 hl (by decide) rfl (fun ls hl => ?_)
        refine lv_iinc (pc := 124) (v := (v7 + (1 : Int32))) (lv' := [(7, .int (v7 + (1 : Int32))), (6, .int (v6 - (1 : Int32))), (0, .ref (ga G k0z)), (2, .int p2), (3, .int p3), (4, .int (1 : Int32)), (5, .int p5)]) hx hb dX10_findOrder_124 hl (k := 6) rfl (congrArg (fun z => v7 + z) (by decide)) (by decide) rfl (fun ls hl => ?_)
        refine lv_goto (pc := 127) (tgt := 89) hx hb dX10_findOrder_127 (by decide) ?_
        exact ih2 _ _ _ _ _ _ hP hS (lv_sub hl [2, 3, 4, 5, 6, 1, 0] rfl) h
      · have h := ipos c7 h
        refine lv_iconst (pc := 116) (v := 0) hx hb dX10_findOrder_116 (by decide) ?_
        refine lv_goto (pc := 117) (tgt := 121) hx hb dX10_findOrder_117 (by decide) ?_
        refine lv_isub (pc := 121) hx hb dX10_findOrder_121 ?_
        refine lv_istore (pc := 122) (lv' := [(6, .int (v6 - (0 : Int32))), (0, .ref (ga G k0z)), (2, .int p2), (3, .int p3), (4, .int (1 : Int32)), (5, .int p5), (7, .int v7)]) hx hb dX10_findOrder_122 hl (by decide) rfl (fun ls hl => ?_)
        refine lv_iinc (pc := 124) (v := (v7 + (1 : Int32))) (lv' := [(7, .int (v7 + (1 : Int32))), (6, .int (v6 - (0 : Int32))), (0, .ref (ga G k0z)), (2, .int p2), (3, .int p3), (4, .int (1 : Int32)), (5, .int p5)]) hx hb dX10_findOrder_124 hl (k := 6) rfl (congrArg (fun z => v7 + z) (by decide)) (by decide) rfl (fun ls hl => ?_)
        refine lv_goto (pc := 127) (tgt := 89) hx hb dX10_findOrder_127 (by decide) ?_
        exact ih2 _ _ _ _ _ _ hP hS (lv_sub hl [2, 3, 4, 5, 6, 1, 0] rfl) h
    · have h := ineg c6 h
      refine lv_iload (pc := 99) hx hb dX10_findOrder_99 (lv_at hl 5 rfl) ?_
      refine lv_if_le (pc := 101) (tgt := 130) hx hb dX10_findOrder_101 (by decide) (fun c8 => ?_) (fun c8 => ?_)
      · have h := ipos c8 h
        refine lv_iload_n (pc := 130) hx hb dX10_findOrder_130 rfl (lv_at hl 2 rfl) ?_
        refine lv_iconst (pc := 131) (v := 1) hx hb dX10_findOrder_131 (by decide) ?_
        refine lv_iload (pc := 132) hx hb dX10_findOrder_132 (lv_at hl 6 rfl) ?_
        refine lv_ishl (pc := 134) hx hb dX10_findOrder_134 ?_
        refine lv_ior (pc := 135) hx hb dX10_findOrder_135 ?_
        refine lv_istore_n (pc := 136) (lv' := [(3, .int (p3 ||| ((1 : Int32) <<< (v7 &&& 31)))), (0, .ref (ga G k0z)), (2, .int p2), (4, .int (1 : Int32)), (5, .int p5), (6, .int v6), (7, .int v7)]) hx hb dX10_findOrder_136 rfl hl (by decide) rfl (fun ls hl => ?_)
        refine lv_aload_n (pc := 137) hx hb dX10_findOrder_137 rfl (lv_at hl 1 rfl) ?_
        refine gt_X10_80 X hP hz0 dX10_findOrder_138 ?_
        refine lv_iload (pc := 141) hx hb dX10_findOrder_141 (lv_at hl 4 rfl) ?_
        refine lv_aload_n (pc := 143) hx hb dX10_findOrder_143 rfl (lv_at hl 1 rfl) ?_
        refine gt_X10_77 X hP hz0 dX10_findOrder_144 ?_
        refine lv_iload (pc := 147) hx hb dX10_findOrder_147 (lv_at hl 6 rfl) ?_
        obtain ⟨j9, hj10, h⟩ := bnd1 h
        refine r_iald (pc := 149) X hP (kf_10_free hz0).1 hj10 dX10_findOrder_149 ?_
        obtain ⟨j11, hj12, h⟩ := bnd1 h
        obtain ⟨σ13, e14, h⟩ := bnd1 h
        refine r_iast (pc := 150) X hP hS (kf_10_order hz0).1 hj12 dX10_findOrder_150 (fun H locs hP hS => ?_)
        rw [Option.some.inj e14] at hP
        refine lv_iinc (pc := 151) (v := (p5 + (1 : Int32))) (lv' := [(5, .int (p5 + (1 : Int32))), (3, .int (p3 ||| ((1 : Int32) <<< (v7 &&& 31)))), (0, .ref (ga G k0z)), (2, .int p2), (4, .int (1 : Int32)), (6, .int v6), (7, .int v7)]) hx hb dX10_findOrder_151 hl (k := 4) rfl (congrArg (fun z => p5 + z) (by decide)) (by decide) rfl (fun ls hl => ?_)
        refine lv_goto (pc := 154) (tgt := 35) hx hb dX10_findOrder_154 (by decide) ?_
        exact ih1 _ _ _ _ _ _ _ _ hP hS (lv_sub hl [2, 3, 1, 4, 0] rfl) h
      · have h := ineg c8 h
        refine lv_iload (pc := 104) hx hb dX10_findOrder_104 (lv_at hl 5 rfl) ?_
        refine lv_iload_n (pc := 106) hx hb dX10_findOrder_106 rfl (lv_at hl 2 rfl) ?_
        refine lv_iload (pc := 107) hx hb dX10_findOrder_107 (lv_at hl 6 rfl) ?_
        refine lv_ishr (pc := 109) hx hb dX10_findOrder_109 ?_
        refine lv_iconst (pc := 110) (v := 1) hx hb dX10_findOrder_110 (by decide) ?_
        refine lv_iand (pc := 111) hx hb dX10_findOrder_111 ?_
        refine lv_iconst (pc := 112) (v := 1) hx hb dX10_findOrder_112 (by decide) ?_
        refine lv_icmp_ne (pc := 113) (tgt := 120) hx hb dX10_findOrder_113 (by decide) (fun c15 => ?_) (fun c15 => ?_)
        · have h := ineg c15 h
          refine lv_iconst (pc := 120) (v := 1) hx hb dX10_findOrder_120 (by decide) ?_
          refine lv_isub (pc := 121) hx hb dX10_findOrder_121 ?_
          refine lv_istore (pc := 122) (lv' := [(6, .int (v6 - (1 : Int32))), (0, .ref (ga G k0z)), (2, .int p2), (3, .int p3), (4, .int (1 : Int32)), (5, .int p5), (7, .int v7)]) hx hb dX10_findOrder_122 hl (by decide) rfl (fun ls hl => ?_)
          refine lv_iinc (pc := 124) (v := (v7 + (1 : Int32))) (lv' := [(7, .int (v7 + (1 : Int32))), (6, .int (v6 - (1 : Int32))), (0, .ref (ga G k0z)), (2, .int p2), (3, .int p3), (4, .int (1 : Int32)), (5, .int p5)]) hx hb dX10_findOrder_124 hl (k := 6) rfl (congrArg (fun z => v7 + z) (by decide)) (by decide) rfl (fun ls hl => ?_)
          refine lv_goto (pc := 127) (tgt := 89) hx hb dX10_findOrder_127 (by decide) ?_
          exact ih2 _ _ _ _ _ _ hP hS (lv_sub hl [2, 3, 4, 5, 6, 1, 0] rfl) h
        · have h := ipos c15 h
          refine lv_iconst (pc := 116) (v := 0) hx hb dX10_findOrder_116 (by decide) ?_
          refine lv_goto (pc := 117) (tgt := 121) hx hb dX10_findOrder_117 (by decide) ?_
          refine lv_isub (pc := 121) hx hb dX10_findOrder_121 ?_
          refine lv_istore (pc := 122) (lv' := [(6, .int (v6 - (0 : Int32))), (0, .ref (ga G k0z)), (2, .int p2), (3, .int p3), (4, .int (1 : Int32)), (5, .int p5), (7, .int v7)]) hx hb dX10_findOrder_122 hl (by decide) rfl (fun ls hl => ?_)
          refine lv_iinc (pc := 124) (v := (v7 + (1 : Int32))) (lv' := [(7, .int (v7 + (1 : Int32))), (6, .int (v6 - (0 : Int32))), (0, .ref (ga G k0z)), (2, .int p2), (3, .int p3), (4, .int (1 : Int32)), (5, .int p5)]) hx hb dX10_findOrder_124 hl (k := 6) rfl (congrArg (fun z => v7 + z) (by decide)) (by decide) rfl (fun ls hl => ?_)
          refine lv_goto (pc := 127) (tgt := 89) hx hb dX10_findOrder_127 (by decide) ?_
          exact ih2 _ _ _ _ _ _ hP hS (lv_sub hl [2, 3, 4, 5, 6, 1, 0] rfl) h
set_option maxHeartbeats 4000000 in
set_option maxRecDepth 100000 in
theorem w_X10_findOrder_89x1 {l : Launch} {G : Gh} {p : Program} {e : Env} {s : State} {m : MethodId} {args : Array Value} {below : List Frame} {meth : Method} {c : Code} (X : Cx G p s m args meth c prog_12_method_69_code RX10 8 none) {k0z : Nat} {p2 : Int32} {p3 : Int32} {p4 : Int32} {p5 : Int32} (hz0 : kd k0z = 10) {σr : Mem} {rec1 : Int32 → Int32 → Int32 → Int32 → Mem → Option Mem} (ih1 : ∀ (v2 : Int32) (v3 : Int32) (v4 : Int32) (v5 : Int32) (σ : Mem) (H : Heap) (locs : List Loc) (ls : Array Slot), PW G σ H → va_S (AA G) s.heap H locs → lv_has ls 8 [(0, .ref (ga G k0z)), (2, .int v2), (3, .int v3), (4, .int v4), (5, .int v5)] → rec1 v2 v3 v4 v5 σ = some σr → W p l e RM_X10_findOrder s m args below meth c H locs 0 0 (MQ below (QG G none σr) args s 0 0 (AA G)) (F0 m 35 ls [])) : ∀ (n : Nat) (v6 : Int32) (v7 : Int32) (σ : Mem) (H : Heap) (locs : List Loc) (ls : Array Slot), PW G σ H → va_S (AA G) s.heap H locs → lv_has ls 8 [(0, .ref (ga G k0z)), (2, .int p2), (3, .int p3), (4, .int p4), (5, .int p5), (6, .int v6), (7, .int v7)] → iterF (F_X10_findOrder_89x1 k0z p2 p3 p4 p5 rec1) (fun _ _ _ => none) n v6 v7 σ = some σr → W p l e RM_X10_findOrder s m args below meth c H locs 0 0 (MQ below (QG G none σr) args s 0 0 (AA G)) (F0 m 89 ls []) := by
  have hx := X.hx
  have hb := X.hb
  intro n
  induction n with
  | zero => intro v6 v7 σ H locs ls hP hS hl h; exact nnone (α := Mem) h
  | succ n ih2 =>
    intro v6 v7 σ H locs ls hP hS hl h
    have h : F_X10_findOrder_89x1 k0z p2 p3 p4 p5 rec1 (iterF (F_X10_findOrder_89x1 k0z p2 p3 p4 p5 rec1) (fun _ _ _ => none) n) v6 v7 σ = some _ := h
    unfold F_X10_findOrder_89x1 at h
    refine lv_iload_n (pc := 89) hx hb dX10_findOrder_89 rfl (lv_at hl 2 rfl) ?_
    refine lv_iload (pc := 90) hx hb dX10_findOrder_90 (lv_at hl 6 rfl) ?_
    refine lv_ishr (pc := 92) hx hb dX10_findOrder_92 ?_
    refine lv_iconst (pc := 93) (v := 1) hx hb dX10_findOrder_93 (by decide) ?_
    refine lv_iand (pc := 94) hx hb dX10_findOrder_94 ?_
    refine lv_iconst (pc := 95) (v := 1) hx hb dX10_findOrder_95 (by decide) ?_
    refine lv_icmp_eq (pc := 96) (tgt := 104) hx hb dX10_findOrder_96 (by decide) (fun c17 => ?_) (fun c17 => ?_)
    · have h := ipos c17 h
      refine lv_iload (pc := 104) hx hb dX10_findOrder_104 (lv_at hl 5 rfl) ?_
      refine lv_iload_n (pc := 106) hx hb dX10_findOrder_106 rfl (lv_at hl 2 rfl) ?_
      refine lv_iload (pc := 107) hx hb dX10_findOrder_107 (lv_at hl 6 rfl) ?_
      refine lv_ishr (pc := 109) hx hb dX10_findOrder_109 ?_
      refine lv_iconst (pc := 110) (v := 1) hx hb dX10_findOrder_110 (by decide) ?_
      refine lv_iand (pc := 111) hx hb dX10_findOrder_111 ?_
      refine lv_iconst (pc := 112) (v := 1) hx hb dX10_findOrder_112 (by decide) ?_
      refine lv_icmp_ne (pc := 113) (tgt := 120) hx hb dX10_findOrder_113 (by decide) (fun c18 => ?_) (fun c18 => ?_)
      · have h := ineg c18 h
        refine lv_iconst (pc := 120) (v := 1) hx hb dX10_findOrder_120 (by decide) ?_
        refine lv_isub (pc := 121) hx hb dX10_findOrder_121 ?_
        refine lv_istore (pc := 122) (lv' := [(6, .int (v6 - (1 : Int32))), (0, .ref (ga G k0z)), (2, .int p2), (3, .int p3), (4, .int p4), (5, .int p5), (7, .int v7)]) hx hb dX10_findOrder_122 hl (by decide) rfl (fun ls hl => ?_)
        refine lv_iinc (pc := 124) (v := (v7 + (1 : Int32))) (lv' := [(7, .int (v7 + (1 : Int32))), (6, .int (v6 - (1 : Int32))), (0, .ref (ga G k0z)), (2, .int p2), (3, .int p3), (4, .int p4), (5, .int p5)]) hx hb dX10_findOrder_124 hl (k := 6) rfl (congrArg (fun z => v7 + z) (by decide)) (by decide) rfl (fun ls hl => ?_)
        refine lv_goto (pc := 127) (tgt := 89) hx hb dX10_findOrder_127 (by decide) ?_
        exact ih2 _ _ _ _ _ _ hP hS (lv_sub hl [2, 3, 4, 5, 6, 1, 0] rfl) h
      · have h := ipos c18 h
        refine lv_iconst (pc := 116) (v := 0) hx hb dX10_findOrder_116 (by decide) ?_
        refine lv_goto (pc := 117) (tgt := 121) hx hb dX10_findOrder_117 (by decide) ?_
        refine lv_isub (pc := 121) hx hb dX10_findOrder_121 ?_
        refine lv_istore (pc := 122) (lv' := [(6, .int (v6 - (0 : Int32))), (0, .ref (ga G k0z)), (2, .int p2), (3, .int p3), (4, .int p4), (5, .int p5), (7, .int v7)]) hx hb dX10_findOrder_122 hl (by decide) rfl (fun ls hl => ?_)
        refine lv_iinc (pc := 124) (v := (v7 + (1 : Int32))) (lv' := [(7, .int (v7 + (1 : Int32))), (6, .int (v6 - (0 : Int32))), (0, .ref (ga G k0z)), (2, .int p2), (3, .int p3), (4, .int p4), (5, .int p5)]) hx hb dX10_findOrder_124 hl (k := 6) rfl (congrArg (fun z => v7 + z) (by decide)) (by decide) rfl (fun ls hl => ?_)
        refine lv_goto (pc := 127) (tgt := 89) hx hb dX10_findOrder_127 (by decide) ?_
        exact ih2 _ _ _ _ _ _ hP hS (lv_sub hl [2, 3, 4, 5, 6, 1, 0] rfl) h
    · have h := ineg c17 h
      refine lv_iload (pc := 99) hx hb dX10_findOrder_99 (lv_at hl 5 rfl) ?_
      refine lv_if_le (pc := 101) (tgt := 130) hx hb dX10_findOrder_101 (by decide) (fun c19 => ?_) (fun c19 => ?_)
      · have h := ipos c19 h
        refine lv_iload_n (pc := 130) hx hb dX10_findOrder_130 rfl (lv_at hl 2 rfl) ?_
        refine lv_iconst (pc := 131) (v := 1) hx hb dX10_findOrder_131 (by decide) ?_
        refine lv_iload (pc := 132) hx hb dX10_findOrder_132 (lv_at hl 6 rfl) ?_
        refine lv_ishl (pc := 134) hx hb dX10_findOrder_134 ?_
        refine lv_ior (pc := 135) hx hb dX10_findOrder_135 ?_
        refine lv_istore_n (pc := 136) (lv' := [(3, .int (p3 ||| ((1 : Int32) <<< (v7 &&& 31)))), (0, .ref (ga G k0z)), (2, .int p2), (4, .int p4), (5, .int p5), (6, .int v6), (7, .int v7)]) hx hb dX10_findOrder_136 rfl hl (by decide) rfl (fun ls hl => ?_)
        refine lv_aload_n (pc := 137) hx hb dX10_findOrder_137 rfl (lv_at hl 1 rfl) ?_
        refine gt_X10_80 X hP hz0 dX10_findOrder_138 ?_
        refine lv_iload (pc := 141) hx hb dX10_findOrder_141 (lv_at hl 4 rfl) ?_
        refine lv_aload_n (pc := 143) hx hb dX10_findOrder_143 rfl (lv_at hl 1 rfl) ?_
        refine gt_X10_77 X hP hz0 dX10_findOrder_144 ?_
        refine lv_iload (pc := 147) hx hb dX10_findOrder_147 (lv_at hl 6 rfl) ?_
        obtain ⟨j20, hj21, h⟩ := bnd1 h
        refine r_iald (pc := 149) X hP (kf_10_free hz0).1 hj21 dX10_findOrder_149 ?_
        obtain ⟨j22, hj23, h⟩ := bnd1 h
        obtain ⟨σ24, e25, h⟩ := bnd1 h
        refine r_iast (pc := 150) X hP hS (kf_10_order hz0).1 hj23 dX10_findOrder_150 (fun H locs hP hS => ?_)
        rw [Option.some.inj e25] at hP
        refine lv_iinc (pc := 151) (v := (p5 + (1 : Int32))) (lv' := [(5, .int (p5 + (1 : Int32))), (3, .int (p3 ||| ((1 : Int32) <<< (v7 &&& 31)))), (0, .ref (ga G k0z)), (2, .int p2), (4, .int p4), (6, .int v6), (7, .int v7)]) hx hb dX10_findOrder_151 hl (k := 4) rfl (congrArg (fun z => p5 + z) (by decide)) (by decide) rfl (fun ls hl => ?_)
        refine lv_goto (pc := 154) (tgt := 35) hx hb dX10_findOrder_154 (by decide) ?_
        exact ih1 _ _ _ _ _ _ _ _ hP hS (lv_sub hl [2, 3, 1, 4, 0] rfl) h
      · have h := ineg c19 h
        refine lv_iload (pc := 104) hx hb dX10_findOrder_104 (lv_at hl 5 rfl) ?_
        refine lv_iload_n (pc := 106) hx hb dX10_findOrder_106 rfl (lv_at hl 2 rfl) ?_
        refine lv_iload (pc := 107) hx hb dX10_findOrder_107 (lv_at hl 6 rfl) ?_
        refine lv_ishr (pc := 109) hx hb dX10_findOrder_109 ?_
        refine lv_iconst (pc := 110) (v := 1) hx hb dX10_findOrder_110 (by decide) ?_
        refine lv_iand (pc := 111) hx hb dX10_findOrder_111 ?_
        refine lv_iconst (pc := 112) (v := 1) hx hb dX10_findOrder_112 (by decide) ?_
        refine lv_icmp_ne (pc := 113) (tgt := 120) hx hb dX10_findOrder_113 (by decide) (fun c26 => ?_) (fun c26 => ?_)
        · have h := ineg c26 h
          refine lv_iconst (pc := 120) (v := 1) hx hb dX10_findOrder_120 (by decide) ?_
          refine lv_isub (pc := 121) hx hb dX10_findOrder_121 ?_
          refine lv_istore (pc := 122) (lv' := [(6, .int (v6 - (1 : Int32))), (0, .ref (ga G k0z)), (2, .int p2), (3, .int p3), (4, .int p4), (5, .int p5), (7, .int v7)]) hx hb dX10_findOrder_122 hl (by decide) rfl (fun ls hl => ?_)
          refine lv_iinc (pc := 124) (v := (v7 + (1 : Int32))) (lv' := [(7, .int (v7 + (1 : Int32))), (6, .int (v6 - (1 : Int32))), (0, .ref (ga G k0z)), (2, .int p2), (3, .int p3), (4, .int p4), (5, .int p5)]) hx hb dX10_findOrder_124 hl (k := 6) rfl (congrArg (fun z => v7 + z) (by decide)) (by decide) rfl (fun ls hl => ?_)
          refine lv_goto (pc := 127) (tgt := 89) hx hb dX10_findOrder_127 (by decide) ?_
          exact ih2 _ _ _ _ _ _ hP hS (lv_sub hl [2, 3, 4, 5, 6, 1, 0] rfl) h
        · have h := ipos c26 h
          refine lv_iconst (pc := 116) (v := 0) hx hb dX10_findOrder_116 (by decide) ?_
          refine lv_goto (pc := 117) (tgt := 121) hx hb dX10_findOrder_117 (by decide) ?_
          refine lv_isub (pc := 121) hx hb dX10_findOrder_121 ?_
          refine lv_istore (pc := 122) (lv' := [(6, .int (v6 - (0 : Int32))), (0, .ref (ga G k0z)), (2, .int p2), (3, .int p3), (4, .int p4), (5, .int p5), (7, .int v7)]) hx hb dX10_findOrder_122 hl (by decide) rfl (fun ls hl => ?_)
          refine lv_iinc (pc := 124) (v := (v7 + (1 : Int32))) (lv' := [(7, .int (v7 + (1 : Int32))), (6, .int (v6 - (0 : Int32))), (0, .ref (ga G k0z)), (2, .int p2), (3, .int p3), (4, .int p4), (5, .int p5)]) hx hb dX10_findOrder_124 hl (k := 6) rfl (congrArg (fun z => v7 + z) (by decide)) (by decide) rfl (fun ls hl => ?_)
          refine lv_goto (pc := 127) (tgt := 89) hx hb dX10_findOrder_127 (by decide) ?_
          exact ih2 _ _ _ _ _ _ hP hS (lv_sub hl [2, 3, 4, 5, 6, 1, 0] rfl) h
set_option maxHeartbeats 4000000 in
set_option maxRecDepth 100000 in
theorem w_X10_findOrder_35 {l : Launch} {G : Gh} {p : Program} {e : Env} {s : State} {m : MethodId} {args : Array Value} {below : List Frame} {meth : Method} {c : Code} (X : Cx G p s m args meth c prog_12_method_69_code RX10 8 none) {k0z : Nat} (hz0 : kd k0z = 10) {σr : Mem} : ∀ (n : Nat) (v2 : Int32) (v3 : Int32) (v4 : Int32) (v5 : Int32) (σ : Mem) (H : Heap) (locs : List Loc) (ls : Array Slot), PW G σ H → va_S (AA G) s.heap H locs → lv_has ls 8 [(0, .ref (ga G k0z)), (2, .int v2), (3, .int v3), (4, .int v4), (5, .int v5)] → iterF (F_X10_findOrder_35 k0z) (fun _ _ _ _ _ => none) n v2 v3 v4 v5 σ = some σr → W p l e RM_X10_findOrder s m args below meth c H locs 0 0 (MQ below (QG G none σr) args s 0 0 (AA G)) (F0 m 35 ls []) := by
  have hx := X.hx
  have hb := X.hb
  intro n
  induction n with
  | zero => intro v2 v3 v4 v5 σ H locs ls hP hS hl h; exact nnone (α := Mem) h
  | succ n ih1 =>
    intro v2 v3 v4 v5 σ H locs ls hP hS hl h
    have h : F_X10_findOrder_35 k0z (iterF (F_X10_findOrder_35 k0z) (fun _ _ _ _ _ => none) n) v2 v3 v4 v5 σ = some _ := h
    unfold F_X10_findOrder_35 at h
    refine lv_iload (pc := 35) hx hb dX10_findOrder_35 (lv_at hl 4 rfl) ?_
    refine lv_aload_n (pc := 37) hx hb dX10_findOrder_37 rfl (lv_at hl 0 rfl) ?_
    refine gt_X10_341 X hP hz0 dX10_findOrder_38 ?_
    refine lv_icmp_ge (pc := 41) (tgt := 157) hx hb dX10_findOrder_41 (by decide) (fun c2 => ?_) (fun c2 => ?_)
    · have h := ipos c2 h
      obtain rfl := Option.some.inj h
      exact r_vret X hP hS dX10_findOrder_157
    · have h := ineg c2 h
      refine lv_iload_n (pc := 44) hx hb dX10_findOrder_44 rfl (lv_at hl 1 rfl) ?_
      refine lv_iload (pc := 45) hx hb dX10_findOrder_45 (lv_at hl 3 rfl) ?_
      obtain ⟨g3, h⟩ := grd_inv h
      refine lv_idiv (pc := 47) hx hb dX10_findOrder_47 g3 ?_
      refine lv_istore (pc := 48) (lv' := [(6, .int (v2 / v4)), (0, .ref (ga G k0z)), (2, .int v2), (3, .int v3), (4, .int v4), (5, .int v5)]) hx hb dX10_findOrder_48 hl (by decide) rfl (fun ls hl => ?_)
      refine lv_iload_n (pc := 50) hx hb dX10_findOrder_50 rfl (lv_at hl 2 rfl) ?_
      refine lv_iload (pc := 51) hx hb dX10_findOrder_51 (lv_at hl 4 rfl) ?_
      obtain ⟨g4, h⟩ := grd_inv h
      refine lv_irem (pc := 53) hx hb dX10_findOrder_53 g4 ?_
      refine lv_istore_n (pc := 54) (lv' := [(2, .int (v2 - v2 / v4 * v4)), (6, .int (v2 / v4)), (0, .ref (ga G k0z)), (3, .int v3), (4, .int v4), (5, .int v5)]) hx hb dX10_findOrder_54 rfl hl (by decide) rfl (fun ls hl => ?_)
      refine lv_aload_n (pc := 55) hx hb dX10_findOrder_55 rfl (lv_at hl 2 rfl) ?_
      refine gt_X10_341 X hP hz0 dX10_findOrder_56 ?_
      refine lv_iconst (pc := 59) (v := 1) hx hb dX10_findOrder_59 (by decide) ?_
      refine lv_isub (pc := 60) hx hb dX10_findOrder_60 ?_
      refine lv_iload (pc := 61) hx hb dX10_findOrder_61 (lv_at hl 5 rfl) ?_
      refine lv_isub (pc := 63) hx hb dX10_findOrder_63 ?_
      refine lv_iconst (pc := 64) (v := 1) hx hb dX10_findOrder_64 (by decide) ?_
      refine lv_icmp_le (pc := 65) (tgt := 83) hx hb dX10_findOrder_65 (by decide) (fun c5 => ?_) (fun c5 => ?_)
      · have h := ipos c5 h
        refine lv_iconst (pc := 83) (v := 1) hx hb dX10_findOrder_83 (by decide) ?_
        refine lv_istore (pc := 84) (lv' := [(4, .int (1 : Int32)), (2, .int (v2 - v2 / v4 * v4)), (6, .int (v2 / v4)), (0, .ref (ga G k0z)), (3, .int v3), (5, .int v5)]) hx hb dX10_findOrder_84 hl (by decide) rfl (fun ls hl => ?_)
        refine lv_iconst (pc := 86) (v := 0) hx hb dX10_findOrder_86 (by decide) ?_
        refine lv_istore (pc := 87) (lv' := [(7, .int (0 : Int32)), (4, .int (1 : Int32)), (2, .int (v2 - v2 / v4 * v4)), (6, .int (v2 / v4)), (0, .ref (ga G k0z)), (3, .int v3), (5, .int v5)]) hx hb dX10_findOrder_87 hl (by decide) rfl (fun ls hl => ?_)
        exact w_X10_findOrder_89 X  hz0 ih1 FU _ _ _ _ _ _ hP hS (lv_sub hl [4, 2, 5, 1, 6, 3, 0] rfl) h
      · have h := ineg c5 h
        refine lv_iload (pc := 68) hx hb dX10_findOrder_68 (lv_at hl 4 rfl) ?_
        refine lv_aload_n (pc := 70) hx hb dX10_findOrder_70 rfl (lv_at hl 2 rfl) ?_
        refine gt_X10_341 X hP hz0 dX10_findOrder_71 ?_
        refine lv_iconst (pc := 74) (v := 1) hx hb dX10_findOrder_74 (by decide) ?_
        refine lv_isub (pc := 75) hx hb dX10_findOrder_75 ?_
        refine lv_iload (pc := 76) hx hb dX10_findOrder_76 (lv_at hl 5 rfl) ?_
        refine lv_isub (pc := 78) hx hb dX10_findOrder_78 ?_
        obtain ⟨g16, h⟩ := grd_inv h
        refine lv_idiv (pc := 79) hx hb dX10_findOrder_79 g16 ?_
        refine lv_goto (pc := 80) (tgt := 84) hx hb dX10_findOrder_80 (by decide) ?_
        refine lv_istore (pc := 84) (lv' := [(4, .int (v4 / (((gI σ k0z 42) - (1 : Int32)) - v5))), (2, .int (v2 - v2 / v4 * v4)), (6, .int (v2 / v4)), (0, .ref (ga G k0z)), (3, .int v3), (5, .int v5)]) hx hb dX10_findOrder_84 hl (by decide) rfl (fun ls hl => ?_)
        refine lv_iconst (pc := 86) (v := 0) hx hb dX10_findOrder_86 (by decide) ?_
        refine lv_istore (pc := 87) (lv' := [(7, .int (0 : Int32)), (4, .int (v4 / (((gI σ k0z 42) - (1 : Int32)) - v5))), (2, .int (v2 - v2 / v4 * v4)), (6, .int (v2 / v4)), (0, .ref (ga G k0z)), (3, .int v3), (5, .int v5)]) hx hb dX10_findOrder_87 hl (by decide) rfl (fun ls hl => ?_)
        exact w_X10_findOrder_89x1 X  hz0 ih1 FU _ _ _ _ _ _ hP hS (lv_sub hl [4, 2, 5, 1, 6, 3, 0] rfl) h
set_option maxHeartbeats 4000000 in
set_option maxRecDepth 100000 in
theorem w_X10_findOrder_10 {l : Launch} {G : Gh} {p : Program} {e : Env} {s : State} {m : MethodId} {args : Array Value} {below : List Frame} {meth : Method} {c : Code} (X : Cx G p s m args meth c prog_12_method_69_code RX10 8 none) {k0z : Nat} {p2 : Int32} (hz0 : kd k0z = 10) {σr : Mem} : ∀ (n : Nat) (v4 : Int32) (v5 : Int32) (σ : Mem) (H : Heap) (locs : List Loc) (ls : Array Slot), PW G σ H → va_S (AA G) s.heap H locs → lv_has ls 8 [(0, .ref (ga G k0z)), (2, .int p2), (3, .int (0 : Int32)), (4, .int v4), (5, .int v5)] → iterF (F_X10_findOrder_10 k0z p2) (fun _ _ _ => none) n v4 v5 σ = some σr → W p l e RM_X10_findOrder s m args below meth c H locs 0 0 (MQ below (QG G none σr) args s 0 0 (AA G)) (F0 m 10 ls []) := by
  have hx := X.hx
  have hb := X.hb
  intro n
  induction n with
  | zero => intro v4 v5 σ H locs ls hP hS hl h; exact nnone (α := Mem) h
  | succ n ih1 =>
    intro v4 v5 σ H locs ls hP hS hl h
    have h : F_X10_findOrder_10 k0z p2 (iterF (F_X10_findOrder_10 k0z p2) (fun _ _ _ => none) n) v4 v5 σ = some _ := h
    unfold F_X10_findOrder_10 at h
    refine lv_iload (pc := 10) hx hb dX10_findOrder_10 (lv_at hl 4 rfl) ?_
    refine lv_aload_n (pc := 12) hx hb dX10_findOrder_12 rfl (lv_at hl 0 rfl) ?_
    refine gt_X10_341 X hP hz0 dX10_findOrder_13 ?_
    refine lv_icmp_ge (pc := 16) (tgt := 32) hx hb dX10_findOrder_16 (by decide) (fun c1 => ?_) (fun c1 => ?_)
    · have h := ipos c1 h
      refine lv_iconst (pc := 32) (v := 0) hx hb dX10_findOrder_32 (by decide) ?_
      refine lv_istore (pc := 33) (lv' := [(5, .int (0 : Int32)), (0, .ref (ga G k0z)), (2, .int p2), (3, .int (0 : Int32)), (4, .int v4)]) hx hb dX10_findOrder_33 hl (by decide) rfl (fun ls hl => ?_)
      exact w_X10_findOrder_35 X  hz0  FU _ _ _ _ _ _ _ _ hP hS (lv_sub hl [1, 2, 3, 4, 0] rfl) h
    · have h := ineg c1 h
      refine lv_iload (pc := 19) hx hb dX10_findOrder_19 (lv_at hl 3 rfl) ?_
      refine lv_iload (pc := 21) hx hb dX10_findOrder_21 (lv_at hl 4 rfl) ?_
      refine lv_imul (pc := 23) hx hb dX10_findOrder_23 ?_
      refine lv_istore (pc := 24) (lv' := [(4, .int (v4 * v5)), (0, .ref (ga G k0z)), (2, .int p2), (3, .int (0 : Int32)), (5, .int v5)]) hx hb dX10_findOrder_24 hl (by decide) rfl (fun ls hl => ?_)
      refine lv_iinc (pc := 26) (v := (v5 + (1 : Int32))) (lv' := [(5, .int (v5 + (1 : Int32))), (4, .int (v4 * v5)), (0, .ref (ga G k0z)), (2, .int p2), (3, .int (0 : Int32))]) hx hb dX10_findOrder_26 hl (k := 4) rfl (congrArg (fun z => v5 + z) (by decide)) (by decide) rfl (fun ls hl => ?_)
      refine lv_goto (pc := 29) (tgt := 10) hx hb dX10_findOrder_29 (by decide) ?_
      exact ih1 _ _ _ _ _ _ hP hS (lv_sub hl [2, 3, 4, 1, 0] rfl) h
set_option maxHeartbeats 4000000 in
set_option maxRecDepth 100000 in
theorem c_X10_findOrder (l : Launch) (G : Gh) {k0 : Nat} {a1 : Int32} {σ : Mem} {σr : Mem} (hk0 : kd k0 = 10) (h : f_X10_findOrder k0 a1 σ = some σr) : Met l yX10_findOrder [Cond.code yX10_findOrder prog_12_method_69_code 8 none] RM_X10_findOrder (va_Pc [.ref (ga G k0), .int a1] (Pre G σ)) (QG G none σr) 0 0 (AA G) := by
  refine ct_of (by decide) (fun p e s m below meth c X hP => ?_)
  have hx := X.hx
  have hb := X.hb
  have hS : va_S (AA G) s.heap s.heap [] := va_S.rf
  have hl := lv_entry ([.ref (ga G k0), .int a1]) (n := 8) (Nat.le_of_ble_eq_true rfl)
  rw [lg_entry_eq]
  generalize (lg_sl ([.ref (ga G k0), .int a1]) ++ List.replicate (8 - (lg_sl ([.ref (ga G k0), .int a1])).length) Slot.unset).toArray = ls at hl ⊢
  have hl : lv_has ls 8 [(0, .ref (ga G k0)), (1, .int a1)] := hl
  unfold f_X10_findOrder at h
  refine lv_iload_n (pc := 0) hx hb dX10_findOrder_0 rfl (lv_at hl 1 rfl) ?_
  refine lv_istore_n (pc := 1) (lv' := [(2, .int a1), (0, .ref (ga G k0)), (1, .int a1)]) hx hb dX10_findOrder_1 rfl hl (by decide) rfl (fun ls hl => ?_)
  refine lv_iconst (pc := 2) (v := 0) hx hb dX10_findOrder_2 (by decide) ?_
  refine lv_istore_n (pc := 3) (lv' := [(3, .int (0 : Int32)), (2, .int a1), (0, .ref (ga G k0)), (1, .int a1)]) hx hb dX10_findOrder_3 rfl hl (by decide) rfl (fun ls hl => ?_)
  refine lv_iconst (pc := 4) (v := 1) hx hb dX10_findOrder_4 (by decide) ?_
  refine lv_istore (pc := 5) (lv' := [(4, .int (1 : Int32)), (3, .int (0 : Int32)), (2, .int a1), (0, .ref (ga G k0)), (1, .int a1)]) hx hb dX10_findOrder_5 hl (by decide) rfl (fun ls hl => ?_)
  refine lv_iconst (pc := 7) (v := 2) hx hb dX10_findOrder_7 (by decide) ?_
  refine lv_istore (pc := 8) (lv' := [(5, .int (2 : Int32)), (4, .int (1 : Int32)), (3, .int (0 : Int32)), (2, .int a1), (0, .ref (ga G k0)), (1, .int a1)]) hx hb dX10_findOrder_8 hl (by decide) rfl (fun ls hl => ?_)
  exact w_X10_findOrder_10 X  hk0  FU _ _ _ _ _ _ hP hS (lv_sub hl [4, 3, 2, 1, 0] rfl) h
