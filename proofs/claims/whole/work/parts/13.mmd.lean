def F_X10_act_21 (k0z : Nat) (v1 : Int32) (v2 : Int32) (v3 : Int32) (σ : Mem) : Option (Int32 × Mem) :=
  bd2 (f_X10_in v2 (0 : Int32) (3 : Int32) σ) fun r9 σ7 =>
  if r9 = (0 : Int32) then
    some ((0 : Int32), σ7)
  else
    bd2 (f_X10_in (-1 : Int32) (0 : Int32) (5 : Int32) σ7) fun r13 σ11 =>
    if r13 = (0 : Int32) then
      some ((0 : Int32), σ11)
    else
      bd1 (some (pI σ11 k0z 52 (-1 : Int32))) fun σ15 =>
      bd1 (ixo (k0z + 28) v1) fun j17 =>
      bd1 (some (pI σ15 k0z 53 (gI σ15 (k0z + 28) j17))) fun σ19 =>
      bd1 (ixo (k0z + 8) (gI σ19 k0z 53)) fun j21 =>
      bd1 (some (pI σ19 k0z 54 (gI σ19 (k0z + 8) j21))) fun σ23 =>
      bd1 (some (pI σ23 k0z 57 (0 : Int32))) fun σ25 =>
      if v2 = (0 : Int32) then
        bd2 (f_X10_callsIt k0z v3 σ25) fun r44 σ42 =>
        if (gI σ42 k0z 57) = (0 : Int32) then
          some (r44, σ42)
        else
          some ((-15 : Int32), σ42)
      else
        if v2 = (1 : Int32) then
          bd2 (f_X10_hearsIt k0z v3 σ25) fun r40 σ38 =>
          if (gI σ38 k0z 57) = (0 : Int32) then
            some (r40, σ38)
          else
            some ((-15 : Int32), σ38)
        else
          if v2 = (2 : Int32) then
            bd2 (f_X10_sharesIt k0z v3 σ25) fun r36 σ34 =>
            if (gI σ34 k0z 57) = (0 : Int32) then
              some (r36, σ34)
            else
              some ((-15 : Int32), σ34)
          else
            bd2 (f_X10_tellsIt k0z v3 σ25) fun r32 σ30 =>
            if (gI σ30 k0z 57) = (0 : Int32) then
              some (r32, σ30)
            else
              some ((-15 : Int32), σ30)
def F_X10_act_21x1 (k0z : Nat) (v1 : Int32) (v2 : Int32) (v3 : Int32) (w0 : Int32) (σ : Mem) : Option (Int32 × Mem) :=
  bd2 (f_X10_in v2 (0 : Int32) (3 : Int32) σ) fun r51 σ49 =>
  if r51 = (0 : Int32) then
    some ((0 : Int32), σ49)
  else
    bd2 (f_X10_in w0 (0 : Int32) (5 : Int32) σ49) fun r55 σ53 =>
    if r55 = (0 : Int32) then
      some ((0 : Int32), σ53)
    else
      bd1 (some (pI σ53 k0z 52 w0)) fun σ57 =>
      bd1 (ixo (k0z + 28) v1) fun j59 =>
      bd1 (some (pI σ57 k0z 53 (gI σ57 (k0z + 28) j59))) fun σ61 =>
      bd1 (ixo (k0z + 8) (gI σ61 k0z 53)) fun j63 =>
      bd1 (some (pI σ61 k0z 54 (gI σ61 (k0z + 8) j63))) fun σ65 =>
      bd1 (some (pI σ65 k0z 57 (0 : Int32))) fun σ67 =>
      if v2 = (0 : Int32) then
        bd2 (f_X10_callsIt k0z v3 σ67) fun r86 σ84 =>
        if (gI σ84 k0z 57) = (0 : Int32) then
          some (r86, σ84)
        else
          some ((-15 : Int32), σ84)
      else
        if v2 = (1 : Int32) then
          bd2 (f_X10_hearsIt k0z v3 σ67) fun r82 σ80 =>
          if (gI σ80 k0z 57) = (0 : Int32) then
            some (r82, σ80)
          else
            some ((-15 : Int32), σ80)
        else
          if v2 = (2 : Int32) then
            bd2 (f_X10_sharesIt k0z v3 σ67) fun r78 σ76 =>
            if (gI σ76 k0z 57) = (0 : Int32) then
              some (r78, σ76)
            else
              some ((-15 : Int32), σ76)
          else
            bd2 (f_X10_tellsIt k0z v3 σ67) fun r74 σ72 =>
            if (gI σ72 k0z 57) = (0 : Int32) then
              some (r74, σ72)
            else
              some ((-15 : Int32), σ72)
def f_X10_act (k0 : Nat) (a1 : Int32) (a2 : Int32) (a3 : Int32) (σ : Mem) : Option (Int32 × Mem) :=
  bd1 (some (pI σ k0 56 (0 : Int32))) fun σ1 =>
  bd2 (f_X10_isShelf a1 σ1) fun r5 σ3 =>
  if r5 = (0 : Int32) then
    F_X10_act_21 k0 a1 a2 a3 σ3
  else
    bd2 (f_X10_kindOn k0 a1 σ3) fun r48 σ46 =>
    F_X10_act_21x1 k0 a1 a2 a3 r48 σ46
abbrev RM_X10_act : Room := { frames := 8, cells := 0, slots := 0, locals := 170 }
set_option maxHeartbeats 4000000 in
set_option maxRecDepth 100000 in
theorem w_X10_act_21 {l : Launch} {G : Gh} {p : Program} {e : Env} {s : State} {m : MethodId} {args : Array Value} {below : List Frame} {meth : Method} {c : Code} (X : Cx G p s m args meth c prog_12_method_103_code RX10 6 (some .int)) {k0z : Nat} (hz0 : kd k0z = 10) {rr : Int32} {σr : Mem} : ∀ (v1 : Int32) (v2 : Int32) (v3 : Int32) (σ : Mem) (H : Heap) (locs : List Loc) (ls : Array Slot), PW G σ H → va_S (AA G) s.heap H locs → lv_has ls 6 [(0, .ref (ga G k0z)), (1, .int v1), (2, .int v2), (3, .int v3)] → F_X10_act_21 k0z v1 v2 v3 σ = some (rr, σr) → W p l e RM_X10_act s m args below meth c H locs 0 0 (MQ below (QG G (some (.int rr)) σr) args s 0 0 (AA G)) (F0 m 21 ls [.int (-1 : Int32)]) := by
  have hx := X.hx
  have hb := X.hb
  intro v1 v2 v3 σ H locs ls hP hS hl h
  unfold F_X10_act_21 at h
  refine lv_istore (pc := 21) (lv' := [(4, .int (-1 : Int32)), (0, .ref (ga G k0z)), (1, .int v1), (2, .int v2), (3, .int v3)]) hx hb dX10_act_21 hl (by decide) rfl (fun ls hl => ?_)
  refine lv_iload_n (pc := 23) hx hb dX10_act_23 rfl (lv_at hl 3 rfl) ?_
  refine lv_iconst (pc := 24) (v := 0) hx hb dX10_act_24 (by decide) ?_
  refine lv_iconst (pc := 25) (v := 3) hx hb dX10_act_25 (by decide) ?_
  obtain ⟨r9, σ7, e8, h⟩ := bnd2 h
  refine cl_X10_120 X hP hS (As := [.int v2, .int (0 : Int32), .int (3 : Int32)]) (rest := []) (c_X10_in l G  e8) ⟨rfl, rfl, Nat.le_of_ble_eq_true rfl, Nat.le_of_ble_eq_true rfl⟩ rfl hl.1 rfl (Nat.le_of_ble_eq_true rfl) ⟨Nat.zero_le _, Nat.zero_le _⟩ (pc := 26) dX10_act_26 (fun H locs hP hS => ?_)
  change W p l e _ s m _ below meth c H locs _ _ _ (F0 m (26 + 3) ls (.int r9 :: []))
  refine lv_if_eq (pc := 29) (tgt := 42) hx hb dX10_act_29 (by decide) (fun c10 => ?_) (fun c10 => ?_)
  · have h := ipos c10 h
    refine lv_iconst (pc := 42) (v := 0) hx hb dX10_act_42 (by decide) ?_
    obtain ⟨rfl, rfl⟩ := inj2 h
    exact r_iret X hP hS dX10_act_43
  · have h := ineg c10 h
    refine lv_iload (pc := 32) hx hb dX10_act_32 (lv_at hl 0 rfl) ?_
    refine lv_iconst (pc := 34) (v := 0) hx hb dX10_act_34 (by decide) ?_
    refine lv_iconst (pc := 35) (v := 5) hx hb dX10_act_35 (by decide) ?_
    obtain ⟨r13, σ11, e12, h⟩ := bnd2 h
    refine cl_X10_120 X hP hS (As := [.int (-1 : Int32), .int (0 : Int32), .int (5 : Int32)]) (rest := []) (c_X10_in l G  e12) ⟨rfl, rfl, Nat.le_of_ble_eq_true rfl, Nat.le_of_ble_eq_true rfl⟩ rfl hl.1 rfl (Nat.le_of_ble_eq_true rfl) ⟨Nat.zero_le _, Nat.zero_le _⟩ (pc := 36) dX10_act_36 (fun H locs hP hS => ?_)
    change W p l e _ s m _ below meth c H locs _ _ _ (F0 m (36 + 3) ls (.int r13 :: []))
    refine lv_if_ne (pc := 39) (tgt := 44) hx hb dX10_act_39 (by decide) (fun c14 => ?_) (fun c14 => ?_)
    · have h := ineg c14 h
      refine lv_aload_n (pc := 44) hx hb dX10_act_44 rfl (lv_at hl 1 rfl) ?_
      refine lv_iload (pc := 45) hx hb dX10_act_45 (lv_at hl 0 rfl) ?_
      obtain ⟨σ15, e16, h⟩ := bnd1 h
      refine pt_X10_390 X hP hS hz0 dX10_act_47 (fun H locs hP hS => ?_)
      rw [Option.some.inj e16] at hP
      refine lv_aload_n (pc := 50) hx hb dX10_act_50 rfl (lv_at hl 1 rfl) ?_
      refine lv_aload_n (pc := 51) hx hb dX10_act_51 rfl (lv_at hl 1 rfl) ?_
      refine gt_X10_102 X hP hz0 dX10_act_52 ?_
      refine lv_iload_n (pc := 55) hx hb dX10_act_55 rfl (lv_at hl 2 rfl) ?_
      obtain ⟨j17, hj18, h⟩ := bnd1 h
      refine r_iald (pc := 56) X hP (kf_10_heldNumber hz0).1 hj18 dX10_act_56 ?_
      obtain ⟨σ19, e20, h⟩ := bnd1 h
      refine pt_X10_384 X hP hS hz0 dX10_act_57 (fun H locs hP hS => ?_)
      rw [Option.some.inj e20] at hP
      refine lv_aload_n (pc := 60) hx hb dX10_act_60 rfl (lv_at hl 1 rfl) ?_
      refine lv_aload_n (pc := 61) hx hb dX10_act_61 rfl (lv_at hl 1 rfl) ?_
      refine gt_X10_35 X hP hz0 dX10_act_62 ?_
      refine lv_aload_n (pc := 65) hx hb dX10_act_65 rfl (lv_at hl 1 rfl) ?_
      refine gt_X10_384 X hP hz0 dX10_act_66 ?_
      obtain ⟨j21, hj22, h⟩ := bnd1 h
      refine r_iald (pc := 69) X hP (kf_10_own hz0).1 hj22 dX10_act_69 ?_
      obtain ⟨σ23, e24, h⟩ := bnd1 h
      refine pt_X10_402 X hP hS hz0 dX10_act_70 (fun H locs hP hS => ?_)
      rw [Option.some.inj e24] at hP
      refine lv_aload_n (pc := 73) hx hb dX10_act_73 rfl (lv_at hl 1 rfl) ?_
      refine lv_iconst (pc := 74) (v := 0) hx hb dX10_act_74 (by decide) ?_
      obtain ⟨σ25, e26, h⟩ := bnd1 h
      refine pt_X10_405 X hP hS hz0 (by decide) dX10_act_75 (fun H locs hP hS => ?_)
      rw [Option.some.inj e26] at hP
      refine lv_iload_n (pc := 78) hx hb dX10_act_78 rfl (lv_at hl 3 rfl) ?_
      refine lv_if_ne (pc := 79) (tgt := 90) hx hb dX10_act_79 (by decide) (fun c27 => ?_) (fun c27 => ?_)
      · have h := ineg c27 h
        refine lv_iload_n (pc := 90) hx hb dX10_act_90 rfl (lv_at hl 3 rfl) ?_
        refine lv_iconst (pc := 91) (v := 1) hx hb dX10_act_91 (by decide) ?_
        refine lv_icmp_ne (pc := 92) (tgt := 103) hx hb dX10_act_92 (by decide) (fun c28 => ?_) (fun c28 => ?_)
        · have h := ineg c28 h
          refine lv_iload_n (pc := 103) hx hb dX10_act_103 rfl (lv_at hl 3 rfl) ?_
          refine lv_iconst (pc := 104) (v := 2) hx hb dX10_act_104 (by decide) ?_
          refine lv_icmp_ne (pc := 105) (tgt := 116) hx hb dX10_act_105 (by decide) (fun c29 => ?_) (fun c29 => ?_)
          · have h := ineg c29 h
            refine lv_aload_n (pc := 116) hx hb dX10_act_116 rfl (lv_at hl 1 rfl) ?_
            refine lv_iload_n (pc := 117) hx hb dX10_act_117 rfl (lv_at hl 4 rfl) ?_
            obtain ⟨r32, σ30, e31, h⟩ := bnd2 h
            refine cl_X10_420 X hP hS hz0 (As := [.int v3]) (rest := []) (c_X10_tellsIt l G hz0 e31) ⟨rfl, rfl, Nat.le_of_ble_eq_true rfl, Nat.le_of_ble_eq_true rfl⟩ rfl hl.1 rfl (Nat.le_of_ble_eq_true rfl) ⟨Nat.zero_le _, Nat.zero_le _⟩ (pc := 118) dX10_act_118 (fun H locs hP hS => ?_)
            change W p l e _ s m _ below meth c H locs _ _ _ (F0 m (118 + 3) ls (.int r32 :: []))
            refine lv_istore (pc := 121) (lv' := [(5, .int r32), (4, .int (-1 : Int32)), (0, .ref (ga G k0z)), (1, .int v1), (2, .int v2), (3, .int v3)]) hx hb dX10_act_121 hl (by decide) rfl (fun ls hl => ?_)
            refine lv_aload_n (pc := 123) hx hb dX10_act_123 rfl (lv_at hl 2 rfl) ?_
            refine gt_X10_405 X hP hz0 dX10_act_124 ?_
            refine lv_if_eq (pc := 127) (tgt := 135) hx hb dX10_act_127 (by decide) (fun c33 => ?_) (fun c33 => ?_)
            · have h := ipos c33 h
              refine lv_iload (pc := 135) hx hb dX10_act_135 (lv_at hl 0 rfl) ?_
              obtain ⟨rfl, rfl⟩ := inj2 h
              exact r_iret X hP hS dX10_act_137
            · have h := ineg c33 h
              refine lv_bipush (pc := 130) (v := (-15)) hx hb dX10_act_130 (by decide) ?_
              refine lv_goto (pc := 132) (tgt := 137) hx hb dX10_act_132 (by decide) ?_
              obtain ⟨rfl, rfl⟩ := inj2 h
              exact r_iret X hP hS dX10_act_137
          · have h := ipos c29 h
            refine lv_aload_n (pc := 108) hx hb dX10_act_108 rfl (lv_at hl 1 rfl) ?_
            refine lv_iload_n (pc := 109) hx hb dX10_act_109 rfl (lv_at hl 4 rfl) ?_
            obtain ⟨r36, σ34, e35, h⟩ := bnd2 h
            refine cl_X10_417 X hP hS hz0 (As := [.int v3]) (rest := []) (c_X10_sharesIt l G hz0 e35) ⟨rfl, rfl, Nat.le_of_ble_eq_true rfl, Nat.le_of_ble_eq_true rfl⟩ rfl hl.1 rfl (Nat.le_of_ble_eq_true rfl) ⟨Nat.zero_le _, Nat.zero_le _⟩ (pc := 110) dX10_act_110 (fun H locs hP hS => ?_)
            change W p l e _ s m _ below meth c H locs _ _ _ (F0 m (110 + 3) ls (.int r36 :: []))
            refine lv_goto (pc := 113) (tgt := 121) hx hb dX10_act_113 (by decide) ?_
            refine lv_istore (pc := 121) (lv' := [(5, .int r36), (4, .int (-1 : Int32)), (0, .ref (ga G k0z)), (1, .int v1), (2, .int v2), (3, .int v3)]) hx hb dX10_act_121 hl (by decide) rfl (fun ls hl => ?_)
            refine lv_aload_n (pc := 123) hx hb dX10_act_123 rfl (lv_at hl 2 rfl) ?_
            refine gt_X10_405 X hP hz0 dX10_act_124 ?_
            refine lv_if_eq (pc := 127) (tgt := 135) hx hb dX10_act_127 (by decide) (fun c37 => ?_) (fun c37 => ?_)
            · have h := ipos c37 h
              refine lv_iload (pc := 135) hx hb dX10_act_135 (lv_at hl 0 rfl) ?_
              obtain ⟨rfl, rfl⟩ := inj2 h
              exact r_iret X hP hS dX10_act_137
            · have h := ineg c37 h
              refine lv_bipush (pc := 130) (v := (-15)) hx hb dX10_act_130 (by decide) ?_
              refine lv_goto (pc := 132) (tgt := 137) hx hb dX10_act_132 (by decide) ?_
              obtain ⟨rfl, rfl⟩ := inj2 h
              exact r_iret X hP hS dX10_act_137
        · have h := ipos c28 h
          refine lv_aload_n (pc := 95) hx hb dX10_act_95 rfl (lv_at hl 1 rfl) ?_
          refine lv_iload_n (pc := 96) hx hb dX10_act_96 rfl (lv_at hl 4 rfl) ?_
          obtain ⟨r40, σ38, e39, h⟩ := bnd2 h
          refine cl_X10_411 X hP hS hz0 (As := [.int v3]) (rest := []) (c_X10_hearsIt l G hz0 e39) ⟨rfl, rfl, Nat.le_of_ble_eq_true rfl, Nat.le_of_ble_eq_true rfl⟩ rfl hl.1 rfl (Nat.le_of_ble_eq_true rfl) ⟨Nat.zero_le _, Nat.zero_le _⟩ (pc := 97) dX10_act_97 (fun H locs hP hS => ?_)
          change W p l e _ s m _ below meth c H locs _ _ _ (F0 m (97 + 3) ls (.int r40 :: []))
          refine lv_goto (pc := 100) (tgt := 121) hx hb dX10_act_100 (by decide) ?_
          refine lv_istore (pc := 121) (lv' := [(5, .int r40), (4, .int (-1 : Int32)), (0, .ref (ga G k0z)), (1, .int v1), (2, .int v2), (3, .int v3)]) hx hb dX10_act_121 hl (by decide) rfl (fun ls hl => ?_)
          refine lv_aload_n (pc := 123) hx hb dX10_act_123 rfl (lv_at hl 2 rfl) ?_
          refine gt_X10_405 X hP hz0 dX10_act_124 ?_
          refine lv_if_eq (pc := 127) (tgt := 135) hx hb dX10_act_127 (by decide) (fun c41 => ?_) (fun c41 => ?_)
          · have h := ipos c41 h
            refine lv_iload (pc := 135) hx hb dX10_act_135 (lv_at hl 0 rfl) ?_
            obtain ⟨rfl, rfl⟩ := inj2 h
            exact r_iret X hP hS dX10_act_137
          · have h := ineg c41 h
            refine lv_bipush (pc := 130) (v := (-15)) hx hb dX10_act_130 (by decide) ?_
            refine lv_goto (pc := 132) (tgt := 137) hx hb dX10_act_132 (by decide) ?_
            obtain ⟨rfl, rfl⟩ := inj2 h
            exact r_iret X hP hS dX10_act_137
      · have h := ipos c27 h
        refine lv_aload_n (pc := 82) hx hb dX10_act_82 rfl (lv_at hl 1 rfl) ?_
        refine lv_iload_n (pc := 83) hx hb dX10_act_83 rfl (lv_at hl 4 rfl) ?_
        obtain ⟨r44, σ42, e43, h⟩ := bnd2 h
        refine cl_X10_396 X hP hS hz0 (As := [.int v3]) (rest := []) (c_X10_callsIt l G hz0 e43) ⟨rfl, rfl, Nat.le_of_ble_eq_true rfl, Nat.le_of_ble_eq_true rfl⟩ rfl hl.1 rfl (Nat.le_of_ble_eq_true rfl) ⟨Nat.zero_le _, Nat.zero_le _⟩ (pc := 84) dX10_act_84 (fun H locs hP hS => ?_)
        change W p l e _ s m _ below meth c H locs _ _ _ (F0 m (84 + 3) ls (.int r44 :: []))
        refine lv_goto (pc := 87) (tgt := 121) hx hb dX10_act_87 (by decide) ?_
        refine lv_istore (pc := 121) (lv' := [(5, .int r44), (4, .int (-1 : Int32)), (0, .ref (ga G k0z)), (1, .int v1), (2, .int v2), (3, .int v3)]) hx hb dX10_act_121 hl (by decide) rfl (fun ls hl => ?_)
        refine lv_aload_n (pc := 123) hx hb dX10_act_123 rfl (lv_at hl 2 rfl) ?_
        refine gt_X10_405 X hP hz0 dX10_act_124 ?_
        refine lv_if_eq (pc := 127) (tgt := 135) hx hb dX10_act_127 (by decide) (fun c45 => ?_) (fun c45 => ?_)
        · have h := ipos c45 h
          refine lv_iload (pc := 135) hx hb dX10_act_135 (lv_at hl 0 rfl) ?_
          obtain ⟨rfl, rfl⟩ := inj2 h
          exact r_iret X hP hS dX10_act_137
        · have h := ineg c45 h
          refine lv_bipush (pc := 130) (v := (-15)) hx hb dX10_act_130 (by decide) ?_
          refine lv_goto (pc := 132) (tgt := 137) hx hb dX10_act_132 (by decide) ?_
          obtain ⟨rfl, rfl⟩ := inj2 h
          exact r_iret X hP hS dX10_act_137
    · have h := ipos c14 h
      refine lv_iconst (pc := 42) (v := 0) hx hb dX10_act_42 (by decide) ?_
      obtain ⟨rfl, rfl⟩ := inj2 h
      exact r_iret X hP hS dX10_act_43
set_option maxHeartbeats 4000000 in
set_option maxRecDepth 100000 in
theorem w_X10_act_21x1 {l : Launch} {G : Gh} {p : Program} {e : Env} {s : State} {m : MethodId} {args : Array Value} {below : List Frame} {meth : Method} {c : Code} (X : Cx G p s m args meth c prog_12_method_103_code RX10 6 (some .int)) {k0z : Nat} (hz0 : kd k0z = 10) {rr : Int32} {σr : Mem} : ∀ (v1 : Int32) (v2 : Int32) (v3 : Int32) (w0 : Int32) (σ : Mem) (H : Heap) (locs : List Loc) (ls : Array Slot), PW G σ H → va_S (AA G) s.heap H locs → lv_has ls 6 [(0, .ref (ga G k0z)), (1, .int v1), (2, .int v2), (3, .int v3)] → F_X10_act_21x1 k0z v1 v2 v3 w0 σ = some (rr, σr) → W p l e RM_X10_act s m args below meth c H locs 0 0 (MQ below (QG G (some (.int rr)) σr) args s 0 0 (AA G)) (F0 m 21 ls [.int w0]) := by
  have hx := X.hx
  have hb := X.hb
  intro v1 v2 v3 w0 σ H locs ls hP hS hl h
  unfold F_X10_act_21x1 at h
  refine lv_istore (pc := 21) (lv' := [(4, .int w0), (0, .ref (ga G k0z)), (1, .int v1), (2, .int v2), (3, .int v3)]) hx hb dX10_act_21 hl (by decide) rfl (fun ls hl => ?_)
  refine lv_iload_n (pc := 23) hx hb dX10_act_23 rfl (lv_at hl 3 rfl) ?_
  refine lv_iconst (pc := 24) (v := 0) hx hb dX10_act_24 (by decide) ?_
  refine lv_iconst (pc := 25) (v := 3) hx hb dX10_act_25 (by decide) ?_
  obtain ⟨r51, σ49, e50, h⟩ := bnd2 h
  refine cl_X10_120 X hP hS (As := [.int v2, .int (0 : Int32), .int (3 : Int32)]) (rest := []) (c_X10_in l G  e50) ⟨rfl, rfl, Nat.le_of_ble_eq_true rfl, Nat.le_of_ble_eq_true rfl⟩ rfl hl.1 rfl (Nat.le_of_ble_eq_true rfl) ⟨Nat.zero_le _, Nat.zero_le _⟩ (pc := 26) dX10_act_26 (fun H locs hP hS => ?_)
  change W p l e _ s m _ below meth c H locs _ _ _ (F0 m (26 + 3) ls (.int r51 :: []))
  refine lv_if_eq (pc := 29) (tgt := 42) hx hb dX10_act_29 (by decide) (fun c52 => ?_) (fun c52 => ?_)
  · have h := ipos c52 h
    refine lv_iconst (pc := 42) (v := 0) hx hb dX10_act_42 (by decide) ?_
    obtain ⟨rfl, rfl⟩ := inj2 h
    exact r_iret X hP hS dX10_act_43
  · have h := ineg c52 h
    refine lv_iload (pc := 32) hx hb dX10_act_32 (lv_at hl 0 rfl) ?_
    refine lv_iconst (pc := 34) (v := 0) hx hb dX10_act_34 (by decide) ?_
    refine lv_iconst (pc := 35) (v := 5) hx hb dX10_act_35 (by decide) ?_
    obtain ⟨r55, σ53, e54, h⟩ := bnd2 h
    refine cl_X10_120 X hP hS (As := [.int w0, .int (0 : Int32), .int (5 : Int32)]) (rest := []) (c_X10_in l G  e54) ⟨rfl, rfl, Nat.le_of_ble_eq_true rfl, Nat.le_of_ble_eq_true rfl⟩ rfl hl.1 rfl (Nat.le_of_ble_eq_true rfl) ⟨Nat.zero_le _, Nat.zero_le _⟩ (pc := 36) dX10_act_36 (fun H locs hP hS => ?_)
    change W p l e _ s m _ below meth c H locs _ _ _ (F0 m (36 + 3) ls (.int r55 :: []))
    refine lv_if_ne (pc := 39) (tgt := 44) hx hb dX10_act_39 (by decide) (fun c56 => ?_) (fun c56 => ?_)
    · have h := ineg c56 h
      refine lv_aload_n (pc := 44) hx hb dX10_act_44 rfl (lv_at hl 1 rfl) ?_
      refine lv_iload (pc := 45) hx hb dX10_act_45 (lv_at hl 0 rfl) ?_
      obtain ⟨σ57, e58, h⟩ := bnd1 h
      refine pt_X10_390 X hP hS hz0 dX10_act_47 (fun H locs hP hS => ?_)
      rw [Option.some.inj e58] at hP
      refine lv_aload_n (pc := 50) hx hb dX10_act_50 rfl (lv_at hl 1 rfl) ?_
      refine lv_aload_n (pc := 51) hx hb dX10_act_51 rfl (lv_at hl 1 rfl) ?_
      refine gt_X10_102 X hP hz0 dX10_act_52 ?_
      refine lv_iload_n (pc := 55) hx hb dX10_act_55 rfl (lv_at hl 2 rfl) ?_
      obtain ⟨j59, hj60, h⟩ := bnd1 h
      refine r_iald (pc := 56) X hP (kf_10_heldNumber hz0).1 hj60 dX10_act_56 ?_
      obtain ⟨σ61, e62, h⟩ := bnd1 h
      refine pt_X10_384 X hP hS hz0 dX10_act_57 (fun H locs hP hS => ?_)
      rw [Option.some.inj e62] at hP
      refine lv_aload_n (pc := 60) hx hb dX10_act_60 rfl (lv_at hl 1 rfl) ?_
      refine lv_aload_n (pc := 61) hx hb dX10_act_61 rfl (lv_at hl 1 rfl) ?_
      refine gt_X10_35 X hP hz0 dX10_act_62 ?_
      refine lv_aload_n (pc := 65) hx hb dX10_act_65 rfl (lv_at hl 1 rfl) ?_
      refine gt_X10_384 X hP hz0 dX10_act_66 ?_
      obtain ⟨j63, hj64, h⟩ := bnd1 h
      refine r_iald (pc := 69) X hP (kf_10_own hz0).1 hj64 dX10_act_69 ?_
      obtain ⟨σ65, e66, h⟩ := bnd1 h
      refine pt_X10_402 X hP hS hz0 dX10_act_70 (fun H locs hP hS => ?_)
      rw [Option.some.inj e66] at hP
      refine lv_aload_n (pc := 73) hx hb dX10_act_73 rfl (lv_at hl 1 rfl) ?_
      refine lv_iconst (pc := 74) (v := 0) hx hb dX10_act_74 (by decide) ?_
      obtain ⟨σ67, e68, h⟩ := bnd1 h
      refine pt_X10_405 X hP hS hz0 (by decide) dX10_act_75 (fun H locs hP hS => ?_)
      rw [Option.some.inj e68] at hP
      refine lv_iload_n (pc := 78) hx hb dX10_act_78 rfl (lv_at hl 3 rfl) ?_
      refine lv_if_ne (pc := 79) (tgt := 90) hx hb dX10_act_79 (by decide) (fun c69 => ?_) (fun c69 => ?_)
      · have h := ineg c69 h
        refine lv_iload_n (pc := 90) hx hb dX10_act_90 rfl (lv_at hl 3 rfl) ?_
        refine lv_iconst (pc := 91) (v := 1) hx hb dX10_act_91 (by decide) ?_
        refine lv_icmp_ne (pc := 92) (tgt := 103) hx hb dX10_act_92 (by decide) (fun c70 => ?_) (fun c70 => ?_)
        · have h := ineg c70 h
          refine lv_iload_n (pc := 103) hx hb dX10_act_103 rfl (lv_at hl 3 rfl) ?_
          refine lv_iconst (pc := 104) (v := 2) hx hb dX10_act_104 (by decide) ?_
          refine lv_icmp_ne (pc := 105) (tgt := 116) hx hb dX10_act_105 (by decide) (fun c71 => ?_) (fun c71 => ?_)
          · have h := ineg c71 h
            refine lv_aload_n (pc := 116) hx hb dX10_act_116 rfl (lv_at hl 1 rfl) ?_
            refine lv_iload_n (pc := 117) hx hb dX10_act_117 rfl (lv_at hl 4 rfl) ?_
            obtain ⟨r74, σ72, e73, h⟩ := bnd2 h
            refine cl_X10_420 X hP hS hz0 (As := [.int v3]) (rest := []) (c_X10_tellsIt l G hz0 e73) ⟨rfl, rfl, Nat.le_of_ble_eq_true rfl, Nat.le_of_ble_eq_true rfl⟩ rfl hl.1 rfl (Nat.le_of_ble_eq_true rfl) ⟨Nat.zero_le _, Nat.zero_le _⟩ (pc := 118) dX10_act_118 (fun H locs hP hS => ?_)
            change W p l e _ s m _ below meth c H locs _ _ _ (F0 m (118 + 3) ls (.int r74 :: []))
            refine lv_istore (pc := 121) (lv' := [(5, .int r74), (4, .int w0), (0, .ref (ga G k0z)), (1, .int v1), (2, .int v2), (3, .int v3)]) hx hb dX10_act_121 hl (by decide) rfl (fun ls hl => ?_)
            refine lv_aload_n (pc := 123) hx hb dX10_act_123 rfl (lv_at hl 2 rfl) ?_
            refine gt_X10_405 X hP hz0 dX10_act_124 ?_
            refine lv_if_eq (pc := 127) (tgt := 135) hx hb dX10_act_127 (by decide) (fun c75 => ?_) (fun c75 => ?_)
            · have h := ipos c75 h
              refine lv_iload (pc := 135) hx hb dX10_act_135 (lv_at hl 0 rfl) ?_
              obtain ⟨rfl, rfl⟩ := inj2 h
              exact r_iret X hP hS dX10_act_137
            · have h := ineg c75 h
              refine lv_bipush (pc := 130) (v := (-15)) hx hb dX10_act_130 (by decide) ?_
              refine lv_goto (pc := 132) (tgt := 137) hx hb dX10_act_132 (by decide) ?_
              obtain ⟨rfl, rfl⟩ := inj2 h
              exact r_iret X hP hS dX10_act_137
          · have h := ipos c71 h
            refine lv_aload_n (pc := 108) hx hb dX10_act_108 rfl (lv_at hl 1 rfl) ?_
            refine lv_iload_n (pc := 109) hx hb dX10_act_109 rfl (lv_at hl 4 rfl) ?_
            obtain ⟨r78, σ76, e77, h⟩ := bnd2 h
            refine cl_X10_417 X hP hS hz0 (As := [.int v3]) (rest := []) (c_X10_sharesIt l G hz0 e77) ⟨rfl, rfl, Nat.le_of_ble_eq_true rfl, Nat.le_of_ble_eq_true rfl⟩ rfl hl.1 rfl (Nat.le_of_ble_eq_true rfl) ⟨Nat.zero_le _, Nat.zero_le _⟩ (pc := 110) dX10_act_110 (fun H locs hP hS => ?_)
            change W p l e _ s m _ below meth c H locs _ _ _ (F0 m (110 + 3) ls (.int r78 :: []))
            refine lv_goto (pc := 113) (tgt := 121) hx hb dX10_act_113 (by decide) ?_
            refine lv_istore (pc := 121) (lv' := [(5, .int r78), (4, .int w0), (0, .ref (ga G k0z)), (1, .int v1), (2, .int v2), (3, .int v3)]) hx hb dX10_act_121 hl (by decide) rfl (fun ls hl => ?_)
            refine lv_aload_n (pc := 123) hx hb dX10_act_123 rfl (lv_at hl 2 rfl) ?_
            refine gt_X10_405 X hP hz0 dX10_act_124 ?_
            refine lv_if_eq (pc := 127) (tgt := 135) hx hb dX10_act_127 (by decide) (fun c79 => ?_) (fun c79 => ?_)
            · have h := ipos c79 h
              refine lv_iload (pc := 135) hx hb dX10_act_135 (lv_at hl 0 rfl) ?_
              obtain ⟨rfl, rfl⟩ := inj2 h
              exact r_iret X hP hS dX10_act_137
            · have h := ineg c79 h
              refine lv_bipush (pc := 130) (v := (-15)) hx hb dX10_act_130 (by decide) ?_
              refine lv_goto (pc := 132) (tgt := 137) hx hb dX10_act_132 (by decide) ?_
              obtain ⟨rfl, rfl⟩ := inj2 h
              exact r_iret X hP hS dX10_act_137
        · have h := ipos c70 h
          refine lv_aload_n (pc := 95) hx hb dX10_act_95 rfl (lv_at hl 1 rfl) ?_
          refine lv_iload_n (pc := 96) hx hb dX10_act_96 rfl (lv_at hl 4 rfl) ?_
          obtain ⟨r82, σ80, e81, h⟩ := bnd2 h
          refine cl_X10_411 X hP hS hz0 (As := [.int v3]) (rest := []) (c_X10_hearsIt l G hz0 e81) ⟨rfl, rfl, Nat.le_of_ble_eq_true rfl, Nat.le_of_ble_eq_true rfl⟩ rfl hl.1 rfl (Nat.le_of_ble_eq_true rfl) ⟨Nat.zero_le _, Nat.zero_le _⟩ (pc := 97) dX10_act_97 (fun H locs hP hS => ?_)
          change W p l e _ s m _ below meth c H locs _ _ _ (F0 m (97 + 3) ls (.int r82 :: []))
          refine lv_goto (pc := 100) (tgt := 121) hx hb dX10_act_100 (by decide) ?_
          refine lv_istore (pc := 121) (lv' := [(5, .int r82), (4, .int w0), (0, .ref (ga G k0z)), (1, .int v1), (2, .int v2), (3, .int v3)]) hx hb dX10_act_121 hl (by decide) rfl (fun ls hl => ?_)
          refine lv_aload_n (pc := 123) hx hb dX10_act_123 rfl (lv_at hl 2 rfl) ?_
          refine gt_X10_405 X hP hz0 dX10_act_124 ?_
          refine lv_if_eq (pc := 127) (tgt := 135) hx hb dX10_act_127 (by decide) (fun c83 => ?_) (fun c83 => ?_)
          · have h := ipos c83 h
            refine lv_iload (pc := 135) hx hb dX10_act_135 (lv_at hl 0 rfl) ?_
            obtain ⟨rfl, rfl⟩ := inj2 h
            exact r_iret X hP hS dX10_act_137
          · have h := ineg c83 h
            refine lv_bipush (pc := 130) (v := (-15)) hx hb dX10_act_130 (by decide) ?_
            refine lv_goto (pc := 132) (tgt := 137) hx hb dX10_act_132 (by decide) ?_
            obtain ⟨rfl, rfl⟩ := inj2 h
            exact r_iret X hP hS dX10_act_137
      · have h := ipos c69 h
        refine lv_aload_n (pc := 82) hx hb dX10_act_82 rfl (lv_at hl 1 rfl) ?_
        refine lv_iload_n (pc := 83) hx hb dX10_act_83 rfl (lv_at hl 4 rfl) ?_
        obtain ⟨r86, σ84, e85, h⟩ := bnd2 h
        refine cl_X10_396 X hP hS hz0 (As := [.int v3]) (rest := []) (c_X10_callsIt l G hz0 e85) ⟨rfl, rfl, Nat.le_of_ble_eq_true rfl, Nat.le_of_ble_eq_true rfl⟩ rfl hl.1 rfl (Nat.le_of_ble_eq_true rfl) ⟨Nat.zero_le _, Nat.zero_le _⟩ (pc := 84) dX10_act_84 (fun H locs hP hS => ?_)
        change W p l e _ s m _ below meth c H locs _ _ _ (F0 m (84 + 3) ls (.int r86 :: []))
        refine lv_goto (pc := 87) (tgt := 121) hx hb dX10_act_87 (by decide) ?_
        refine lv_istore (pc := 121) (lv' := [(5, .int r86), (4, .int w0), (0, .ref (ga G k0z)), (1, .int v1), (2, .int v2), (3, .int v3)]) hx hb dX10_act_121 hl (by decide) rfl (fun ls hl => ?_)
        refine lv_aload_n (pc := 123) hx hb dX10_act_123 rfl (lv_at hl 2 rfl) ?_
        refine gt_X10_405 X hP hz0 dX10_act_124 ?_
        refine lv_if_eq (pc := 127) (tgt := 135) hx hb dX10_act_127 (by decide) (fun c87 => ?_) (fun c87 => ?_)
        · have h := ipos c87 h
          refine lv_iload (pc := 135) hx hb dX10_act_135 (lv_at hl 0 rfl) ?_
          obtain ⟨rfl, rfl⟩ := inj2 h
          exact r_iret X hP hS dX10_act_137
        · have h := ineg c87 h
          refine lv_bipush (pc := 130) (v := (-15)) hx hb dX10_act_130 (by decide) ?_
          refine lv_goto (pc := 132) (tgt := 137) hx hb dX10_act_132 (by decide) ?_
          obtain ⟨rfl, rfl⟩ := inj2 h
          exact r_iret X hP hS dX10_act_137
    · have h := ipos c56 h
      refine lv_iconst (pc := 42) (v := 0) hx hb dX10_act_42 (by decide) ?_
      obtain ⟨rfl, rfl⟩ := inj2 h
      exact r_iret X hP hS dX10_act_43
set_option maxHeartbeats 4000000 in
set_option maxRecDepth 100000 in
theorem c_X10_act (l : Launch) (G : Gh) {k0 : Nat} {a1 : Int32} {a2 : Int32} {a3 : Int32} {σ : Mem} {rr : Int32} {σr : Mem} (hk0 : kd k0 = 10) (h : f_X10_act k0 a1 a2 a3 σ = some (rr, σr)) : Met l yX10_act [Cond.code yX10_act prog_12_method_103_code 6 (some .int)] RM_X10_act (va_Pc [.ref (ga G k0), .int a1, .int a2, .int a3] (Pre G σ)) (QG G (some (.int rr)) σr) 0 0 (AA G) := by
  refine ct_of (by decide) (fun p e s m below meth c X hP => ?_)
  have hx := X.hx
  have hb := X.hb
  have hS : va_S (AA G) s.heap s.heap [] := va_S.rf
  have hl := lv_entry ([.ref (ga G k0), .int a1, .int a2, .int a3]) (n := 6) (Nat.le_of_ble_eq_true rfl)
  rw [lg_entry_eq]
  generalize (lg_sl ([.ref (ga G k0), .int a1, .int a2, .int a3]) ++ List.replicate (6 - (lg_sl ([.ref (ga G k0), .int a1, .int a2, .int a3])).length) Slot.unset).toArray = ls at hl ⊢
  have hl : lv_has ls 6 [(0, .ref (ga G k0)), (1, .int a1), (2, .int a2), (3, .int a3)] := hl
  unfold f_X10_act at h
  refine lv_aload_n (pc := 0) hx hb dX10_act_0 rfl (lv_at hl 0 rfl) ?_
  refine lv_iconst (pc := 1) (v := 0) hx hb dX10_act_1 (by decide) ?_
  obtain ⟨σ1, e2, h⟩ := bnd1 h
  refine pt_X10_378 X hP hS hk0 dX10_act_2 (fun H locs hP hS => ?_)
  rw [Option.some.inj e2] at hP
  refine lv_iload_n (pc := 5) hx hb dX10_act_5 rfl (lv_at hl 1 rfl) ?_
  obtain ⟨r5, σ3, e4, h⟩ := bnd2 h
  refine cl_X10_361 X hP hS (As := [.int a1]) (rest := []) (c_X10_isShelf l G  e4) ⟨rfl, rfl, Nat.le_of_ble_eq_true rfl, Nat.le_of_ble_eq_true rfl⟩ rfl hl.1 rfl (Nat.le_of_ble_eq_true rfl) ⟨Nat.zero_le _, Nat.zero_le _⟩ (pc := 6) dX10_act_6 (fun H locs hP hS => ?_)
  change W p l e _ s m _ below meth c H locs _ _ _ (F0 m (6 + 3) ls (.int r5 :: []))
  refine lv_if_eq (pc := 9) (tgt := 20) hx hb dX10_act_9 (by decide) (fun c6 => ?_) (fun c6 => ?_)
  · have h := ipos c6 h
    refine lv_iconst (pc := 20) (v := (-1)) hx hb dX10_act_20 (by decide) ?_
    exact w_X10_act_21 X  hk0  _ _ _ _ _ _ _ hP hS (lv_sub hl [0, 1, 2, 3] rfl) h
  · have h := ineg c6 h
    refine lv_aload_n (pc := 12) hx hb dX10_act_12 rfl (lv_at hl 0 rfl) ?_
    refine lv_iload_n (pc := 13) hx hb dX10_act_13 rfl (lv_at hl 1 rfl) ?_
    obtain ⟨r48, σ46, e47, h⟩ := bnd2 h
    refine cl_X10_372 X hP hS hk0 (As := [.int a1]) (rest := []) (c_X10_kindOn l G hk0 e47) ⟨rfl, rfl, Nat.le_of_ble_eq_true rfl, Nat.le_of_ble_eq_true rfl⟩ rfl hl.1 rfl (Nat.le_of_ble_eq_true rfl) ⟨Nat.zero_le _, Nat.zero_le _⟩ (pc := 14) dX10_act_14 (fun H locs hP hS => ?_)
    change W p l e _ s m _ below meth c H locs _ _ _ (F0 m (14 + 3) ls (.int r48 :: []))
    refine lv_goto (pc := 17) (tgt := 21) hx hb dX10_act_17 (by decide) ?_
    exact w_X10_act_21x1 X  hk0  _ _ _ _ _ _ _ _ hP hS (lv_sub hl [0, 1, 2, 3] rfl) h
def f_X10_trace (k0 : Nat) (a1 : Int32) (σ : Mem) : Option (Int32 × Mem) :=
  bd2 (f_X10_in a1 (0 : Int32) ((gI σ k0 56) - (1 : Int32)) σ) fun r3 σ1 =>
  if r3 = (0 : Int32) then
    some ((-3 : Int32), σ1)
  else
    bd1 (ixo (k0 + 30) a1) fun j5 =>
    some ((gI σ1 (k0 + 30) j5), σ1)
abbrev RM_X10_trace : Room := { frames := 1, cells := 0, slots := 0, locals := 22 }
set_option maxHeartbeats 4000000 in
set_option maxRecDepth 100000 in
theorem c_X10_trace (l : Launch) (G : Gh) {k0 : Nat} {a1 : Int32} {σ : Mem} {rr : Int32} {σr : Mem} (hk0 : kd k0 = 10) (h : f_X10_trace k0 a1 σ = some (rr, σr)) : Met l yX10_trace [Cond.code yX10_trace prog_12_method_104_code 2 (some .int)] RM_X10_trace (va_Pc [.ref (ga G k0), .int a1] (Pre G σ)) (QG G (some (.int rr)) σr) 0 0 (AA G) := by
  refine ct_of (by decide) (fun p e s m below meth c X hP => ?_)
  have hx := X.hx
  have hb := X.hb
  have hS : va_S (AA G) s.heap s.heap [] := va_S.rf
  have hl := lv_entry ([.ref (ga G k0), .int a1]) (n := 2) (Nat.le_of_ble_eq_true rfl)
  rw [lg_entry_eq]
  generalize (lg_sl ([.ref (ga G k0), .int a1]) ++ List.replicate (2 - (lg_sl ([.ref (ga G k0), .int a1])).length) Slot.unset).toArray = ls at hl ⊢
  have hl : lv_has ls 2 [(0, .ref (ga G k0)), (1, .int a1)] := hl
  unfold f_X10_trace at h
  refine lv_iload_n (pc := 0) hx hb dX10_trace_0 rfl (lv_at hl 1 rfl) ?_
  refine lv_iconst (pc := 1) (v := 0) hx hb dX10_trace_1 (by decide) ?_
  refine lv_aload_n (pc := 2) hx hb dX10_trace_2 rfl (lv_at hl 0 rfl) ?_
  refine gt_X10_378 X hP hk0 dX10_trace_3 ?_
  refine lv_iconst (pc := 6) (v := 1) hx hb dX10_trace_6 (by decide) ?_
  refine lv_isub (pc := 7) hx hb dX10_trace_7 ?_
  obtain ⟨r3, σ1, e2, h⟩ := bnd2 h
  refine cl_X10_120 X hP hS (As := [.int a1, .int (0 : Int32), .int ((gI σ k0 56) - (1 : Int32))]) (rest := []) (c_X10_in l G  e2) ⟨rfl, rfl, Nat.le_of_ble_eq_true rfl, Nat.le_of_ble_eq_true rfl⟩ rfl hl.1 rfl (Nat.le_of_ble_eq_true rfl) ⟨Nat.zero_le _, Nat.zero_le _⟩ (pc := 8) dX10_trace_8 (fun H locs hP hS => ?_)
  change W p l e _ s m _ below meth c H locs _ _ _ (F0 m (8 + 3) ls (.int r3 :: []))
  refine lv_if_eq (pc := 11) (tgt := 23) hx hb dX10_trace_11 (by decide) (fun c4 => ?_) (fun c4 => ?_)
  · have h := ipos c4 h
    refine lv_bipush (pc := 23) (v := (-3)) hx hb dX10_trace_23 (by decide) ?_
    obtain ⟨rfl, rfl⟩ := inj2 h
    exact r_iret X hP hS dX10_trace_25
  · have h := ineg c4 h
    refine lv_aload_n (pc := 14) hx hb dX10_trace_14 rfl (lv_at hl 0 rfl) ?_
    refine gt_X10_108 X hP hk0 dX10_trace_15 ?_
    refine lv_iload_n (pc := 18) hx hb dX10_trace_18 rfl (lv_at hl 1 rfl) ?_
    obtain ⟨j5, hj6, h⟩ := bnd1 h
    refine r_iald (pc := 19) X hP (kf_10_traced hk0).1 hj6 dX10_trace_19 ?_
    refine lv_goto (pc := 20) (tgt := 25) hx hb dX10_trace_20 (by decide) ?_
    obtain ⟨rfl, rfl⟩ := inj2 h
    exact r_iret X hP hS dX10_trace_25
def F_X10_many_52 (k0z : Nat) (rec1 : Int32 → Int32 → Mem → Option (Int32 × Mem)) : Int32 → Int32 → Mem → Option (Int32 × Mem) := fun v2 v3 σ =>
  if (gI σ k0z 0) ≤ v3 then
    some (v2, σ)
  else
    bd1 (ixo (k0z + 3) v3) fun j5 =>
    rec1 (v2 + (gI σ (k0z + 3) j5)) (v3 + (1 : Int32)) σ
def f_X10_many (k0 : Nat) (a1 : Int32) (σ : Mem) : Option (Int32 × Mem) :=
  if a1 = (0 : Int32) then
    some ((gI σ k0 0), σ)
  else
  if a1 = (1 : Int32) then
    some ((gI σ k0 8), σ)
  else
  if a1 = (2 : Int32) then
    iterF (F_X10_many_52 k0) (fun _ _ _ => none) FU (0 : Int32) (0 : Int32) σ
  else
  if a1 = (3 : Int32) then
    some ((gI σ k0 45), σ)
  else
  if a1 = (4 : Int32) then
    some ((gI σ k0 16), σ)
  else
  if a1 = (5 : Int32) then
    some ((gI σ k0 56), σ)
  else
  some ((-1 : Int32), σ)
abbrev RM_X10_many : Room := { frames := 0, cells := 0, slots := 0, locals := 0 }
set_option maxHeartbeats 4000000 in
set_option maxRecDepth 100000 in
theorem w_X10_many_52 {l : Launch} {G : Gh} {p : Program} {e : Env} {s : State} {m : MethodId} {args : Array Value} {below : List Frame} {meth : Method} {c : Code} (X : Cx G p s m args meth c prog_12_method_105_code RX10 4 (some .int)) {k0z : Nat} (hz0 : kd k0z = 10) {rr : Int32} {σr : Mem} : ∀ (n : Nat) (v2 : Int32) (v3 : Int32) (σ : Mem) (H : Heap) (locs : List Loc) (ls : Array Slot), PW G σ H → va_S (AA G) s.heap H locs → lv_has ls 4 [(0, .ref (ga G k0z)), (2, .int v2), (3, .int v3)] → iterF (F_X10_many_52 k0z) (fun _ _ _ => none) n v2 v3 σ = some (rr, σr) → W p l e RM_X10_many s m args below meth c H locs 0 0 (MQ below (QG G (some (.int rr)) σr) args s 0 0 (AA G)) (F0 m 52 ls []) := by
  have hx := X.hx
  have hb := X.hb
  intro n
  induction n with
  | zero => intro v2 v3 σ H locs ls hP hS hl h; exact nnone (α := (Int32 × Mem)) h
  | succ n ih1 =>
    intro v2 v3 σ H locs ls hP hS hl h
    have h : F_X10_many_52 k0z (iterF (F_X10_many_52 k0z) (fun _ _ _ => none) n) v2 v3 σ = some _ := h
    unfold F_X10_many_52 at h
    refine lv_iload_n (pc := 52) hx hb dX10_many_52 rfl (lv_at hl 2 rfl) ?_
    refine lv_aload_n (pc := 53) hx hb dX10_many_53 rfl (lv_at hl 0 rfl) ?_
    refine gt_X10_117 X hP hz0 dX10_many_54 ?_
    refine lv_icmp_ge (pc := 57) (tgt := 75) hx hb dX10_many_57 (by decide) (fun c4 => ?_) (fun c4 => ?_)
    · have h := ipos c4 h
      refine lv_iload_n (pc := 75) hx hb dX10_many_75 rfl (lv_at hl 1 rfl) ?_
      obtain ⟨rfl, rfl⟩ := inj2 h
      exact r_iret X hP hS dX10_many_76
    · have h := ineg c4 h
      refine lv_iload_n (pc := 60) hx hb dX10_many_60 rfl (lv_at hl 1 rfl) ?_
      refine lv_aload_n (pc := 61) hx hb dX10_many_61 rfl (lv_at hl 0 rfl) ?_
      refine gt_X10_16 X hP hz0 dX10_many_62 ?_
      refine lv_iload_n (pc := 65) hx hb dX10_many_65 rfl (lv_at hl 2 rfl) ?_
      obtain ⟨j5, hj6, h⟩ := bnd1 h
      refine r_iald (pc := 66) X hP (kf_10_sold hz0).1 hj6 dX10_many_66 ?_
      refine lv_iadd (pc := 67) hx hb dX10_many_67 ?_
      refine lv_istore_n (pc := 68) (lv' := [(2, .int (v2 + (gI σ (k0z + 3) j5))), (0, .ref (ga G k0z)), (3, .int v3)]) hx hb dX10_many_68 rfl hl (by decide) rfl (fun ls hl => ?_)
      refine lv_iinc (pc := 69) (v := (v3 + (1 : Int32))) (lv' := [(3, .int (v3 + (1 : Int32))), (2, .int (v2 + (gI σ (k0z + 3) j5))), (0, .ref (ga G k0z))]) hx hb dX10_many_69 hl (k := 2) rfl (congrArg (fun z => v3 + z) (by decide)) (by decide) rfl (fun ls hl => ?_)
      refine lv_goto (pc := 72) (tgt := 52) hx hb dX10_many_72 (by decide) ?_
      exact ih1 _ _ _ _ _ _ hP hS (lv_sub hl [2, 1, 0] rfl) h
set_option maxHeartbeats 4000000 in
set_option maxRecDepth 100000 in
theorem c_X10_many (l : Launch) (G : Gh) {k0 : Nat} {a1 : Int32} {σ : Mem} {rr : Int32} {σr : Mem} (hk0 : kd k0 = 10) (h : f_X10_many k0 a1 σ = some (rr, σr)) : Met l yX10_many [Cond.code yX10_many prog_12_method_105_code 4 (some .int)] RM_X10_many (va_Pc [.ref (ga G k0), .int a1] (Pre G σ)) (QG G (some (.int rr)) σr) 0 0 (AA G) := by
  refine ct_of (by decide) (fun p e s m below meth c X hP => ?_)
  have hx := X.hx
  have hb := X.hb
  have hS : va_S (AA G) s.heap s.heap [] := va_S.rf
  have hl := lv_entry ([.ref (ga G k0), .int a1]) (n := 4) (Nat.le_of_ble_eq_true rfl)
  rw [lg_entry_eq]
  generalize (lg_sl ([.ref (ga G k0), .int a1]) ++ List.replicate (4 - (lg_sl ([.ref (ga G k0), .int a1])).length) Slot.unset).toArray = ls at hl ⊢
  have hl : lv_has ls 4 [(0, .ref (ga G k0)), (1, .int a1)] := hl
  unfold f_X10_many at h
  refine lv_iconst (pc := 0) (v := 0) hx hb dX10_many_0 (by decide) ?_
  refine lv_istore_n (pc := 1) (lv' := [(2, .int (0 : Int32)), (0, .ref (ga G k0)), (1, .int a1)]) hx hb dX10_many_1 rfl hl (by decide) rfl (fun ls hl => ?_)
  refine lv_iload_n (pc := 2) hx hb dX10_many_2 rfl (lv_at hl 2 rfl) ?_
  by_cases c1 : a1 = (0 : Int32)
  · have h := ipos c1 h
    refine r_tabIn X (pc := 3) (tgt := 40) c1 dX10_many_3 (by decide) (by decide) rfl (by decide) ?_
    refine lv_aload_n (pc := 40) hx hb dX10_many_40 rfl (lv_at hl 1 rfl) ?_
    refine gt_X10_117 X hP hk0 dX10_many_41 ?_
    obtain ⟨rfl, rfl⟩ := inj2 h
    exact r_iret X hP hS dX10_many_44
  have h := ineg c1 h
  by_cases c2 : a1 = (1 : Int32)
  · have h := ipos c2 h
    refine r_tabIn X (pc := 3) (tgt := 45) c2 dX10_many_3 (by decide) (by decide) rfl (by decide) ?_
    refine lv_aload_n (pc := 45) hx hb dX10_many_45 rfl (lv_at hl 1 rfl) ?_
    refine gt_X10_128 X hP hk0 dX10_many_46 ?_
    obtain ⟨rfl, rfl⟩ := inj2 h
    exact r_iret X hP hS dX10_many_49
  have h := ineg c2 h
  by_cases c3 : a1 = (2 : Int32)
  · have h := ipos c3 h
    refine r_tabIn X (pc := 3) (tgt := 50) c3 dX10_many_3 (by decide) (by decide) rfl (by decide) ?_
    refine lv_iconst (pc := 50) (v := 0) hx hb dX10_many_50 (by decide) ?_
    refine lv_istore_n (pc := 51) (lv' := [(3, .int (0 : Int32)), (2, .int (0 : Int32)), (0, .ref (ga G k0)), (1, .int a1)]) hx hb dX10_many_51 rfl hl (by decide) rfl (fun ls hl => ?_)
    exact w_X10_many_52 X  hk0  FU _ _ _ _ _ _ hP hS (lv_sub hl [2, 1, 0] rfl) h
  have h := ineg c3 h
  by_cases c7 : a1 = (3 : Int32)
  · have h := ipos c7 h
    refine r_tabIn X (pc := 3) (tgt := 77) c7 dX10_many_3 (by decide) (by decide) rfl (by decide) ?_
    refine lv_aload_n (pc := 77) hx hb dX10_many_77 rfl (lv_at hl 1 rfl) ?_
    refine gt_X10_249 X hP hk0 dX10_many_78 ?_
    obtain ⟨rfl, rfl⟩ := inj2 h
    exact r_iret X hP hS dX10_many_81
  have h := ineg c7 h
  by_cases c8 : a1 = (4 : Int32)
  · have h := ipos c8 h
    refine r_tabIn X (pc := 3) (tgt := 82) c8 dX10_many_3 (by decide) (by decide) rfl (by decide) ?_
    refine lv_aload_n (pc := 82) hx hb dX10_many_82 rfl (lv_at hl 1 rfl) ?_
    refine gt_X10_134 X hP hk0 dX10_many_83 ?_
    obtain ⟨rfl, rfl⟩ := inj2 h
    exact r_iret X hP hS dX10_many_86
  have h := ineg c8 h
  by_cases c9 : a1 = (5 : Int32)
  · have h := ipos c9 h
    refine r_tabIn X (pc := 3) (tgt := 87) c9 dX10_many_3 (by decide) (by decide) rfl (by decide) ?_
    refine lv_aload_n (pc := 87) hx hb dX10_many_87 rfl (lv_at hl 1 rfl) ?_
    refine gt_X10_378 X hP hk0 dX10_many_88 ?_
    obtain ⟨rfl, rfl⟩ := inj2 h
    exact r_iret X hP hS dX10_many_91
  have h := ineg c9 h
  refine lv_tableOut (pc := 3) (tgt := 92) hx hb dX10_many_3 (by have := lv_neT c1 (a := 0) (by decide); have := lv_neT c2 (a := 1) (by decide); have := lv_neT c3 (a := 2) (by decide); have := lv_neT c7 (a := 3) (by decide); have := lv_neT c8 (a := 4) (by decide); have := lv_neT c9 (a := 5) (by decide); omega) (by decide) ?_
  refine lv_iconst (pc := 92) (v := (-1)) hx hb dX10_many_92 (by decide) ?_
  obtain ⟨rfl, rfl⟩ := inj2 h
  exact r_iret X hP hS dX10_many_93
def F_X10_moveRow_3 (k0z : Nat) (k1z : Nat) (p2 : Int32) (p3 : Int32) (rec1 : Int32 → Mem → Option Mem) : Int32 → Mem → Option Mem := fun v4 σ =>
  if p2 ≤ v4 then
    some σ
  else
    if p3 = (0 : Int32) then
      bd1 (ixo (k0z + 31) (gI σ k0z 60)) fun j3 =>
      bd1 (ixo k1z v4) fun j5 =>
      bd1 (some (pI σ k1z j5 (gI σ (k0z + 31) j3))) fun σ7 =>
      bd1 (some (pI σ7 k0z 60 ((gI σ7 k0z 60) + (1 : Int32)))) fun σ9 =>
      rec1 (v4 + (1 : Int32)) σ9
    else
      bd1 (ixo k1z v4) fun j11 =>
      bd1 (ixo (k0z + 31) (gI σ k0z 60)) fun j13 =>
      bd1 (some (pI σ (k0z + 31) j13 (gI σ k1z j11))) fun σ15 =>
      bd1 (some (pI σ15 k0z 60 ((gI σ15 k0z 60) + (1 : Int32)))) fun σ17 =>
      rec1 (v4 + (1 : Int32)) σ17
def f_X10_moveRow (k0 : Nat) (a1 : Nat) (a2 : Int32) (a3 : Int32) (σ : Mem) : Option Mem :=
  iterF (F_X10_moveRow_3 k0 a1 a2 a3) (fun _ _ => none) FU (0 : Int32) σ
abbrev RM_X10_moveRow : Room := { frames := 0, cells := 0, slots := 0, locals := 0 }
set_option maxHeartbeats 4000000 in
set_option maxRecDepth 100000 in
theorem w_X10_moveRow_3 {l : Launch} {G : Gh} {p : Program} {e : Env} {s : State} {m : MethodId} {args : Array Value} {below : List Frame} {meth : Method} {c : Code} (X : Cx G p s m args meth c prog_12_method_106_code RX10 5 none) {k0z : Nat} {k1z : Nat} {p2 : Int32} {p3 : Int32} (hz0 : kd k0z = 10) (hz1 : kd k1z = 12) {σr : Mem} : ∀ (n : Nat) (v4 : Int32) (σ : Mem) (H : Heap) (locs : List Loc) (ls : Array Slot), PW G σ H → va_S (AA G) s.heap H locs → lv_has ls 5 [(0, .ref (ga G k0z)), (1, .ref (ga G k1z)), (2, .int p2), (3, .int p3), (4, .int v4)] → iterF (F_X10_moveRow_3 k0z k1z p2 p3) (fun _ _ => none) n v4 σ = some σr → W p l e RM_X10_moveRow s m args below meth c H locs 0 0 (MQ below (QG G none σr) args s 0 0 (AA G)) (F0 m 3 ls []) := by
  have hx := X.hx
  have hb := X.hb
  intro n
  induction n with
  | zero => intro v4 σ H locs ls hP hS hl h; exact nnone (α := Mem) h
  | succ n ih1 =>
    intro v4 σ H locs ls hP hS hl h
    have h : F_X10_moveRow_3 k0z k1z p2 p3 (iterF (F_X10_moveRow_3 k0z k1z p2 p3) (fun _ _ => none) n) v4 σ = some _ := h
    unfold F_X10_moveRow_3 at h
    refine lv_iload (pc := 3) hx hb dX10_moveRow_3 (lv_at hl 4 rfl) ?_
    refine lv_iload_n (pc := 5) hx hb dX10_moveRow_5 rfl (lv_at hl 2 rfl) ?_
    refine lv_icmp_ge (pc := 6) (tgt := 58) hx hb dX10_moveRow_6 (by decide) (fun c1 => ?_) (fun c1 => ?_)
    · have h := ipos c1 h
      obtain rfl := Option.some.inj h
      exact r_vret X hP hS dX10_moveRow_58
    · have h := ineg c1 h
      refine lv_iload_n (pc := 9) hx hb dX10_moveRow_9 rfl (lv_at hl 3 rfl) ?_
      refine lv_if_eq (pc := 10) (tgt := 29) hx hb dX10_moveRow_10 (by decide) (fun c2 => ?_) (fun c2 => ?_)
      · have h := ipos c2 h
        refine lv_aload_n (pc := 29) hx hb dX10_moveRow_29 rfl (lv_at hl 1 rfl) ?_
        refine lv_iload (pc := 30) hx hb dX10_moveRow_30 (lv_at hl 4 rfl) ?_
        refine lv_aload_n (pc := 32) hx hb dX10_moveRow_32 rfl (lv_at hl 0 rfl) ?_
        refine gt_X10_111 X hP hz0 dX10_moveRow_33 ?_
        refine lv_aload_n (pc := 36) hx hb dX10_moveRow_36 rfl (lv_at hl 0 rfl) ?_
        refine gt_X10_423 X hP hz0 dX10_moveRow_37 ?_
        obtain ⟨j3, hj4, h⟩ := bnd1 h
        refine r_iald (pc := 40) X hP (kf_10_keptRow hz0).1 hj4 dX10_moveRow_40 ?_
        obtain ⟨j5, hj6, h⟩ := bnd1 h
        obtain ⟨σ7, e8, h⟩ := bnd1 h
        refine r_iast (pc := 41) X hP hS hz1 hj6 dX10_moveRow_41 (fun H locs hP hS => ?_)
        rw [Option.some.inj e8] at hP
        refine lv_aload_n (pc := 42) hx hb dX10_moveRow_42 rfl (lv_at hl 0 rfl) ?_
        refine lv_dup (pc := 43) hx hb dX10_moveRow_43 rfl ?_
        refine gt_X10_423 X hP hz0 dX10_moveRow_44 ?_
        refine lv_iconst (pc := 47) (v := 1) hx hb dX10_moveRow_47 (by decide) ?_
        refine lv_iadd (pc := 48) hx hb dX10_moveRow_48 ?_
        obtain ⟨σ9, e10, h⟩ := bnd1 h
        refine pt_X10_423 X hP hS hz0 dX10_moveRow_49 (fun H locs hP hS => ?_)
        rw [Option.some.inj e10] at hP
        refine lv_iinc (pc := 52) (v := (v4 + (1 : Int32))) (lv' := [(4, .int (v4 + (1 : Int32))), (0, .ref (ga G k0z)), (1, .ref (ga G k1z)), (2, .int p2), (3, .int p3)]) hx hb dX10_moveRow_52 hl (k := 4) rfl (congrArg (fun z => v4 + z) (by decide)) (by decide) rfl (fun ls hl => ?_)
        refine lv_goto (pc := 55) (tgt := 3) hx hb dX10_moveRow_55 (by decide) ?_
        exact ih1 _ _ _ _ _ hP hS (lv_sub hl [1, 2, 3, 4, 0] rfl) h
      · have h := ineg c2 h
        refine lv_aload_n (pc := 13) hx hb dX10_moveRow_13 rfl (lv_at hl 0 rfl) ?_
        refine gt_X10_111 X hP hz0 dX10_moveRow_14 ?_
        refine lv_aload_n (pc := 17) hx hb dX10_moveRow_17 rfl (lv_at hl 0 rfl) ?_
        refine gt_X10_423 X hP hz0 dX10_moveRow_18 ?_
        refine lv_aload_n (pc := 21) hx hb dX10_moveRow_21 rfl (lv_at hl 1 rfl) ?_
        refine lv_iload (pc := 22) hx hb dX10_moveRow_22 (lv_at hl 4 rfl) ?_
        obtain ⟨j11, hj12, h⟩ := bnd1 h
        refine r_iald (pc := 24) X hP hz1 hj12 dX10_moveRow_24 ?_
        obtain ⟨j13, hj14, h⟩ := bnd1 h
        obtain ⟨σ15, e16, h⟩ := bnd1 h
        refine r_iast (pc := 25) X hP hS (kf_10_keptRow hz0).1 hj14 dX10_moveRow_25 (fun H locs hP hS => ?_)
        rw [Option.some.inj e16] at hP
        refine lv_goto (pc := 26) (tgt := 42) hx hb dX10_moveRow_26 (by decide) ?_
        refine lv_aload_n (pc := 42) hx hb dX10_moveRow_42 rfl (lv_at hl 0 rfl) ?_
        refine lv_dup (pc := 43) hx hb dX10_moveRow_43 rfl ?_
        refine gt_X10_423 X hP hz0 dX10_moveRow_44 ?_
        refine lv_iconst (pc := 47) (v := 1) hx hb dX10_moveRow_47 (by decide) ?_
        refine lv_iadd (pc := 48) hx hb dX10_moveRow_48 ?_
        obtain ⟨σ17, e18, h⟩ := bnd1 h
        refine pt_X10_423 X hP hS hz0 dX10_moveRow_49 (fun H locs hP hS => ?_)
        rw [Option.some.inj e18] at hP
        refine lv_iinc (pc := 52) (v := (v4 + (1 : Int32))) (lv' := [(4, .int (v4 + (1 : Int32))), (0, .ref (ga G k0z)), (1, .ref (ga G k1z)), (2, .int p2), (3, .int p3)]) hx hb dX10_moveRow_52 hl (k := 4) rfl (congrArg (fun z => v4 + z) (by decide)) (by decide) rfl (fun ls hl => ?_)
        refine lv_goto (pc := 55) (tgt := 3) hx hb dX10_moveRow_55 (by decide) ?_
        exact ih1 _ _ _ _ _ hP hS (lv_sub hl [1, 2, 3, 4, 0] rfl) h
set_option maxHeartbeats 4000000 in
set_option maxRecDepth 100000 in
theorem c_X10_moveRow (l : Launch) (G : Gh) {k0 : Nat} {a1 : Nat} {a2 : Int32} {a3 : Int32} {σ : Mem} {σr : Mem} (hk0 : kd k0 = 10) (hk1 : kd a1 = 12) (h : f_X10_moveRow k0 a1 a2 a3 σ = some σr) : Met l yX10_moveRow [Cond.code yX10_moveRow prog_12_method_106_code 5 none] RM_X10_moveRow (va_Pc [.ref (ga G k0), .ref (ga G a1), .int a2, .int a3] (Pre G σ)) (QG G none σr) 0 0 (AA G) := by
  refine ct_of (by decide) (fun p e s m below meth c X hP => ?_)
  have hx := X.hx
  have hb := X.hb
  have hS : va_S (AA G) s.heap s.heap [] := va_S.rf
  have hl := lv_entry ([.ref (ga G k0), .ref (ga G a1), .int a2, .int a3]) (n := 5) (Nat.le_of_ble_eq_true rfl)
  rw [lg_entry_eq]
  generalize (lg_sl ([.ref (ga G k0), .ref (ga G a1), .int a2, .int a3]) ++ List.replicate (5 - (lg_sl ([.ref (ga G k0), .ref (ga G a1), .int a2, .int a3])).length) Slot.unset).toArray = ls at hl ⊢
  have hl : lv_has ls 5 [(0, .ref (ga G k0)), (1, .ref (ga G a1)), (2, .int a2), (3, .int a3)] := hl
  unfold f_X10_moveRow at h
  refine lv_iconst (pc := 0) (v := 0) hx hb dX10_moveRow_0 (by decide) ?_
  refine lv_istore (pc := 1) (lv' := [(4, .int (0 : Int32)), (0, .ref (ga G k0)), (1, .ref (ga G a1)), (2, .int a2), (3, .int a3)]) hx hb dX10_moveRow_1 hl (by decide) rfl (fun ls hl => ?_)
  exact w_X10_moveRow_3 X  hk0 hk1  FU _ _ _ _ _ hP hS (lv_sub hl [1, 2, 3, 4, 0] rfl) h
def f_X10_moveAll (k0 : Nat) (a1 : Int32) (σ : Mem) : Option Mem :=
  bd1 (some (pI σ k0 60 (0 : Int32))) fun σ1 =>
  bd1 (ixo (k0 + 32) (0 : Int32)) fun j3 =>
  bd1 (some (pI σ1 (k0 + 32) j3 (gI σ1 k0 0))) fun σ5 =>
  bd1 (ixo (k0 + 32) (1 : Int32)) fun j7 =>
  bd1 (some (pI σ5 (k0 + 32) j7 (gI σ5 k0 8))) fun σ9 =>
  bd1 (ixo (k0 + 32) (2 : Int32)) fun j11 =>
  bd1 (some (pI σ9 (k0 + 32) j11 (gI σ9 k0 7))) fun σ13 =>
  bd1 (ixo (k0 + 32) (3 : Int32)) fun j15 =>
  bd1 (some (pI σ13 (k0 + 32) j15 (gI σ13 k0 14))) fun σ17 =>
  bd1 (f_X10_moveRow k0 (k0 + 32) (4 : Int32) a1 σ17) fun σ19 =>
  bd1 (f_X10_moveRow k0 (k0 + 1) (5 : Int32) a1 σ19) fun σ21 =>
  bd1 (f_X10_moveRow k0 (k0 + 2) (5 : Int32) a1 σ21) fun σ23 =>
  bd1 (f_X10_moveRow k0 (k0 + 3) (5 : Int32) a1 σ23) fun σ25 =>
  bd1 (f_X10_moveRow k0 (k0 + 4) (5 : Int32) a1 σ25) fun σ27 =>
  bd1 (f_X10_moveRow k0 (k0 + 5) (5 : Int32) a1 σ27) fun σ29 =>
  bd1 (f_X10_moveRow k0 (k0 + 6) (12 : Int32) a1 σ29) fun σ31 =>
  bd1 (f_X10_moveRow k0 (k0 + 7) (6 : Int32) a1 σ31) fun σ33 =>
  bd1 (f_X10_moveRow k0 (k0 + 8) (6 : Int32) a1 σ33) fun σ35 =>
  bd1 (f_X10_moveRow k0 (k0 + 9) (6 : Int32) a1 σ35) fun σ37 =>
  bd1 (f_X10_moveRow k0 (k0 + 10) (11 : Int32) a1 σ37) fun σ39 =>
  some σ39
abbrev RM_X10_moveAll : Room := { frames := 1, cells := 0, slots := 0, locals := 24 }
set_option maxHeartbeats 4000000 in
set_option maxRecDepth 100000 in
theorem c_X10_moveAll (l : Launch) (G : Gh) {k0 : Nat} {a1 : Int32} {σ : Mem} {σr : Mem} (hk0 : kd k0 = 10) (h : f_X10_moveAll k0 a1 σ = some σr) : Met l yX10_moveAll [Cond.code yX10_moveAll prog_12_method_107_code 2 none] RM_X10_moveAll (va_Pc [.ref (ga G k0), .int a1] (Pre G σ)) (QG G none σr) 0 0 (AA G) := by
  refine ct_of (by decide) (fun p e s m below meth c X hP => ?_)
  have hx := X.hx
  have hb := X.hb
  have hS : va_S (AA G) s.heap s.heap [] := va_S.rf
  have hl := lv_entry ([.ref (ga G k0), .int a1]) (n := 2) (Nat.le_of_ble_eq_true rfl)
  rw [lg_entry_eq]
  generalize (lg_sl ([.ref (ga G k0), .int a1]) ++ List.replicate (2 - (lg_sl ([.ref (ga G k0), .int a1])).length) Slot.unset).toArray = ls at hl ⊢
  have hl : lv_has ls 2 [(0, .ref (ga G k0)), (1, .int a1)] := hl
  unfold f_X10_moveAll at h
  refine lv_aload_n (pc := 0) hx hb dX10_moveAll_0 rfl (lv_at hl 0 rfl) ?_
  refine lv_iconst (pc := 1) (v := 0) hx hb dX10_moveAll_1 (by decide) ?_
  obtain ⟨σ1, e2, h⟩ := bnd1 h
  refine pt_X10_423 X hP hS hk0 dX10_moveAll_2 (fun H locs hP hS => ?_)
  rw [Option.some.inj e2] at hP
  refine lv_aload_n (pc := 5) hx hb dX10_moveAll_5 rfl (lv_at hl 0 rfl) ?_
  refine gt_X10_114 X hP hk0 dX10_moveAll_6 ?_
  refine lv_iconst (pc := 9) (v := 0) hx hb dX10_moveAll_9 (by decide) ?_
  refine lv_aload_n (pc := 10) hx hb dX10_moveAll_10 rfl (lv_at hl 0 rfl) ?_
  refine gt_X10_117 X hP hk0 dX10_moveAll_11 ?_
  obtain ⟨j3, hj4, h⟩ := bnd1 h
  obtain ⟨σ5, e6, h⟩ := bnd1 h
  refine r_iast (pc := 14) X hP hS (kf_10_single hk0).1 hj4 dX10_moveAll_14 (fun H locs hP hS => ?_)
  rw [Option.some.inj e6] at hP
  refine lv_aload_n (pc := 15) hx hb dX10_moveAll_15 rfl (lv_at hl 0 rfl) ?_
  refine gt_X10_114 X hP hk0 dX10_moveAll_16 ?_
  refine lv_iconst (pc := 19) (v := 1) hx hb dX10_moveAll_19 (by decide) ?_
  refine lv_aload_n (pc := 20) hx hb dX10_moveAll_20 rfl (lv_at hl 0 rfl) ?_
  refine gt_X10_128 X hP hk0 dX10_moveAll_21 ?_
  obtain ⟨j7, hj8, h⟩ := bnd1 h
  obtain ⟨σ9, e10, h⟩ := bnd1 h
  refine r_iast (pc := 24) X hP hS (kf_10_single hk0).1 hj8 dX10_moveAll_24 (fun H locs hP hS => ?_)
  rw [Option.some.inj e10] at hP
  refine lv_aload_n (pc := 25) hx hb dX10_moveAll_25 rfl (lv_at hl 0 rfl) ?_
  refine gt_X10_114 X hP hk0 dX10_moveAll_26 ?_
  refine lv_iconst (pc := 29) (v := 2) hx hb dX10_moveAll_29 (by decide) ?_
  refine lv_aload_n (pc := 30) hx hb dX10_moveAll_30 rfl (lv_at hl 0 rfl) ?_
  refine gt_X10_28 X hP hk0 dX10_moveAll_31 ?_
  obtain ⟨j11, hj12, h⟩ := bnd1 h
  obtain ⟨σ13, e14, h⟩ := bnd1 h
  refine r_iast (pc := 34) X hP hS (kf_10_single hk0).1 hj12 dX10_moveAll_34 (fun H locs hP hS => ?_)
  rw [Option.some.inj e14] at hP
  refine lv_aload_n (pc := 35) hx hb dX10_moveAll_35 rfl (lv_at hl 0 rfl) ?_
  refine gt_X10_114 X hP hk0 dX10_moveAll_36 ?_
  refine lv_iconst (pc := 39) (v := 3) hx hb dX10_moveAll_39 (by decide) ?_
  refine lv_aload_n (pc := 40) hx hb dX10_moveAll_40 rfl (lv_at hl 0 rfl) ?_
  refine gt_X10_44 X hP hk0 dX10_moveAll_41 ?_
  obtain ⟨j15, hj16, h⟩ := bnd1 h
  obtain ⟨σ17, e18, h⟩ := bnd1 h
  refine r_iast (pc := 44) X hP hS (kf_10_single hk0).1 hj16 dX10_moveAll_44 (fun H locs hP hS => ?_)
  rw [Option.some.inj e18] at hP
  refine lv_aload_n (pc := 45) hx hb dX10_moveAll_45 rfl (lv_at hl 0 rfl) ?_
  refine lv_aload_n (pc := 46) hx hb dX10_moveAll_46 rfl (lv_at hl 0 rfl) ?_
  refine gt_X10_114 X hP hk0 dX10_moveAll_47 ?_
  refine lv_iconst (pc := 50) (v := 4) hx hb dX10_moveAll_50 (by decide) ?_
  refine lv_iload_n (pc := 51) hx hb dX10_moveAll_51 rfl (lv_at hl 1 rfl) ?_
  obtain ⟨σ19, e20, h⟩ := bnd1 h
  refine cl_X10_426 X hP hS hk0 (As := [.ref (ga G (k0 + 32)), .int (4 : Int32), .int a1]) (rest := []) (c_X10_moveRow l G hk0 (kf_10_single hk0).1 e20) ⟨rfl, rfl, Nat.le_of_ble_eq_true rfl, Nat.le_of_ble_eq_true rfl⟩ rfl hl.1 rfl (Nat.le_of_ble_eq_true rfl) ⟨Nat.zero_le _, Nat.zero_le _⟩ (pc := 52) dX10_moveAll_52 (fun H locs hP hS => ?_)
  change W p l e _ s m _ below meth c H locs _ _ _ (F0 m (52 + 3) ls [])
  refine lv_aload_n (pc := 55) hx hb dX10_moveAll_55 rfl (lv_at hl 0 rfl) ?_
  refine lv_aload_n (pc := 56) hx hb dX10_moveAll_56 rfl (lv_at hl 0 rfl) ?_
  refine gt_X10_7 X hP hk0 dX10_moveAll_57 ?_
  refine lv_iconst (pc := 60) (v := 5) hx hb dX10_moveAll_60 (by decide) ?_
  refine lv_iload_n (pc := 61) hx hb dX10_moveAll_61 rfl (lv_at hl 1 rfl) ?_
  obtain ⟨σ21, e22, h⟩ := bnd1 h
  refine cl_X10_426 X hP hS hk0 (As := [.ref (ga G (k0 + 1)), .int (5 : Int32), .int a1]) (rest := []) (c_X10_moveRow l G hk0 (kf_10_waxes hk0).1 e22) ⟨rfl, rfl, Nat.le_of_ble_eq_true rfl, Nat.le_of_ble_eq_true rfl⟩ rfl hl.1 rfl (Nat.le_of_ble_eq_true rfl) ⟨Nat.zero_le _, Nat.zero_le _⟩ (pc := 62) dX10_moveAll_62 (fun H locs hP hS => ?_)
  change W p l e _ s m _ below meth c H locs _ _ _ (F0 m (62 + 3) ls [])
  refine lv_aload_n (pc := 65) hx hb dX10_moveAll_65 rfl (lv_at hl 0 rfl) ?_
  refine lv_aload_n (pc := 66) hx hb dX10_moveAll_66 rfl (lv_at hl 0 rfl) ?_
  refine gt_X10_13 X hP hk0 dX10_moveAll_67 ?_
  refine lv_iconst (pc := 70) (v := 5) hx hb dX10_moveAll_70 (by decide) ?_
  refine lv_iload_n (pc := 71) hx hb dX10_moveAll_71 rfl (lv_at hl 1 rfl) ?_
  obtain ⟨σ23, e24, h⟩ := bnd1 h
  refine cl_X10_426 X hP hS hk0 (As := [.ref (ga G (k0 + 2)), .int (5 : Int32), .int a1]) (rest := []) (c_X10_moveRow l G hk0 (kf_10_worths hk0).1 e24) ⟨rfl, rfl, Nat.le_of_ble_eq_true rfl, Nat.le_of_ble_eq_true rfl⟩ rfl hl.1 rfl (Nat.le_of_ble_eq_true rfl) ⟨Nat.zero_le _, Nat.zero_le _⟩ (pc := 72) dX10_moveAll_72 (fun H locs hP hS => ?_)
  change W p l e _ s m _ below meth c H locs _ _ _ (F0 m (72 + 3) ls [])
  refine lv_aload_n (pc := 75) hx hb dX10_moveAll_75 rfl (lv_at hl 0 rfl) ?_
  refine lv_aload_n (pc := 76) hx hb dX10_moveAll_76 rfl (lv_at hl 0 rfl) ?_
  refine gt_X10_16 X hP hk0 dX10_moveAll_77 ?_
  refine lv_iconst (pc := 80) (v := 5) hx hb dX10_moveAll_80 (by decide) ?_
  refine lv_iload_n (pc := 81) hx hb dX10_moveAll_81 rfl (lv_at hl 1 rfl) ?_
  obtain ⟨σ25, e26, h⟩ := bnd1 h
  refine cl_X10_426 X hP hS hk0 (As := [.ref (ga G (k0 + 3)), .int (5 : Int32), .int a1]) (rest := []) (c_X10_moveRow l G hk0 (kf_10_sold hk0).1 e26) ⟨rfl, rfl, Nat.le_of_ble_eq_true rfl, Nat.le_of_ble_eq_true rfl⟩ rfl hl.1 rfl (Nat.le_of_ble_eq_true rfl) ⟨Nat.zero_le _, Nat.zero_le _⟩ (pc := 82) dX10_moveAll_82 (fun H locs hP hS => ?_)
  change W p l e _ s m _ below meth c H locs _ _ _ (F0 m (82 + 3) ls [])
  refine lv_aload_n (pc := 85) hx hb dX10_moveAll_85 rfl (lv_at hl 0 rfl) ?_
  refine lv_aload_n (pc := 86) hx hb dX10_moveAll_86 rfl (lv_at hl 0 rfl) ?_
  refine gt_X10_19 X hP hk0 dX10_moveAll_87 ?_
  refine lv_iconst (pc := 90) (v := 5) hx hb dX10_moveAll_90 (by decide) ?_
  refine lv_iload_n (pc := 91) hx hb dX10_moveAll_91 rfl (lv_at hl 1 rfl) ?_
  obtain ⟨σ27, e28, h⟩ := bnd1 h
  refine cl_X10_426 X hP hS hk0 (As := [.ref (ga G (k0 + 4)), .int (5 : Int32), .int a1]) (rest := []) (c_X10_moveRow l G hk0 (kf_10_prices hk0).1 e28) ⟨rfl, rfl, Nat.le_of_ble_eq_true rfl, Nat.le_of_ble_eq_true rfl⟩ rfl hl.1 rfl (Nat.le_of_ble_eq_true rfl) ⟨Nat.zero_le _, Nat.zero_le _⟩ (pc := 92) dX10_moveAll_92 (fun H locs hP hS => ?_)
  change W p l e _ s m _ below meth c H locs _ _ _ (F0 m (92 + 3) ls [])
  refine lv_aload_n (pc := 95) hx hb dX10_moveAll_95 rfl (lv_at hl 0 rfl) ?_
  refine lv_aload_n (pc := 96) hx hb dX10_moveAll_96 rfl (lv_at hl 0 rfl) ?_
  refine gt_X10_22 X hP hk0 dX10_moveAll_97 ?_
  refine lv_iconst (pc := 100) (v := 5) hx hb dX10_moveAll_100 (by decide) ?_
  refine lv_iload_n (pc := 101) hx hb dX10_moveAll_101 rfl (lv_at hl 1 rfl) ?_
  obtain ⟨σ29, e30, h⟩ := bnd1 h
  refine cl_X10_426 X hP hS hk0 (As := [.ref (ga G (k0 + 5)), .int (5 : Int32), .int a1]) (rest := []) (c_X10_moveRow l G hk0 (kf_10_owners hk0).1 e30) ⟨rfl, rfl, Nat.le_of_ble_eq_true rfl, Nat.le_of_ble_eq_true rfl⟩ rfl hl.1 rfl (Nat.le_of_ble_eq_true rfl) ⟨Nat.zero_le _, Nat.zero_le _⟩ (pc := 102) dX10_moveAll_102 (fun H locs hP hS => ?_)
  change W p l e _ s m _ below meth c H locs _ _ _ (F0 m (102 + 3) ls [])
  refine lv_aload_n (pc := 105) hx hb dX10_moveAll_105 rfl (lv_at hl 0 rfl) ?_
  refine lv_aload_n (pc := 106) hx hb dX10_moveAll_106 rfl (lv_at hl 0 rfl) ?_
  refine gt_X10_25 X hP hk0 dX10_moveAll_107 ?_
  refine lv_bipush (pc := 110) (v := (12)) hx hb dX10_moveAll_110 (by decide) ?_
  refine lv_iload_n (pc := 112) hx hb dX10_moveAll_112 rfl (lv_at hl 1 rfl) ?_
  obtain ⟨σ31, e32, h⟩ := bnd1 h
  refine cl_X10_426 X hP hS hk0 (As := [.ref (ga G (k0 + 6)), .int (12 : Int32), .int a1]) (rest := []) (c_X10_moveRow l G hk0 (kf_10_draughts hk0).1 e32) ⟨rfl, rfl, Nat.le_of_ble_eq_true rfl, Nat.le_of_ble_eq_true rfl⟩ rfl hl.1 rfl (Nat.le_of_ble_eq_true rfl) ⟨Nat.zero_le _, Nat.zero_le _⟩ (pc := 113) dX10_moveAll_113 (fun H locs hP hS => ?_)
  change W p l e _ s m _ below meth c H locs _ _ _ (F0 m (113 + 3) ls [])
  refine lv_aload_n (pc := 116) hx hb dX10_moveAll_116 rfl (lv_at hl 0 rfl) ?_
  refine lv_aload_n (pc := 117) hx hb dX10_moveAll_117 rfl (lv_at hl 0 rfl) ?_
  refine gt_X10_32 X hP hk0 dX10_moveAll_118 ?_
  refine lv_bipush (pc := 121) (v := (6)) hx hb dX10_moveAll_121 (by decide) ?_
  refine lv_iload_n (pc := 123) hx hb dX10_moveAll_123 rfl (lv_at hl 1 rfl) ?_
  obtain ⟨σ33, e34, h⟩ := bnd1 h
  refine cl_X10_426 X hP hS hk0 (As := [.ref (ga G (k0 + 7)), .int (6 : Int32), .int a1]) (rest := []) (c_X10_moveRow l G hk0 (kf_10_kinds hk0).1 e34) ⟨rfl, rfl, Nat.le_of_ble_eq_true rfl, Nat.le_of_ble_eq_true rfl⟩ rfl hl.1 rfl (Nat.le_of_ble_eq_true rfl) ⟨Nat.zero_le _, Nat.zero_le _⟩ (pc := 124) dX10_moveAll_124 (fun H locs hP hS => ?_)
  change W p l e _ s m _ below meth c H locs _ _ _ (F0 m (124 + 3) ls [])
  refine lv_aload_n (pc := 127) hx hb dX10_moveAll_127 rfl (lv_at hl 0 rfl) ?_
  refine lv_aload_n (pc := 128) hx hb dX10_moveAll_128 rfl (lv_at hl 0 rfl) ?_
  refine gt_X10_35 X hP hk0 dX10_moveAll_129 ?_
  refine lv_bipush (pc := 132) (v := (6)) hx hb dX10_moveAll_132 (by decide) ?_
  refine lv_iload_n (pc := 134) hx hb dX10_moveAll_134 rfl (lv_at hl 1 rfl) ?_
  obtain ⟨σ35, e36, h⟩ := bnd1 h
  refine cl_X10_426 X hP hS hk0 (As := [.ref (ga G (k0 + 8)), .int (6 : Int32), .int a1]) (rest := []) (c_X10_moveRow l G hk0 (kf_10_own hk0).1 e36) ⟨rfl, rfl, Nat.le_of_ble_eq_true rfl, Nat.le_of_ble_eq_true rfl⟩ rfl hl.1 rfl (Nat.le_of_ble_eq_true rfl) ⟨Nat.zero_le _, Nat.zero_le _⟩ (pc := 135) dX10_moveAll_135 (fun H locs hP hS => ?_)
  change W p l e _ s m _ below meth c H locs _ _ _ (F0 m (135 + 3) ls [])
  refine lv_aload_n (pc := 138) hx hb dX10_moveAll_138 rfl (lv_at hl 0 rfl) ?_
  refine lv_aload_n (pc := 139) hx hb dX10_moveAll_139 rfl (lv_at hl 0 rfl) ?_
  refine gt_X10_38 X hP hk0 dX10_moveAll_140 ?_
  refine lv_bipush (pc := 143) (v := (6)) hx hb dX10_moveAll_143 (by decide) ?_
  refine lv_iload_n (pc := 145) hx hb dX10_moveAll_145 rfl (lv_at hl 1 rfl) ?_
  obtain ⟨σ37, e38, h⟩ := bnd1 h
  refine cl_X10_426 X hP hS hk0 (As := [.ref (ga G (k0 + 9)), .int (6 : Int32), .int a1]) (rest := []) (c_X10_moveRow l G hk0 (kf_10_values hk0).1 e38) ⟨rfl, rfl, Nat.le_of_ble_eq_true rfl, Nat.le_of_ble_eq_true rfl⟩ rfl hl.1 rfl (Nat.le_of_ble_eq_true rfl) ⟨Nat.zero_le _, Nat.zero_le _⟩ (pc := 146) dX10_moveAll_146 (fun H locs hP hS => ?_)
  change W p l e _ s m _ below meth c H locs _ _ _ (F0 m (146 + 3) ls [])
  refine lv_aload_n (pc := 149) hx hb dX10_moveAll_149 rfl (lv_at hl 0 rfl) ?_
  refine lv_aload_n (pc := 150) hx hb dX10_moveAll_150 rfl (lv_at hl 0 rfl) ?_
  refine gt_X10_41 X hP hk0 dX10_moveAll_151 ?_
  refine lv_bipush (pc := 154) (v := (11)) hx hb dX10_moveAll_154 (by decide) ?_
  refine lv_iload_n (pc := 156) hx hb dX10_moveAll_156 rfl (lv_at hl 1 rfl) ?_
  obtain ⟨σ39, e40, h⟩ := bnd1 h
  refine cl_X10_426 X hP hS hk0 (As := [.ref (ga G (k0 + 10)), .int (11 : Int32), .int a1]) (rest := []) (c_X10_moveRow l G hk0 (kf_10_row hk0).1 e40) ⟨rfl, rfl, Nat.le_of_ble_eq_true rfl, Nat.le_of_ble_eq_true rfl⟩ rfl hl.1 rfl (Nat.le_of_ble_eq_true rfl) ⟨Nat.zero_le _, Nat.zero_le _⟩ (pc := 157) dX10_moveAll_157 (fun H locs hP hS => ?_)
  change W p l e _ s m _ below meth c H locs _ _ _ (F0 m (157 + 3) ls [])
  obtain rfl := Option.some.inj h
  exact r_vret X hP hS dX10_moveAll_160
def f_X10_keep (k0 : Nat) (σ : Mem) : Option (Int32 × Mem) :=
  bd1 (f_X10_moveAll k0 (1 : Int32) σ) fun σ1 =>
  bd1 (some (pI σ1 k0 58 (1 : Int32))) fun σ3 =>
  some ((1 : Int32), σ3)
abbrev RM_X10_keep : Room := { frames := 2, cells := 0, slots := 0, locals := 45 }
set_option maxHeartbeats 4000000 in
set_option maxRecDepth 100000 in
theorem c_X10_keep (l : Launch) (G : Gh) {k0 : Nat} {σ : Mem} {rr : Int32} {σr : Mem} (hk0 : kd k0 = 10) (h : f_X10_keep k0 σ = some (rr, σr)) : Met l yX10_keep [Cond.code yX10_keep prog_12_method_108_code 1 (some .int)] RM_X10_keep (va_Pc [.ref (ga G k0)] (Pre G σ)) (QG G (some (.int rr)) σr) 0 0 (AA G) := by
  refine ct_of (by decide) (fun p e s m below meth c X hP => ?_)
  have hx := X.hx
  have hb := X.hb
  have hS : va_S (AA G) s.heap s.heap [] := va_S.rf
  have hl := lv_entry ([.ref (ga G k0)]) (n := 1) (Nat.le_of_ble_eq_true rfl)
  rw [lg_entry_eq]
  generalize (lg_sl ([.ref (ga G k0)]) ++ List.replicate (1 - (lg_sl ([.ref (ga G k0)])).length) Slot.unset).toArray = ls at hl ⊢
  have hl : lv_has ls 1 [(0, .ref (ga G k0))] := hl
  unfold f_X10_keep at h
  refine lv_aload_n (pc := 0) hx hb dX10_keep_0 rfl (lv_at hl 0 rfl) ?_
  refine lv_iconst (pc := 1) (v := 1) hx hb dX10_keep_1 (by decide) ?_
  obtain ⟨σ1, e2, h⟩ := bnd1 h
  refine cl_X10_430 X hP hS hk0 (As := [.int (1 : Int32)]) (rest := []) (c_X10_moveAll l G hk0 e2) ⟨rfl, rfl, Nat.le_of_ble_eq_true rfl, Nat.le_of_ble_eq_true rfl⟩ rfl hl.1 rfl (Nat.le_of_ble_eq_true rfl) ⟨Nat.zero_le _, Nat.zero_le _⟩ (pc := 2) dX10_keep_2 (fun H locs hP hS => ?_)
  change W p l e _ s m _ below meth c H locs _ _ _ (F0 m (2 + 3) ls [])
  refine lv_aload_n (pc := 5) hx hb dX10_keep_5 rfl (lv_at hl 0 rfl) ?_
  refine lv_iconst (pc := 6) (v := 1) hx hb dX10_keep_6 (by decide) ?_
  obtain ⟨σ3, e4, h⟩ := bnd1 h
  refine pt_X10_434 X hP hS hk0 (by decide) dX10_keep_7 (fun H locs hP hS => ?_)
  rw [Option.some.inj e4] at hP
  refine lv_iconst (pc := 10) (v := 1) hx hb dX10_keep_10 (by decide) ?_
  obtain ⟨rfl, rfl⟩ := inj2 h
  exact r_iret X hP hS dX10_keep_11
def f_X10_again (k0 : Nat) (σ : Mem) : Option (Int32 × Mem) :=
  if (gI σ k0 58) = (0 : Int32) then
    some ((-3 : Int32), σ)
  else
    bd1 (f_X10_moveAll k0 (0 : Int32) σ) fun σ2 =>
    bd1 (ixo (k0 + 32) (0 : Int32)) fun j4 =>
    bd1 (some (pI σ2 k0 0 (gI σ2 (k0 + 32) j4))) fun σ6 =>
    bd1 (ixo (k0 + 32) (1 : Int32)) fun j8 =>
    bd1 (some (pI σ6 k0 8 (gI σ6 (k0 + 32) j8))) fun σ10 =>
    bd1 (ixo (k0 + 32) (2 : Int32)) fun j12 =>
    bd1 (some (pI σ10 k0 7 (gI σ10 (k0 + 32) j12))) fun σ14 =>
    bd1 (ixo (k0 + 32) (3 : Int32)) fun j16 =>
    bd1 (some (pI σ14 k0 14 (gI σ14 (k0 + 32) j16))) fun σ18 =>
    some ((gI σ18 k0 0), σ18)
abbrev RM_X10_again : Room := { frames := 2, cells := 0, slots := 0, locals := 45 }
set_option maxHeartbeats 4000000 in
set_option maxRecDepth 100000 in
theorem c_X10_again (l : Launch) (G : Gh) {k0 : Nat} {σ : Mem} {rr : Int32} {σr : Mem} (hk0 : kd k0 = 10) (h : f_X10_again k0 σ = some (rr, σr)) : Met l yX10_again [Cond.code yX10_again prog_12_method_109_code 1 (some .int)] RM_X10_again (va_Pc [.ref (ga G k0)] (Pre G σ)) (QG G (some (.int rr)) σr) 0 0 (AA G) := by
  refine ct_of (by decide) (fun p e s m below meth c X hP => ?_)
  have hx := X.hx
  have hb := X.hb
  have hS : va_S (AA G) s.heap s.heap [] := va_S.rf
  have hl := lv_entry ([.ref (ga G k0)]) (n := 1) (Nat.le_of_ble_eq_true rfl)
  rw [lg_entry_eq]
  generalize (lg_sl ([.ref (ga G k0)]) ++ List.replicate (1 - (lg_sl ([.ref (ga G k0)])).length) Slot.unset).toArray = ls at hl ⊢
  have hl : lv_has ls 1 [(0, .ref (ga G k0))] := hl
  unfold f_X10_again at h
  refine lv_aload_n (pc := 0) hx hb dX10_again_0 rfl (lv_at hl 0 rfl) ?_
  refine gt_X10_434 X hP hk0 dX10_again_1 ?_
  refine lv_if_ne (pc := 4) (tgt := 10) hx hb dX10_again_4 (by decide) (fun c1 => ?_) (fun c1 => ?_)
  · have h := ineg c1 h
    refine lv_aload_n (pc := 10) hx hb dX10_again_10 rfl (lv_at hl 0 rfl) ?_
    refine lv_iconst (pc := 11) (v := 0) hx hb dX10_again_11 (by decide) ?_
    obtain ⟨σ2, e3, h⟩ := bnd1 h
    refine cl_X10_430 X hP hS hk0 (As := [.int (0 : Int32)]) (rest := []) (c_X10_moveAll l G hk0 e3) ⟨rfl, rfl, Nat.le_of_ble_eq_true rfl, Nat.le_of_ble_eq_true rfl⟩ rfl hl.1 rfl (Nat.le_of_ble_eq_true rfl) ⟨Nat.zero_le _, Nat.zero_le _⟩ (pc := 12) dX10_again_12 (fun H locs hP hS => ?_)
    change W p l e _ s m _ below meth c H locs _ _ _ (F0 m (12 + 3) ls [])
    refine lv_aload_n (pc := 15) hx hb dX10_again_15 rfl (lv_at hl 0 rfl) ?_
    refine lv_aload_n (pc := 16) hx hb dX10_again_16 rfl (lv_at hl 0 rfl) ?_
    refine gt_X10_114 X hP hk0 dX10_again_17 ?_
    refine lv_iconst (pc := 20) (v := 0) hx hb dX10_again_20 (by decide) ?_
    obtain ⟨j4, hj5, h⟩ := bnd1 h
    refine r_iald (pc := 21) X hP (kf_10_single hk0).1 hj5 dX10_again_21 ?_
    obtain ⟨σ6, e7, h⟩ := bnd1 h
    refine pt_X10_117 X hP hS hk0 dX10_again_22 (fun H locs hP hS => ?_)
    rw [Option.some.inj e7] at hP
    refine lv_aload_n (pc := 25) hx hb dX10_again_25 rfl (lv_at hl 0 rfl) ?_
    refine lv_aload_n (pc := 26) hx hb dX10_again_26 rfl (lv_at hl 0 rfl) ?_
    refine gt_X10_114 X hP hk0 dX10_again_27 ?_
    refine lv_iconst (pc := 30) (v := 1) hx hb dX10_again_30 (by decide) ?_
    obtain ⟨j8, hj9, h⟩ := bnd1 h
    refine r_iald (pc := 31) X hP (kf_10_single hk0).1 hj9 dX10_again_31 ?_
    obtain ⟨σ10, e11, h⟩ := bnd1 h
    refine pt_X10_128 X hP hS hk0 dX10_again_32 (fun H locs hP hS => ?_)
    rw [Option.some.inj e11] at hP
    refine lv_aload_n (pc := 35) hx hb dX10_again_35 rfl (lv_at hl 0 rfl) ?_
    refine lv_aload_n (pc := 36) hx hb dX10_again_36 rfl (lv_at hl 0 rfl) ?_
    refine gt_X10_114 X hP hk0 dX10_again_37 ?_
    refine lv_iconst (pc := 40) (v := 2) hx hb dX10_again_40 (by decide) ?_
    obtain ⟨j12, hj13, h⟩ := bnd1 h
    refine r_iald (pc := 41) X hP (kf_10_single hk0).1 hj13 dX10_again_41 ?_
    obtain ⟨σ14, e15, h⟩ := bnd1 h
    refine pt_X10_28 X hP hS hk0 dX10_again_42 (fun H locs hP hS => ?_)
    rw [Option.some.inj e15] at hP
    refine lv_aload_n (pc := 45) hx hb dX10_again_45 rfl (lv_at hl 0 rfl) ?_
    refine lv_aload_n (pc := 46) hx hb dX10_again_46 rfl (lv_at hl 0 rfl) ?_
    refine gt_X10_114 X hP hk0 dX10_again_47 ?_
    refine lv_iconst (pc := 50) (v := 3) hx hb dX10_again_50 (by decide) ?_
    obtain ⟨j16, hj17, h⟩ := bnd1 h
    refine r_iald (pc := 51) X hP (kf_10_single hk0).1 hj17 dX10_again_51 ?_
    obtain ⟨σ18, e19, h⟩ := bnd1 h
    refine pt_X10_44 X hP hS hk0 dX10_again_52 (fun H locs hP hS => ?_)
    rw [Option.some.inj e19] at hP
    refine lv_aload_n (pc := 55) hx hb dX10_again_55 rfl (lv_at hl 0 rfl) ?_
    refine gt_X10_117 X hP hk0 dX10_again_56 ?_
    obtain ⟨rfl, rfl⟩ := inj2 h
    exact r_iret X hP hS dX10_again_59
  · have h := ipos c1 h
    refine lv_bipush (pc := 7) (v := (-3)) hx hb dX10_again_7 (by decide) ?_
    obtain ⟨rfl, rfl⟩ := inj2 h
    exact r_iret X hP hS dX10_again_9
