def f_X9_isUnder (a0 : Int32) (a1 : Int32) (σ : Mem) : Option (Int32 × Mem) :=
  bd2 (f_X9_kindAbove a0 σ) fun r3 σ1 =>
  if a0 = a1 then
    some ((1 : Int32), σ1)
  else
    if r3 = a1 then
      some ((1 : Int32), σ1)
    else
      bd2 (f_X9_kindAbove r3 σ1) fun r8 σ6 =>
      if r8 = a1 then
        some ((1 : Int32), σ6)
      else
        some ((0 : Int32), σ6)
abbrev RM_X9_isUnder : Room := { frames := 1, cells := 0, slots := 0, locals := 20 }
set_option maxHeartbeats 4000000 in
set_option maxRecDepth 100000 in
theorem c_X9_isUnder (l : Launch) (G : Gh) {a0 : Int32} {a1 : Int32} {σ : Mem} {rr : Int32} {σr : Mem} (h : f_X9_isUnder a0 a1 σ = some (rr, σr)) : Met l yX9_isUnder [Cond.code yX9_isUnder prog_1_method_51_code 3 (some .boolean)] RM_X9_isUnder (va_Pc [.int a0, .int a1] (Pre G σ)) (QG G (some (.int rr)) σr) 0 0 (AA G) := by
  refine ct_of (by decide) (fun p e s m below meth c X hP => ?_)
  have hx := X.hx
  have hb := X.hb
  have hS : va_S (AA G) s.heap s.heap [] := va_S.rf
  have hl := lv_entry ([.int a0, .int a1]) (n := 3) (Nat.le_of_ble_eq_true rfl)
  rw [lg_entry_eq]
  generalize (lg_sl ([.int a0, .int a1]) ++ List.replicate (3 - (lg_sl ([.int a0, .int a1])).length) Slot.unset).toArray = ls at hl ⊢
  have hl : lv_has ls 3 [(0, .int a0), (1, .int a1)] := hl
  unfold f_X9_isUnder at h
  refine lv_iload_n (pc := 0) hx hb dX9_isUnder_0 rfl (lv_at hl 0 rfl) ?_
  obtain ⟨r3, σ1, e2, h⟩ := bnd2 h
  refine cl_X9_343 X hP hS (As := [.int a0]) (rest := []) (c_X9_kindAbove l G  e2) ⟨rfl, rfl, Nat.le_of_ble_eq_true rfl, Nat.le_of_ble_eq_true rfl⟩ rfl hl.1 rfl (Nat.le_of_ble_eq_true rfl) ⟨Nat.zero_le _, Nat.zero_le _⟩ (pc := 1) dX9_isUnder_1 (fun H locs hP hS => ?_)
  change W p l e _ s m _ below meth c H locs _ _ _ (F0 m (1 + 3) ls (.int r3 :: []))
  refine lv_istore_n (pc := 4) (lv' := [(2, .int r3), (0, .int a0), (1, .int a1)]) hx hb dX9_isUnder_4 rfl hl (by decide) rfl (fun ls hl => ?_)
  refine lv_iload_n (pc := 5) hx hb dX9_isUnder_5 rfl (lv_at hl 1 rfl) ?_
  refine lv_iload_n (pc := 6) hx hb dX9_isUnder_6 rfl (lv_at hl 2 rfl) ?_
  refine lv_icmp_eq (pc := 7) (tgt := 23) hx hb dX9_isUnder_7 (by decide) (fun c4 => ?_) (fun c4 => ?_)
  · have h := ipos c4 h
    refine lv_iconst (pc := 23) (v := 1) hx hb dX9_isUnder_23 (by decide) ?_
    refine lv_goto (pc := 24) (tgt := 28) hx hb dX9_isUnder_24 (by decide) ?_
    obtain ⟨rfl, rfl⟩ := inj2 h
    exact r_zret X hP hS (by decide) dX9_isUnder_28
  · have h := ineg c4 h
    refine lv_iload_n (pc := 10) hx hb dX9_isUnder_10 rfl (lv_at hl 0 rfl) ?_
    refine lv_iload_n (pc := 11) hx hb dX9_isUnder_11 rfl (lv_at hl 2 rfl) ?_
    refine lv_icmp_eq (pc := 12) (tgt := 23) hx hb dX9_isUnder_12 (by decide) (fun c5 => ?_) (fun c5 => ?_)
    · have h := ipos c5 h
      refine lv_iconst (pc := 23) (v := 1) hx hb dX9_isUnder_23 (by decide) ?_
      refine lv_goto (pc := 24) (tgt := 28) hx hb dX9_isUnder_24 (by decide) ?_
      obtain ⟨rfl, rfl⟩ := inj2 h
      exact r_zret X hP hS (by decide) dX9_isUnder_28
    · have h := ineg c5 h
      refine lv_iload_n (pc := 15) hx hb dX9_isUnder_15 rfl (lv_at hl 0 rfl) ?_
      obtain ⟨r8, σ6, e7, h⟩ := bnd2 h
      refine cl_X9_343 X hP hS (As := [.int r3]) (rest := []) (c_X9_kindAbove l G  e7) ⟨rfl, rfl, Nat.le_of_ble_eq_true rfl, Nat.le_of_ble_eq_true rfl⟩ rfl hl.1 rfl (Nat.le_of_ble_eq_true rfl) ⟨Nat.zero_le _, Nat.zero_le _⟩ (pc := 16) dX9_isUnder_16 (fun H locs hP hS => ?_)
      change W p l e _ s m _ below meth c H locs _ _ _ (F0 m (16 + 3) ls (.int r8 :: []))
      refine lv_iload_n (pc := 19) hx hb dX9_isUnder_19 rfl (lv_at hl 2 rfl) ?_
      refine lv_icmp_ne (pc := 20) (tgt := 27) hx hb dX9_isUnder_20 (by decide) (fun c9 => ?_) (fun c9 => ?_)
      · have h := ineg c9 h
        refine lv_iconst (pc := 27) (v := 0) hx hb dX9_isUnder_27 (by decide) ?_
        obtain ⟨rfl, rfl⟩ := inj2 h
        exact r_zret X hP hS (by decide) dX9_isUnder_28
      · have h := ipos c9 h
        refine lv_iconst (pc := 23) (v := 1) hx hb dX9_isUnder_23 (by decide) ?_
        refine lv_goto (pc := 24) (tgt := 28) hx hb dX9_isUnder_24 (by decide) ?_
        obtain ⟨rfl, rfl⟩ := inj2 h
        exact r_zret X hP hS (by decide) dX9_isUnder_28
def F_X9_taken_36 (k0z : Nat) (k3z : Nat) (v2 : Int32) (v4 : Int32) (σ : Mem) : Option (Int32 × Mem) :=
  bd2 (f_X6_holdsRow k3z σ) fun r15 σ13 =>
  if r15 = (0 : Int32) then
    bd2 (f_X2_bidderAt (k0z + 1) (gI σ13 k3z 0) σ13) fun r19 σ17 =>
    onr r19 (
      some ((-11 : Int32), σ17)
      ) fun q20 => grd (kd q20 = 0) <|
      if v4 = (0 : Int32) then
        bd2 (f_X9_isUnder (gI σ17 q20 0) v2 σ17) fun r25 σ23 =>
        if r25 = (0 : Int32) then
          some ((-13 : Int32), σ23)
        else
          some ((gI σ23 k3z 0), σ23)
      else
        some ((-13 : Int32), σ17)
  else
    if v4 = (0 : Int32) then
      some ((-13 : Int32), σ13)
    else
      if (gI σ13 k3z 1) = (v2 - (10 : Int32)) then
        some ((gI σ13 k3z 2), σ13)
      else
        some ((-13 : Int32), σ13)
def f_X9_taken (k0 : Nat) (a1 : Int32) (a2 : Int32) (σ : Mem) : Option (Int32 × Mem) :=
  bd2 (f_X9_shelfAt k0 a1 σ) fun r3 σ1 =>
  onr r3 (
    bd2 (f_X9_within a2 (10 : Int32) (13 : Int32) σ1) fun r8 σ6 =>
    some ((-1 : Int32), σ6)
    ) fun q4 => grd (kd q4 = 6) <|
    bd2 (f_X9_within a2 (10 : Int32) (13 : Int32) σ1) fun r11 σ9 =>
    if r11 = (0 : Int32) then
      bd2 (f_X9_within a2 (0 : Int32) (5 : Int32) σ9) fun r31 σ29 =>
      if r31 = (0 : Int32) then
        some ((-1 : Int32), σ29)
      else
        F_X9_taken_36 k0 q4 a2 r11 σ29
    else
      F_X9_taken_36 k0 q4 a2 r11 σ9
abbrev RM_X9_taken : Room := { frames := 2, cells := 0, slots := 0, locals := 43 }
set_option maxHeartbeats 4000000 in
set_option maxRecDepth 100000 in
theorem w_X9_taken_36 {l : Launch} {G : Gh} {p : Program} {e : Env} {s : State} {m : MethodId} {args : Array Value} {below : List Frame} {meth : Method} {c : Code} (X : Cx G p s m args meth c prog_1_method_41_code RX9 6 (some .int)) {k0z : Nat} {k3z : Nat} (hz0 : kd k0z = 9) (hz3 : kd k3z = 6) {rr : Int32} {σr : Mem} : ∀ (v2 : Int32) (v4 : Int32) (σ : Mem) (H : Heap) (locs : List Loc) (ls : Array Slot), PW G σ H → va_S (AA G) s.heap H locs → lv_has ls 6 [(0, .ref (ga G k0z)), (2, .int v2), (3, .ref (ga G k3z)), (4, .int v4)] → F_X9_taken_36 k0z k3z v2 v4 σ = some (rr, σr) → W p l e RM_X9_taken s m args below meth c H locs 0 0 (MQ below (QG G (some (.int rr)) σr) args s 0 0 (AA G)) (F0 m 36 ls []) := by
  have hx := X.hx
  have hb := X.hb
  intro v2 v4 σ H locs ls hP hS hl h
  unfold F_X9_taken_36 at h
  refine lv_aload_n (pc := 36) hx hb dX9_taken_36 rfl (lv_at hl 2 rfl) ?_
  obtain ⟨r15, σ13, e14, h⟩ := bnd2 h
  refine cl_X9_319 X hP hS hz3 (As := []) (rest := []) (c_X6_holdsRow l G hz3 e14) ⟨rfl, rfl, Nat.le_of_ble_eq_true rfl, Nat.le_of_ble_eq_true rfl⟩ rfl hl.1 rfl (Nat.le_of_ble_eq_true rfl) ⟨Nat.zero_le _, Nat.zero_le _⟩ (pc := 37) dX9_taken_37 (fun H locs hP hS => ?_)
  change W p l e _ s m _ below meth c H locs _ _ _ (F0 m (37 + 3) ls (.int r15 :: []))
  refine lv_if_eq (pc := 40) (tgt := 69) hx hb dX9_taken_40 (by decide) (fun c16 => ?_) (fun c16 => ?_)
  · have h := ipos c16 h
    refine lv_aload_n (pc := 69) hx hb dX9_taken_69 rfl (lv_at hl 0 rfl) ?_
    refine gt_X9_12 X hP hz0 dX9_taken_70 ?_
    refine lv_aload_n (pc := 73) hx hb dX9_taken_73 rfl (lv_at hl 2 rfl) ?_
    refine gt_X9_324 X hP hz3 dX9_taken_74 ?_
    obtain ⟨r19, σ17, e18, h⟩ := bnd2 h
    rcases r19 with _ | q20
    · have h := onr_n h
      refine cl_X9_138 X hP hS (kf_9_hall hz0).1 (As := [.int (gI σ13 k3z 0)]) (rest := []) (c_X2_bidderAt l G (kf_9_hall hz0).1 e18) ⟨rfl, rfl, Nat.le_of_ble_eq_true rfl, Nat.le_of_ble_eq_true rfl⟩ rfl hl.1 rfl (Nat.le_of_ble_eq_true rfl) ⟨Nat.zero_le _, Nat.zero_le _⟩ (pc := 77) dX9_taken_77 (fun H locs hP hS => ?_)
      change W p l e _ s m _ below meth c H locs _ _ _ (F0 m (77 + 3) ls (.null :: []))
      refine lv_astoreN (pc := 80) (lv' := [(5, .null), (0, .ref (ga G k0z)), (2, .int v2), (3, .ref (ga G k3z)), (4, .int v4)]) hx hb dX9_taken_80 hl (by decide) rfl (fun ls hl => ?_)
      refine lv_aloadN (pc := 82) hx hb dX9_taken_82 (lv_at hl 0 rfl) ?_
      refine lv_ifnonnullN (pc := 84) hx hb dX9_taken_84 ?_
      refine lv_bipush (pc := 87) (v := (-11)) hx hb dX9_taken_87 (by decide) ?_
      obtain ⟨rfl, rfl⟩ := inj2 h
      exact r_iret X hP hS dX9_taken_89
    · have h := onr_s h
      obtain ⟨hq21, h⟩ := grd_inv h
      refine cl_X9_138 X hP hS (kf_9_hall hz0).1 (As := [.int (gI σ13 k3z 0)]) (rest := []) (c_X2_bidderAt l G (kf_9_hall hz0).1 e18) ⟨rfl, rfl, Nat.le_of_ble_eq_true rfl, Nat.le_of_ble_eq_true rfl⟩ rfl hl.1 rfl (Nat.le_of_ble_eq_true rfl) ⟨Nat.zero_le _, Nat.zero_le _⟩ (pc := 77) dX9_taken_77 (fun H locs hP hS => ?_)
      change W p l e _ s m _ below meth c H locs _ _ _ (F0 m (77 + 3) ls (.ref (ga G q20) :: []))
      refine lv_astore (pc := 80) (lv' := [(5, .ref (ga G q20)), (0, .ref (ga G k0z)), (2, .int v2), (3, .ref (ga G k3z)), (4, .int v4)]) hx hb dX9_taken_80 hl (by decide) rfl (fun ls hl => ?_)
      refine lv_aload (pc := 82) hx hb dX9_taken_82 (lv_at hl 0 rfl) ?_
      refine lv_ifnonnull (pc := 84) (tgt := 90) hx hb dX9_taken_84 (by decide) ?_
      refine lv_iload (pc := 90) hx hb dX9_taken_90 (lv_at hl 4 rfl) ?_
      refine lv_if_ne (pc := 92) (tgt := 114) hx hb dX9_taken_92 (by decide) (fun c22 => ?_) (fun c22 => ?_)
      · have h := ineg c22 h
        refine lv_bipush (pc := 114) (v := (-13)) hx hb dX9_taken_114 (by decide) ?_
        obtain ⟨rfl, rfl⟩ := inj2 h
        exact r_iret X hP hS dX9_taken_116
      · have h := ipos c22 h
        refine lv_aload (pc := 95) hx hb dX9_taken_95 (lv_at hl 0 rfl) ?_
        refine gt_X9_142 X hP hq21 dX9_taken_97 ?_
        refine lv_iload_n (pc := 100) hx hb dX9_taken_100 rfl (lv_at hl 2 rfl) ?_
        obtain ⟨r25, σ23, e24, h⟩ := bnd2 h
        refine cl_X9_327 X hP hS (As := [.int (gI σ17 q20 0), .int v2]) (rest := []) (c_X9_isUnder l G  e24) ⟨rfl, rfl, Nat.le_of_ble_eq_true rfl, Nat.le_of_ble_eq_true rfl⟩ rfl hl.1 rfl (Nat.le_of_ble_eq_true rfl) ⟨Nat.zero_le _, Nat.zero_le _⟩ (pc := 101) dX9_taken_101 (fun H locs hP hS => ?_)
        change W p l e _ s m _ below meth c H locs _ _ _ (F0 m (101 + 3) ls (.int r25 :: []))
        refine lv_if_eq (pc := 104) (tgt := 114) hx hb dX9_taken_104 (by decide) (fun c26 => ?_) (fun c26 => ?_)
        · have h := ipos c26 h
          refine lv_bipush (pc := 114) (v := (-13)) hx hb dX9_taken_114 (by decide) ?_
          obtain ⟨rfl, rfl⟩ := inj2 h
          exact r_iret X hP hS dX9_taken_116
        · have h := ineg c26 h
          refine lv_aload_n (pc := 107) hx hb dX9_taken_107 rfl (lv_at hl 3 rfl) ?_
          refine gt_X9_324 X hP hz3 dX9_taken_108 ?_
          refine lv_goto (pc := 111) (tgt := 116) hx hb dX9_taken_111 (by decide) ?_
          obtain ⟨rfl, rfl⟩ := inj2 h
          exact r_iret X hP hS dX9_taken_116
  · have h := ineg c16 h
    refine lv_iload (pc := 43) hx hb dX9_taken_43 (lv_at hl 3 rfl) ?_
    refine lv_if_eq (pc := 45) (tgt := 66) hx hb dX9_taken_45 (by decide) (fun c27 => ?_) (fun c27 => ?_)
    · have h := ipos c27 h
      refine lv_bipush (pc := 66) (v := (-13)) hx hb dX9_taken_66 (by decide) ?_
      obtain ⟨rfl, rfl⟩ := inj2 h
      exact r_iret X hP hS dX9_taken_68
    · have h := ineg c27 h
      refine lv_aload_n (pc := 48) hx hb dX9_taken_48 rfl (lv_at hl 2 rfl) ?_
      refine gt_X9_322 X hP hz3 dX9_taken_49 ?_
      refine lv_iload_n (pc := 52) hx hb dX9_taken_52 rfl (lv_at hl 1 rfl) ?_
      refine lv_bipush (pc := 53) (v := (10)) hx hb dX9_taken_53 (by decide) ?_
      refine lv_isub (pc := 55) hx hb dX9_taken_55 ?_
      refine lv_icmp_ne (pc := 56) (tgt := 66) hx hb dX9_taken_56 (by decide) (fun c28 => ?_) (fun c28 => ?_)
      · have h := ineg c28 h
        refine lv_bipush (pc := 66) (v := (-13)) hx hb dX9_taken_66 (by decide) ?_
        obtain ⟨rfl, rfl⟩ := inj2 h
        exact r_iret X hP hS dX9_taken_68
      · have h := ipos c28 h
        refine lv_aload_n (pc := 59) hx hb dX9_taken_59 rfl (lv_at hl 2 rfl) ?_
        refine gt_X9_323 X hP hz3 dX9_taken_60 ?_
        refine lv_goto (pc := 63) (tgt := 68) hx hb dX9_taken_63 (by decide) ?_
        obtain ⟨rfl, rfl⟩ := inj2 h
        exact r_iret X hP hS dX9_taken_68
set_option maxHeartbeats 4000000 in
set_option maxRecDepth 100000 in
theorem c_X9_taken (l : Launch) (G : Gh) {k0 : Nat} {a1 : Int32} {a2 : Int32} {σ : Mem} {rr : Int32} {σr : Mem} (hk0 : kd k0 = 9) (h : f_X9_taken k0 a1 a2 σ = some (rr, σr)) : Met l yX9_taken [Cond.code yX9_taken prog_1_method_41_code 6 (some .int)] RM_X9_taken (va_Pc [.ref (ga G k0), .int a1, .int a2] (Pre G σ)) (QG G (some (.int rr)) σr) 0 0 (AA G) := by
  refine ct_of (by decide) (fun p e s m below meth c X hP => ?_)
  have hx := X.hx
  have hb := X.hb
  have hS : va_S (AA G) s.heap s.heap [] := va_S.rf
  have hl := lv_entry ([.ref (ga G k0), .int a1, .int a2]) (n := 6) (Nat.le_of_ble_eq_true rfl)
  rw [lg_entry_eq]
  generalize (lg_sl ([.ref (ga G k0), .int a1, .int a2]) ++ List.replicate (6 - (lg_sl ([.ref (ga G k0), .int a1, .int a2])).length) Slot.unset).toArray = ls at hl ⊢
  have hl : lv_has ls 6 [(0, .ref (ga G k0)), (1, .int a1), (2, .int a2)] := hl
  unfold f_X9_taken at h
  refine lv_aload_n (pc := 0) hx hb dX9_taken_0 rfl (lv_at hl 0 rfl) ?_
  refine lv_iload_n (pc := 1) hx hb dX9_taken_1 rfl (lv_at hl 1 rfl) ?_
  obtain ⟨r3, σ1, e2, h⟩ := bnd2 h
  rcases r3 with _ | q4
  · have h := onr_n h
    refine cl_X9_305 X hP hS hk0 (As := [.int a1]) (rest := []) (c_X9_shelfAt l G hk0 e2) ⟨rfl, rfl, Nat.le_of_ble_eq_true rfl, Nat.le_of_ble_eq_true rfl⟩ rfl hl.1 rfl (Nat.le_of_ble_eq_true rfl) ⟨Nat.zero_le _, Nat.zero_le _⟩ (pc := 2) dX9_taken_2 (fun H locs hP hS => ?_)
    change W p l e _ s m _ below meth c H locs _ _ _ (F0 m (2 + 3) ls (.null :: []))
    refine lv_astore_nN (pc := 5) (lv' := [(3, .null), (0, .ref (ga G k0)), (1, .int a1), (2, .int a2)]) hx hb dX9_taken_5 rfl hl (by decide) rfl (fun ls hl => ?_)
    refine lv_iload_n (pc := 6) hx hb dX9_taken_6 rfl (lv_at hl 3 rfl) ?_
    refine lv_bipush (pc := 7) (v := (10)) hx hb dX9_taken_7 (by decide) ?_
    refine lv_bipush (pc := 9) (v := (13)) hx hb dX9_taken_9 (by decide) ?_
    obtain ⟨r8, σ6, e7, h⟩ := bnd2 h
    refine cl_X9_71 X hP hS (As := [.int a2, .int (10 : Int32), .int (13 : Int32)]) (rest := []) (c_X9_within l G  e7) ⟨rfl, rfl, Nat.le_of_ble_eq_true rfl, Nat.le_of_ble_eq_true rfl⟩ rfl hl.1 rfl (Nat.le_of_ble_eq_true rfl) ⟨Nat.zero_le _, Nat.zero_le _⟩ (pc := 11) dX9_taken_11 (fun H locs hP hS => ?_)
    change W p l e _ s m _ below meth c H locs _ _ _ (F0 m (11 + 3) ls (.int r8 :: []))
    refine lv_istore (pc := 14) (lv' := [(4, .int r8), (3, .null), (0, .ref (ga G k0)), (1, .int a1), (2, .int a2)]) hx hb dX9_taken_14 hl (by decide) rfl (fun ls hl => ?_)
    refine lv_aload_nN (pc := 16) hx hb dX9_taken_16 rfl (lv_at hl 1 rfl) ?_
    refine lv_ifnullN (pc := 17) (tgt := 34) hx hb dX9_taken_17 (by decide) ?_
    refine lv_iconst (pc := 34) (v := (-1)) hx hb dX9_taken_34 (by decide) ?_
    obtain ⟨rfl, rfl⟩ := inj2 h
    exact r_iret X hP hS dX9_taken_35
  · have h := onr_s h
    obtain ⟨hq5, h⟩ := grd_inv h
    refine cl_X9_305 X hP hS hk0 (As := [.int a1]) (rest := []) (c_X9_shelfAt l G hk0 e2) ⟨rfl, rfl, Nat.le_of_ble_eq_true rfl, Nat.le_of_ble_eq_true rfl⟩ rfl hl.1 rfl (Nat.le_of_ble_eq_true rfl) ⟨Nat.zero_le _, Nat.zero_le _⟩ (pc := 2) dX9_taken_2 (fun H locs hP hS => ?_)
    change W p l e _ s m _ below meth c H locs _ _ _ (F0 m (2 + 3) ls (.ref (ga G q4) :: []))
    refine lv_astore_n (pc := 5) (lv' := [(3, .ref (ga G q4)), (0, .ref (ga G k0)), (1, .int a1), (2, .int a2)]) hx hb dX9_taken_5 rfl hl (by decide) rfl (fun ls hl => ?_)
    refine lv_iload_n (pc := 6) hx hb dX9_taken_6 rfl (lv_at hl 3 rfl) ?_
    refine lv_bipush (pc := 7) (v := (10)) hx hb dX9_taken_7 (by decide) ?_
    refine lv_bipush (pc := 9) (v := (13)) hx hb dX9_taken_9 (by decide) ?_
    obtain ⟨r11, σ9, e10, h⟩ := bnd2 h
    refine cl_X9_71 X hP hS (As := [.int a2, .int (10 : Int32), .int (13 : Int32)]) (rest := []) (c_X9_within l G  e10) ⟨rfl, rfl, Nat.le_of_ble_eq_true rfl, Nat.le_of_ble_eq_true rfl⟩ rfl hl.1 rfl (Nat.le_of_ble_eq_true rfl) ⟨Nat.zero_le _, Nat.zero_le _⟩ (pc := 11) dX9_taken_11 (fun H locs hP hS => ?_)
    change W p l e _ s m _ below meth c H locs _ _ _ (F0 m (11 + 3) ls (.int r11 :: []))
    refine lv_istore (pc := 14) (lv' := [(4, .int r11), (3, .ref (ga G q4)), (0, .ref (ga G k0)), (1, .int a1), (2, .int a2)]) hx hb dX9_taken_14 hl (by decide) rfl (fun ls hl => ?_)
    refine lv_aload_n (pc := 16) hx hb dX9_taken_16 rfl (lv_at hl 1 rfl) ?_
    refine lv_ifnull (pc := 17) hx hb dX9_taken_17 ?_
    refine lv_iload (pc := 20) hx hb dX9_taken_20 (lv_at hl 0 rfl) ?_
    refine lv_if_ne (pc := 22) (tgt := 36) hx hb dX9_taken_22 (by decide) (fun c12 => ?_) (fun c12 => ?_)
    · have h := ineg c12 h
      exact w_X9_taken_36 X  hk0 hq5  _ _ _ _ _ _ hP hS (lv_sub hl [2, 4, 1, 0] rfl) h
    · have h := ipos c12 h
      refine lv_iload_n (pc := 25) hx hb dX9_taken_25 rfl (lv_at hl 4 rfl) ?_
      refine lv_iconst (pc := 26) (v := 0) hx hb dX9_taken_26 (by decide) ?_
      refine lv_iconst (pc := 27) (v := 5) hx hb dX9_taken_27 (by decide) ?_
      obtain ⟨r31, σ29, e30, h⟩ := bnd2 h
      refine cl_X9_71 X hP hS (As := [.int a2, .int (0 : Int32), .int (5 : Int32)]) (rest := []) (c_X9_within l G  e30) ⟨rfl, rfl, Nat.le_of_ble_eq_true rfl, Nat.le_of_ble_eq_true rfl⟩ rfl hl.1 rfl (Nat.le_of_ble_eq_true rfl) ⟨Nat.zero_le _, Nat.zero_le _⟩ (pc := 28) dX9_taken_28 (fun H locs hP hS => ?_)
      change W p l e _ s m _ below meth c H locs _ _ _ (F0 m (28 + 3) ls (.int r31 :: []))
      refine lv_if_ne (pc := 31) (tgt := 36) hx hb dX9_taken_31 (by decide) (fun c32 => ?_) (fun c32 => ?_)
      · have h := ineg c32 h
        exact w_X9_taken_36 X  hk0 hq5  _ _ _ _ _ _ hP hS (lv_sub hl [2, 4, 1, 0] rfl) h
      · have h := ipos c32 h
        refine lv_iconst (pc := 34) (v := (-1)) hx hb dX9_taken_34 (by decide) ?_
        obtain ⟨rfl, rfl⟩ := inj2 h
        exact r_iret X hP hS dX9_taken_35
def f_X9_act (k0 : Nat) (a1 : Int32) (a2 : Int32) (a3 : Int32) (σ : Mem) : Option (Int32 × Mem) :=
  bd1 (f_X1_clear (k0 + 80) σ) fun σ1 =>
  bd2 (f_X9_shelfAt k0 a1 σ1) fun r5 σ3 =>
  onr r5 (
    some ((0 : Int32), σ3)
    ) fun q6 => grd (kd q6 = 6) <|
    bd2 (f_X6_holdsRow q6 σ3) fun r10 σ8 =>
    if r10 = (0 : Int32) then
      bd2 (f_X9_within a2 (0 : Int32) (3 : Int32) σ8) fun r14 σ12 =>
      if r14 = (0 : Int32) then
        some ((0 : Int32), σ12)
      else
        bd2 (f_X2_bidderAt (k0 + 1) (gI σ12 q6 0) σ12) fun r18 σ16 =>
        onr r18 (
          some ((0 : Int32), σ16)
          ) fun q19 => grd (kd q19 = 0) <|
          bd2 (f_X1_doneBy (k0 + 80) q19 (gI σ16 q6 0) a2 a3 σ16) fun r23 σ21 =>
          some (r23, σ21)
    else
      some ((0 : Int32), σ8)
abbrev RM_X9_act : Room := { frames := 30, cells := 0, slots := 0, locals := 1577 }
set_option maxHeartbeats 4000000 in
set_option maxRecDepth 100000 in
theorem c_X9_act (l : Launch) (G : Gh) {k0 : Nat} {a1 : Int32} {a2 : Int32} {a3 : Int32} {σ : Mem} {rr : Int32} {σr : Mem} (hk0 : kd k0 = 9) (h : f_X9_act k0 a1 a2 a3 σ = some (rr, σr)) : Met l yX9_act [Cond.code yX9_act prog_1_method_42_code 6 (some .int)] RM_X9_act (va_Pc [.ref (ga G k0), .int a1, .int a2, .int a3] (Pre G σ)) (QG G (some (.int rr)) σr) 0 0 (AA G) := by
  refine ct_of (by decide) (fun p e s m below meth c X hP => ?_)
  have hx := X.hx
  have hb := X.hb
  have hS : va_S (AA G) s.heap s.heap [] := va_S.rf
  have hl := lv_entry ([.ref (ga G k0), .int a1, .int a2, .int a3]) (n := 6) (Nat.le_of_ble_eq_true rfl)
  rw [lg_entry_eq]
  generalize (lg_sl ([.ref (ga G k0), .int a1, .int a2, .int a3]) ++ List.replicate (6 - (lg_sl ([.ref (ga G k0), .int a1, .int a2, .int a3])).length) Slot.unset).toArray = ls at hl ⊢
  have hl : lv_has ls 6 [(0, .ref (ga G k0)), (1, .int a1), (2, .int a2), (3, .int a3)] := hl
  unfold f_X9_act at h
  refine lv_aload_n (pc := 0) hx hb dX9_act_0 rfl (lv_at hl 0 rfl) ?_
  refine gt_X9_65 X hP hk0 dX9_act_1 ?_
  obtain ⟨σ1, e2, h⟩ := bnd1 h
  refine cl_X9_330 X hP hS (kf_9_deed hk0).1 (As := []) (rest := []) (c_X1_clear l G (kf_9_deed hk0).1 e2) ⟨rfl, rfl, Nat.le_of_ble_eq_true rfl, Nat.le_of_ble_eq_true rfl⟩ rfl hl.1 rfl (Nat.le_of_ble_eq_true rfl) ⟨Nat.zero_le _, Nat.zero_le _⟩ (pc := 4) dX9_act_4 (fun H locs hP hS => ?_)
  change W p l e _ s m _ below meth c H locs _ _ _ (F0 m (4 + 3) ls [])
  refine lv_aload_n (pc := 7) hx hb dX9_act_7 rfl (lv_at hl 0 rfl) ?_
  refine lv_iload_n (pc := 8) hx hb dX9_act_8 rfl (lv_at hl 1 rfl) ?_
  obtain ⟨r5, σ3, e4, h⟩ := bnd2 h
  rcases r5 with _ | q6
  · have h := onr_n h
    refine cl_X9_305 X hP hS hk0 (As := [.int a1]) (rest := []) (c_X9_shelfAt l G hk0 e4) ⟨rfl, rfl, Nat.le_of_ble_eq_true rfl, Nat.le_of_ble_eq_true rfl⟩ rfl hl.1 rfl (Nat.le_of_ble_eq_true rfl) ⟨Nat.zero_le _, Nat.zero_le _⟩ (pc := 9) dX9_act_9 (fun H locs hP hS => ?_)
    change W p l e _ s m _ below meth c H locs _ _ _ (F0 m (9 + 3) ls (.null :: []))
    refine lv_astoreN (pc := 12) (lv' := [(4, .null), (0, .ref (ga G k0)), (1, .int a1), (2, .int a2), (3, .int a3)]) hx hb dX9_act_12 hl (by decide) rfl (fun ls hl => ?_)
    refine lv_aloadN (pc := 14) hx hb dX9_act_14 (lv_at hl 0 rfl) ?_
    refine lv_ifnullN (pc := 16) (tgt := 36) hx hb dX9_act_16 (by decide) ?_
    refine lv_iconst (pc := 36) (v := 0) hx hb dX9_act_36 (by decide) ?_
    obtain ⟨rfl, rfl⟩ := inj2 h
    exact r_iret X hP hS dX9_act_37
  · have h := onr_s h
    obtain ⟨hq7, h⟩ := grd_inv h
    refine cl_X9_305 X hP hS hk0 (As := [.int a1]) (rest := []) (c_X9_shelfAt l G hk0 e4) ⟨rfl, rfl, Nat.le_of_ble_eq_true rfl, Nat.le_of_ble_eq_true rfl⟩ rfl hl.1 rfl (Nat.le_of_ble_eq_true rfl) ⟨Nat.zero_le _, Nat.zero_le _⟩ (pc := 9) dX9_act_9 (fun H locs hP hS => ?_)
    change W p l e _ s m _ below meth c H locs _ _ _ (F0 m (9 + 3) ls (.ref (ga G q6) :: []))
    refine lv_astore (pc := 12) (lv' := [(4, .ref (ga G q6)), (0, .ref (ga G k0)), (1, .int a1), (2, .int a2), (3, .int a3)]) hx hb dX9_act_12 hl (by decide) rfl (fun ls hl => ?_)
    refine lv_aload (pc := 14) hx hb dX9_act_14 (lv_at hl 0 rfl) ?_
    refine lv_ifnull (pc := 16) hx hb dX9_act_16 ?_
    refine lv_aload (pc := 19) hx hb dX9_act_19 (lv_at hl 0 rfl) ?_
    obtain ⟨r10, σ8, e9, h⟩ := bnd2 h
    refine cl_X9_319 X hP hS hq7 (As := []) (rest := []) (c_X6_holdsRow l G hq7 e9) ⟨rfl, rfl, Nat.le_of_ble_eq_true rfl, Nat.le_of_ble_eq_true rfl⟩ rfl hl.1 rfl (Nat.le_of_ble_eq_true rfl) ⟨Nat.zero_le _, Nat.zero_le _⟩ (pc := 21) dX9_act_21 (fun H locs hP hS => ?_)
    change W p l e _ s m _ below meth c H locs _ _ _ (F0 m (21 + 3) ls (.int r10 :: []))
    refine lv_if_ne (pc := 24) (tgt := 36) hx hb dX9_act_24 (by decide) (fun c11 => ?_) (fun c11 => ?_)
    · have h := ineg c11 h
      refine lv_iconst (pc := 36) (v := 0) hx hb dX9_act_36 (by decide) ?_
      obtain ⟨rfl, rfl⟩ := inj2 h
      exact r_iret X hP hS dX9_act_37
    · have h := ipos c11 h
      refine lv_iload_n (pc := 27) hx hb dX9_act_27 rfl (lv_at hl 3 rfl) ?_
      refine lv_iconst (pc := 28) (v := 0) hx hb dX9_act_28 (by decide) ?_
      refine lv_iconst (pc := 29) (v := 3) hx hb dX9_act_29 (by decide) ?_
      obtain ⟨r14, σ12, e13, h⟩ := bnd2 h
      refine cl_X9_71 X hP hS (As := [.int a2, .int (0 : Int32), .int (3 : Int32)]) (rest := []) (c_X9_within l G  e13) ⟨rfl, rfl, Nat.le_of_ble_eq_true rfl, Nat.le_of_ble_eq_true rfl⟩ rfl hl.1 rfl (Nat.le_of_ble_eq_true rfl) ⟨Nat.zero_le _, Nat.zero_le _⟩ (pc := 30) dX9_act_30 (fun H locs hP hS => ?_)
      change W p l e _ s m _ below meth c H locs _ _ _ (F0 m (30 + 3) ls (.int r14 :: []))
      refine lv_if_ne (pc := 33) (tgt := 38) hx hb dX9_act_33 (by decide) (fun c15 => ?_) (fun c15 => ?_)
      · have h := ineg c15 h
        refine lv_aload_n (pc := 38) hx hb dX9_act_38 rfl (lv_at hl 1 rfl) ?_
        refine gt_X9_12 X hP hk0 dX9_act_39 ?_
        refine lv_aload (pc := 42) hx hb dX9_act_42 (lv_at hl 0 rfl) ?_
        refine gt_X9_324 X hP hq7 dX9_act_44 ?_
        obtain ⟨r18, σ16, e17, h⟩ := bnd2 h
        rcases r18 with _ | q19
        · have h := onr_n h
          refine cl_X9_138 X hP hS (kf_9_hall hk0).1 (As := [.int (gI σ12 q6 0)]) (rest := []) (c_X2_bidderAt l G (kf_9_hall hk0).1 e17) ⟨rfl, rfl, Nat.le_of_ble_eq_true rfl, Nat.le_of_ble_eq_true rfl⟩ rfl hl.1 rfl (Nat.le_of_ble_eq_true rfl) ⟨Nat.zero_le _, Nat.zero_le _⟩ (pc := 47) dX9_act_47 (fun H locs hP hS => ?_)
          change W p l e _ s m _ below meth c H locs _ _ _ (F0 m (47 + 3) ls (.null :: []))
          refine lv_astoreN (pc := 50) (lv' := [(5, .null), (4, .ref (ga G q6)), (0, .ref (ga G k0)), (1, .int a1), (2, .int a2), (3, .int a3)]) hx hb dX9_act_50 hl (by decide) rfl (fun ls hl => ?_)
          refine lv_aloadN (pc := 52) hx hb dX9_act_52 (lv_at hl 0 rfl) ?_
          refine lv_ifnonnullN (pc := 54) hx hb dX9_act_54 ?_
          refine lv_iconst (pc := 57) (v := 0) hx hb dX9_act_57 (by decide) ?_
          obtain ⟨rfl, rfl⟩ := inj2 h
          exact r_iret X hP hS dX9_act_58
        · have h := onr_s h
          obtain ⟨hq20, h⟩ := grd_inv h
          refine cl_X9_138 X hP hS (kf_9_hall hk0).1 (As := [.int (gI σ12 q6 0)]) (rest := []) (c_X2_bidderAt l G (kf_9_hall hk0).1 e17) ⟨rfl, rfl, Nat.le_of_ble_eq_true rfl, Nat.le_of_ble_eq_true rfl⟩ rfl hl.1 rfl (Nat.le_of_ble_eq_true rfl) ⟨Nat.zero_le _, Nat.zero_le _⟩ (pc := 47) dX9_act_47 (fun H locs hP hS => ?_)
          change W p l e _ s m _ below meth c H locs _ _ _ (F0 m (47 + 3) ls (.ref (ga G q19) :: []))
          refine lv_astore (pc := 50) (lv' := [(5, .ref (ga G q19)), (4, .ref (ga G q6)), (0, .ref (ga G k0)), (1, .int a1), (2, .int a2), (3, .int a3)]) hx hb dX9_act_50 hl (by decide) rfl (fun ls hl => ?_)
          refine lv_aload (pc := 52) hx hb dX9_act_52 (lv_at hl 0 rfl) ?_
          refine lv_ifnonnull (pc := 54) (tgt := 59) hx hb dX9_act_54 (by decide) ?_
          refine lv_aload_n (pc := 59) hx hb dX9_act_59 rfl (lv_at hl 2 rfl) ?_
          refine gt_X9_65 X hP hk0 dX9_act_60 ?_
          refine lv_aload (pc := 63) hx hb dX9_act_63 (lv_at hl 0 rfl) ?_
          refine lv_aload (pc := 65) hx hb dX9_act_65 (lv_at hl 1 rfl) ?_
          refine gt_X9_324 X hP hq7 dX9_act_67 ?_
          refine lv_iload_n (pc := 70) hx hb dX9_act_70 rfl (lv_at hl 4 rfl) ?_
          refine lv_iload_n (pc := 71) hx hb dX9_act_71 rfl (lv_at hl 5 rfl) ?_
          obtain ⟨r23, σ21, e22, h⟩ := bnd2 h
          refine cl_X9_331 X hP hS (kf_9_deed hk0).1 (As := [.ref (ga G q19), .int (gI σ16 q6 0), .int a2, .int a3]) (rest := []) (c_X1_doneBy l G (kf_9_deed hk0).1 hq20 e22) ⟨rfl, rfl, Nat.le_of_ble_eq_true rfl, Nat.le_of_ble_eq_true rfl⟩ rfl hl.1 rfl (Nat.le_of_ble_eq_true rfl) ⟨Nat.zero_le _, Nat.zero_le _⟩ (pc := 72) dX9_act_72 (fun H locs hP hS => ?_)
          change W p l e _ s m _ below meth c H locs _ _ _ (F0 m (72 + 3) ls (.int r23 :: []))
          obtain ⟨rfl, rfl⟩ := inj2 h
          exact r_iret X hP hS dX9_act_75
      · have h := ipos c15 h
        refine lv_iconst (pc := 36) (v := 0) hx hb dX9_act_36 (by decide) ?_
        obtain ⟨rfl, rfl⟩ := inj2 h
        exact r_iret X hP hS dX9_act_37
def f_X9_trace (k0 : Nat) (a1 : Int32) (σ : Mem) : Option (Int32 × Mem) :=
  bd2 (f_X1_bodyAt (k0 + 80) a1 σ) fun r3 σ1 =>
  some (r3, σ1)
abbrev RM_X9_trace : Room := { frames := 1, cells := 0, slots := 0, locals := 21 }
set_option maxHeartbeats 4000000 in
set_option maxRecDepth 100000 in
theorem c_X9_trace (l : Launch) (G : Gh) {k0 : Nat} {a1 : Int32} {σ : Mem} {rr : Int32} {σr : Mem} (hk0 : kd k0 = 9) (h : f_X9_trace k0 a1 σ = some (rr, σr)) : Met l yX9_trace [Cond.code yX9_trace prog_1_method_43_code 2 (some .int)] RM_X9_trace (va_Pc [.ref (ga G k0), .int a1] (Pre G σ)) (QG G (some (.int rr)) σr) 0 0 (AA G) := by
  refine ct_of (by decide) (fun p e s m below meth c X hP => ?_)
  have hx := X.hx
  have hb := X.hb
  have hS : va_S (AA G) s.heap s.heap [] := va_S.rf
  have hl := lv_entry ([.ref (ga G k0), .int a1]) (n := 2) (Nat.le_of_ble_eq_true rfl)
  rw [lg_entry_eq]
  generalize (lg_sl ([.ref (ga G k0), .int a1]) ++ List.replicate (2 - (lg_sl ([.ref (ga G k0), .int a1])).length) Slot.unset).toArray = ls at hl ⊢
  have hl : lv_has ls 2 [(0, .ref (ga G k0)), (1, .int a1)] := hl
  unfold f_X9_trace at h
  refine lv_aload_n (pc := 0) hx hb dX9_trace_0 rfl (lv_at hl 0 rfl) ?_
  refine gt_X9_65 X hP hk0 dX9_trace_1 ?_
  refine lv_iload_n (pc := 4) hx hb dX9_trace_4 rfl (lv_at hl 1 rfl) ?_
  obtain ⟨r3, σ1, e2, h⟩ := bnd2 h
  refine cl_X9_335 X hP hS (kf_9_deed hk0).1 (As := [.int a1]) (rest := []) (c_X1_bodyAt l G (kf_9_deed hk0).1 e2) ⟨rfl, rfl, Nat.le_of_ble_eq_true rfl, Nat.le_of_ble_eq_true rfl⟩ rfl hl.1 rfl (Nat.le_of_ble_eq_true rfl) ⟨Nat.zero_le _, Nat.zero_le _⟩ (pc := 5) dX9_trace_5 (fun H locs hP hS => ?_)
  change W p l e _ s m _ below meth c H locs _ _ _ (F0 m (5 + 3) ls (.int r3 :: []))
  obtain ⟨rfl, rfl⟩ := inj2 h
  exact r_iret X hP hS dX9_trace_8
def f_X9_many (k0 : Nat) (a1 : Int32) (σ : Mem) : Option (Int32 × Mem) :=
  if a1 = (0 : Int32) then
    some ((gI σ (k0 + 1) 1), σ)
  else
  if a1 = (1 : Int32) then
    some ((gI σ (k0 + 1) 3), σ)
  else
  if a1 = (2 : Int32) then
    bd2 (f_X2_soldLots (k0 + 1) σ) fun r6 σ4 =>
    some (r6, σ4)
  else
  if a1 = (3 : Int32) then
    some ((gI σ (k0 + 74) 1), σ)
  else
  if a1 = (4 : Int32) then
    some ((gI σ (k0 + 46) 1), σ)
  else
  if a1 = (5 : Int32) then
    some ((gI σ (k0 + 80) 1), σ)
  else
  some ((-1 : Int32), σ)
abbrev RM_X9_many : Room := { frames := 1, cells := 0, slots := 0, locals := 22 }
set_option maxHeartbeats 4000000 in
set_option maxRecDepth 100000 in
theorem c_X9_many (l : Launch) (G : Gh) {k0 : Nat} {a1 : Int32} {σ : Mem} {rr : Int32} {σr : Mem} (hk0 : kd k0 = 9) (h : f_X9_many k0 a1 σ = some (rr, σr)) : Met l yX9_many [Cond.code yX9_many prog_1_method_44_code 2 (some .int)] RM_X9_many (va_Pc [.ref (ga G k0), .int a1] (Pre G σ)) (QG G (some (.int rr)) σr) 0 0 (AA G) := by
  refine ct_of (by decide) (fun p e s m below meth c X hP => ?_)
  have hx := X.hx
  have hb := X.hb
  have hS : va_S (AA G) s.heap s.heap [] := va_S.rf
  have hl := lv_entry ([.ref (ga G k0), .int a1]) (n := 2) (Nat.le_of_ble_eq_true rfl)
  rw [lg_entry_eq]
  generalize (lg_sl ([.ref (ga G k0), .int a1]) ++ List.replicate (2 - (lg_sl ([.ref (ga G k0), .int a1])).length) Slot.unset).toArray = ls at hl ⊢
  have hl : lv_has ls 2 [(0, .ref (ga G k0)), (1, .int a1)] := hl
  unfold f_X9_many at h
  refine lv_iload_n (pc := 0) hx hb dX9_many_0 rfl (lv_at hl 1 rfl) ?_
  by_cases c1 : a1 = (0 : Int32)
  · have h := ipos c1 h
    refine r_tabIn X (pc := 1) (tgt := 40) c1 dX9_many_1 (by decide) (by decide) rfl (by decide) ?_
    refine lv_aload_n (pc := 40) hx hb dX9_many_40 rfl (lv_at hl 0 rfl) ?_
    refine gt_X9_12 X hP hk0 dX9_many_41 ?_
    refine gt_X9_96 X hP (kf_9_hall hk0).1 dX9_many_44 ?_
    obtain ⟨rfl, rfl⟩ := inj2 h
    exact r_iret X hP hS dX9_many_47
  have h := ineg c1 h
  by_cases c2 : a1 = (1 : Int32)
  · have h := ipos c2 h
    refine r_tabIn X (pc := 1) (tgt := 48) c2 dX9_many_1 (by decide) (by decide) rfl (by decide) ?_
    refine lv_aload_n (pc := 48) hx hb dX9_many_48 rfl (lv_at hl 0 rfl) ?_
    refine gt_X9_12 X hP hk0 dX9_many_49 ?_
    refine gt_X9_338 X hP (kf_9_hall hk0).1 dX9_many_52 ?_
    obtain ⟨rfl, rfl⟩ := inj2 h
    exact r_iret X hP hS dX9_many_55
  have h := ineg c2 h
  by_cases c3 : a1 = (2 : Int32)
  · have h := ipos c3 h
    refine r_tabIn X (pc := 1) (tgt := 56) c3 dX9_many_1 (by decide) (by decide) rfl (by decide) ?_
    refine lv_aload_n (pc := 56) hx hb dX9_many_56 rfl (lv_at hl 0 rfl) ?_
    refine gt_X9_12 X hP hk0 dX9_many_57 ?_
    obtain ⟨r6, σ4, e5, h⟩ := bnd2 h
    refine cl_X9_238 X hP hS (kf_9_hall hk0).1 (As := []) (rest := []) (c_X2_soldLots l G (kf_9_hall hk0).1 e5) ⟨rfl, rfl, Nat.le_of_ble_eq_true rfl, Nat.le_of_ble_eq_true rfl⟩ rfl hl.1 rfl (Nat.le_of_ble_eq_true rfl) ⟨Nat.zero_le _, Nat.zero_le _⟩ (pc := 60) dX9_many_60 (fun H locs hP hS => ?_)
    change W p l e _ s m _ below meth c H locs _ _ _ (F0 m (60 + 3) ls (.int r6 :: []))
    obtain ⟨rfl, rfl⟩ := inj2 h
    exact r_iret X hP hS dX9_many_63
  have h := ineg c3 h
  by_cases c7 : a1 = (3 : Int32)
  · have h := ipos c7 h
    refine r_tabIn X (pc := 1) (tgt := 64) c7 dX9_many_1 (by decide) (by decide) rfl (by decide) ?_
    refine lv_aload_n (pc := 64) hx hb dX9_many_64 rfl (lv_at hl 0 rfl) ?_
    refine gt_X9_43 X hP hk0 dX9_many_65 ?_
    refine gt_X9_257 X hP (kf_9_rows hk0).1 dX9_many_68 ?_
    obtain ⟨rfl, rfl⟩ := inj2 h
    exact r_iret X hP hS dX9_many_71
  have h := ineg c7 h
  by_cases c8 : a1 = (4 : Int32)
  · have h := ipos c8 h
    refine r_tabIn X (pc := 1) (tgt := 72) c8 dX9_many_1 (by decide) (by decide) rfl (by decide) ?_
    refine lv_aload_n (pc := 72) hx hb dX9_many_72 rfl (lv_at hl 0 rfl) ?_
    refine gt_X9_29 X hP hk0 dX9_many_73 ?_
    refine gt_X9_341 X hP (kf_9_tape hk0).1 dX9_many_76 ?_
    obtain ⟨rfl, rfl⟩ := inj2 h
    exact r_iret X hP hS dX9_many_79
  have h := ineg c8 h
  by_cases c9 : a1 = (5 : Int32)
  · have h := ipos c9 h
    refine r_tabIn X (pc := 1) (tgt := 80) c9 dX9_many_1 (by decide) (by decide) rfl (by decide) ?_
    refine lv_aload_n (pc := 80) hx hb dX9_many_80 rfl (lv_at hl 0 rfl) ?_
    refine gt_X9_65 X hP hk0 dX9_many_81 ?_
    refine gt_X9_342 X hP (kf_9_deed hk0).1 dX9_many_84 ?_
    obtain ⟨rfl, rfl⟩ := inj2 h
    exact r_iret X hP hS dX9_many_87
  have h := ineg c9 h
  refine lv_tableOut (pc := 1) (tgt := 88) hx hb dX9_many_1 (by have := lv_neT c1 (a := 0) (by decide); have := lv_neT c2 (a := 1) (by decide); have := lv_neT c3 (a := 2) (by decide); have := lv_neT c7 (a := 3) (by decide); have := lv_neT c8 (a := 4) (by decide); have := lv_neT c9 (a := 5) (by decide); omega) (by decide) ?_
  refine lv_iconst (pc := 88) (v := (-1)) hx hb dX9_many_88 (by decide) ?_
  obtain ⟨rfl, rfl⟩ := inj2 h
  exact r_iret X hP hS dX9_many_89
def f_X9_keep (k0 : Nat) (σ : Mem) : Option (Int32 × Mem) :=
  bd1 (f_X2_copy (k0 + 16) (k0 + 1) σ) fun σ1 =>
  bd1 (some (pI σ1 k0 2 (1 : Int32))) fun σ3 =>
  some ((1 : Int32), σ3)
abbrev RM_X9_keep : Room := { frames := 3, cells := 0, slots := 0, locals := 82 }
set_option maxHeartbeats 4000000 in
set_option maxRecDepth 100000 in
theorem c_X9_keep (l : Launch) (G : Gh) {k0 : Nat} {σ : Mem} {rr : Int32} {σr : Mem} (hk0 : kd k0 = 9) (h : f_X9_keep k0 σ = some (rr, σr)) : Met l yX9_keep [Cond.code yX9_keep prog_1_method_45_code 1 (some .int)] RM_X9_keep (va_Pc [.ref (ga G k0)] (Pre G σ)) (QG G (some (.int rr)) σr) 0 0 (AA G) := by
  refine ct_of (by decide) (fun p e s m below meth c X hP => ?_)
  have hx := X.hx
  have hb := X.hb
  have hS : va_S (AA G) s.heap s.heap [] := va_S.rf
  have hl := lv_entry ([.ref (ga G k0)]) (n := 1) (Nat.le_of_ble_eq_true rfl)
  rw [lg_entry_eq]
  generalize (lg_sl ([.ref (ga G k0)]) ++ List.replicate (1 - (lg_sl ([.ref (ga G k0)])).length) Slot.unset).toArray = ls at hl ⊢
  have hl : lv_has ls 1 [(0, .ref (ga G k0))] := hl
  unfold f_X9_keep at h
  refine lv_aload_n (pc := 0) hx hb dX9_keep_0 rfl (lv_at hl 0 rfl) ?_
  refine gt_X9_16 X hP hk0 dX9_keep_1 ?_
  refine lv_aload_n (pc := 4) hx hb dX9_keep_4 rfl (lv_at hl 0 rfl) ?_
  refine gt_X9_12 X hP hk0 dX9_keep_5 ?_
  obtain ⟨σ1, e2, h⟩ := bnd1 h
  refine cl_X9_91 X hP hS (kf_9_kept hk0).1 (As := [.ref (ga G (k0 + 1))]) (rest := []) (c_X2_copy l G (kf_9_kept hk0).1 (kf_9_hall hk0).1 e2) ⟨rfl, rfl, Nat.le_of_ble_eq_true rfl, Nat.le_of_ble_eq_true rfl⟩ rfl hl.1 rfl (Nat.le_of_ble_eq_true rfl) ⟨Nat.zero_le _, Nat.zero_le _⟩ (pc := 8) dX9_keep_8 (fun H locs hP hS => ?_)
  change W p l e _ s m _ below meth c H locs _ _ _ (F0 m (8 + 3) ls [])
  refine lv_aload_n (pc := 11) hx hb dX9_keep_11 rfl (lv_at hl 0 rfl) ?_
  refine lv_iconst (pc := 12) (v := 1) hx hb dX9_keep_12 (by decide) ?_
  obtain ⟨σ3, e4, h⟩ := bnd1 h
  refine pt_X9_19 X hP hS hk0 (by decide) dX9_keep_13 (fun H locs hP hS => ?_)
  rw [Option.some.inj e4] at hP
  refine lv_iconst (pc := 16) (v := 1) hx hb dX9_keep_16 (by decide) ?_
  obtain ⟨rfl, rfl⟩ := inj2 h
  exact r_iret X hP hS dX9_keep_17
def f_X9_again (k0 : Nat) (σ : Mem) : Option (Int32 × Mem) :=
  if (gI σ k0 2) = (0 : Int32) then
    some ((-3 : Int32), σ)
  else
    bd1 (f_X2_copy (k0 + 1) (k0 + 16) σ) fun σ2 =>
    some ((gI σ2 (k0 + 1) 1), σ2)
abbrev RM_X9_again : Room := { frames := 3, cells := 0, slots := 0, locals := 82 }
set_option maxHeartbeats 4000000 in
set_option maxRecDepth 100000 in
theorem c_X9_again (l : Launch) (G : Gh) {k0 : Nat} {σ : Mem} {rr : Int32} {σr : Mem} (hk0 : kd k0 = 9) (h : f_X9_again k0 σ = some (rr, σr)) : Met l yX9_again [Cond.code yX9_again prog_1_method_46_code 1 (some .int)] RM_X9_again (va_Pc [.ref (ga G k0)] (Pre G σ)) (QG G (some (.int rr)) σr) 0 0 (AA G) := by
  refine ct_of (by decide) (fun p e s m below meth c X hP => ?_)
  have hx := X.hx
  have hb := X.hb
  have hS : va_S (AA G) s.heap s.heap [] := va_S.rf
  have hl := lv_entry ([.ref (ga G k0)]) (n := 1) (Nat.le_of_ble_eq_true rfl)
  rw [lg_entry_eq]
  generalize (lg_sl ([.ref (ga G k0)]) ++ List.replicate (1 - (lg_sl ([.ref (ga G k0)])).length) Slot.unset).toArray = ls at hl ⊢
  have hl : lv_has ls 1 [(0, .ref (ga G k0))] := hl
  unfold f_X9_again at h
  refine lv_aload_n (pc := 0) hx hb dX9_again_0 rfl (lv_at hl 0 rfl) ?_
  refine gt_X9_19 X hP hk0 dX9_again_1 ?_
  refine lv_if_ne (pc := 4) (tgt := 10) hx hb dX9_again_4 (by decide) (fun c1 => ?_) (fun c1 => ?_)
  · have h := ineg c1 h
    refine lv_aload_n (pc := 10) hx hb dX9_again_10 rfl (lv_at hl 0 rfl) ?_
    refine gt_X9_12 X hP hk0 dX9_again_11 ?_
    refine lv_aload_n (pc := 14) hx hb dX9_again_14 rfl (lv_at hl 0 rfl) ?_
    refine gt_X9_16 X hP hk0 dX9_again_15 ?_
    obtain ⟨σ2, e3, h⟩ := bnd1 h
    refine cl_X9_91 X hP hS (kf_9_hall hk0).1 (As := [.ref (ga G (k0 + 16))]) (rest := []) (c_X2_copy l G (kf_9_hall hk0).1 (kf_9_kept hk0).1 e3) ⟨rfl, rfl, Nat.le_of_ble_eq_true rfl, Nat.le_of_ble_eq_true rfl⟩ rfl hl.1 rfl (Nat.le_of_ble_eq_true rfl) ⟨Nat.zero_le _, Nat.zero_le _⟩ (pc := 18) dX9_again_18 (fun H locs hP hS => ?_)
    change W p l e _ s m _ below meth c H locs _ _ _ (F0 m (18 + 3) ls [])
    refine lv_aload_n (pc := 21) hx hb dX9_again_21 rfl (lv_at hl 0 rfl) ?_
    refine gt_X9_12 X hP hk0 dX9_again_22 ?_
    refine gt_X9_96 X hP (kf_9_hall hk0).1 dX9_again_25 ?_
    obtain ⟨rfl, rfl⟩ := inj2 h
    exact r_iret X hP hS dX9_again_28
  · have h := ipos c1 h
    refine lv_bipush (pc := 7) (v := (-3)) hx hb dX9_again_7 (by decide) ?_
    obtain ⟨rfl, rfl⟩ := inj2 h
    exact r_iret X hP hS dX9_again_9
