def seg_X9 (G : Gh) (a : Nat) : List va_E := ml9_53 G a
abbrev RMI_X9 : Room := { frames := 4, cells := 93, slots := 957, locals := 73 }
set_option maxHeartbeats 8000000 in
set_option maxRecDepth 100000 in
theorem im_X9 (l : Launch) (G : Gh) : IM l G yX9_init prog_1_method_1_code 2 (.inr (9, [.null, .null, .int 0, .null, .null, .null, .null, .null, .null, .null, .null])) (seg_X9 G) RMI_X9 93 957 := by
  refine im_of (by decide) rfl (fun base a P p e s m below meth c ha X hP hz => ?_)
  have hx := X.hx
  have hb := X.hb
  have hS : va_S (BA base) s.heap s.heap [] := va_S.rf
  have hl := lv_entry ([.ref a]) (n := 2) (Nat.le_of_ble_eq_true rfl)
  rw [lg_entry_eq]
  generalize (lg_sl ([.ref a]) ++ List.replicate (2 - (lg_sl ([.ref a])).length) Slot.unset).toArray = ls at hl ⊢
  have hl : lv_has ls 2 [(0, .ref a)] := hl
  refine lv_aload_n (pc := 0) hx hb dX9_init_0 rfl (lv_at hl 0 rfl) ?_
  refine n_obj (pc := 1) X (X.tb tw_23 rfl) (X.tb tw_24 rfl) (X.tb tw_25 rfl) hl.1 dX9_init_1 (Nat.le_of_ble_eq_true rfl) (Nat.le_of_ble_eq_true rfl) ?_
  refine lv_aload_n (pc := 4) hx hb dX9_init_4 rfl (lv_at hl 0 rfl) ?_
  refine n_new (pc := 5) X hP hS ha tyX2 tyX2_ok (uw2 X.hT) (X.tb tw_26 rfl) (X.tb tw_27 rfl) (X.tb tw_2 rfl) rfl (fs := [.null, .int 0, .null, .int 0, .null, .int 0, .int 0, .int 0, .int 0, .int 0, .int 0, .int 0]) (fun j hj => by rcases (show j = 0 ∨ j = 1 ∨ j = 2 ∨ j = 3 ∨ j = 4 ∨ j = 5 ∨ j = 6 ∨ j = 7 ∨ j = 8 ∨ j = 9 ∨ j = 10 ∨ j = 11 by omega) with rfl | rfl | rfl | rfl | rfl | rfl | rfl | rfl | rfl | rfl | rfl | rfl <;> rfl) (n := 1) (ml9_0_len G a) (q := (a + 1)) rfl (L' := ml9_1 G a) rfl (Nat.le_of_ble_eq_true rfl) (Nat.le_of_ble_eq_true rfl) dX9_init_5 (fun H hP hS => ?_)
  refine lv_dup (pc := 8) hx hb dX9_init_8 rfl ?_
  refine n_init (pc := 9) X hS ha (L := ml9_0 G a) (e0 := .inr (2, [.null, .int 0, .null, .int 0, .null, .int 0, .int 0, .int 0, .int 0, .int 0, .int 0, .int 0])) (seg := seg_X2 G) (im_X2 l G) hP (X.tb tw_30 rfl) (X.tb tw_2 rfl) (X.tb tw_28 rfl) (X.tb tw_29 rfl) rfl ⟨by decide, by decide, by decide +kernel⟩ ⟨rfl, rfl, Nat.le_of_ble_eq_true rfl, Nat.le_of_ble_eq_true rfl⟩ hl.1 (Nat.le_of_ble_eq_true rfl) ⟨Nat.le_of_ble_eq_true rfl, Nat.le_of_ble_eq_true rfl⟩ (n := 1) (ml9_0_len G a) (q := (a + 1)) rfl dX9_init_9 (fun H locs hP hS => ?_)
  change SW G base P (ml9_2 G a) H at hP
  refine n_putF (pc := 12) X hP hS (by rw [ml9_2_len]; omega) ha tyX9 tyX9_ok nmX9 (uw9 X.hT) rfl (by decide : 0 < 11) (X.tb tw_288 rfl) rfl rfl (ty := tyX9 0) (by decide +kernel) rfl rfl (i := 0) (ml9_2_0 G a) (q := a) rfl (by rw [fz9_0_len]; decide) (L' := ml9_3 G a) rfl dX9_init_12 (fun H locs hP hS => ?_)
  refine lv_aload_n (pc := 15) hx hb dX9_init_15 rfl (lv_at hl 0 rfl) ?_
  refine n_new (pc := 16) X hP hS ha tyX2 tyX2_ok (uw2 X.hT) (X.tb tw_26 rfl) (X.tb tw_27 rfl) (X.tb tw_2 rfl) rfl (fs := [.null, .int 0, .null, .int 0, .null, .int 0, .int 0, .int 0, .int 0, .int 0, .int 0, .int 0]) (fun j hj => by rcases (show j = 0 ∨ j = 1 ∨ j = 2 ∨ j = 3 ∨ j = 4 ∨ j = 5 ∨ j = 6 ∨ j = 7 ∨ j = 8 ∨ j = 9 ∨ j = 10 ∨ j = 11 by omega) with rfl | rfl | rfl | rfl | rfl | rfl | rfl | rfl | rfl | rfl | rfl | rfl <;> rfl) (n := 16) (ml9_3_len G a) (q := (a + 16)) rfl (L' := ml9_4 G a) rfl (Nat.le_of_ble_eq_true rfl) (Nat.le_of_ble_eq_true rfl) dX9_init_16 (fun H hP hS => ?_)
  refine lv_dup (pc := 19) hx hb dX9_init_19 rfl ?_
  refine n_init (pc := 20) X hS ha (L := ml9_3 G a) (e0 := .inr (2, [.null, .int 0, .null, .int 0, .null, .int 0, .int 0, .int 0, .int 0, .int 0, .int 0, .int 0])) (seg := seg_X2 G) (im_X2 l G) hP (X.tb tw_30 rfl) (X.tb tw_2 rfl) (X.tb tw_28 rfl) (X.tb tw_29 rfl) rfl ⟨by decide, by decide, by decide +kernel⟩ ⟨rfl, rfl, Nat.le_of_ble_eq_true rfl, Nat.le_of_ble_eq_true rfl⟩ hl.1 (Nat.le_of_ble_eq_true rfl) ⟨Nat.le_of_ble_eq_true rfl, Nat.le_of_ble_eq_true rfl⟩ (n := 16) (ml9_3_len G a) (q := (a + 16)) rfl dX9_init_20 (fun H locs hP hS => ?_)
  change SW G base P (ml9_5 G a) H at hP
  refine n_putF (pc := 23) X hP hS (by rw [ml9_5_len]; omega) ha tyX9 tyX9_ok nmX9 (uw9 X.hT) rfl (by decide : 1 < 11) (X.tb tw_289 rfl) rfl rfl (ty := tyX9 1) (by decide +kernel) rfl rfl (i := 0) (ml9_5_0 G a) (q := a) rfl (by rw [fz9_1_len]; decide) (L' := ml9_6 G a) rfl dX9_init_23 (fun H locs hP hS => ?_)
  refine lv_aload_n (pc := 26) hx hb dX9_init_26 rfl (lv_at hl 0 rfl) ?_
  refine lv_iconst (pc := 27) (v := (0)) hx hb dX9_init_27 (by decide) ?_
  refine n_put (pc := 28) X hP hS (by rw [ml9_6_len]; omega) ha tyX9 tyX9_ok nmX9 (uw9 X.hT) rfl (by decide : 2 < 11) (X.tb tw_290 rfl) rfl (ty := tyX9 2) (by decide +kernel) rfl rfl (i := 0) (ml9_6_0 G a) (q := a) rfl (by rw [fz9_2_len]; decide) (L' := ml9_7 G a) rfl dX9_init_28 (fun H locs hP hS => ?_)
  refine lv_aload_n (pc := 31) hx hb dX9_init_31 rfl (lv_at hl 0 rfl) ?_
  refine n_new (pc := 32) X hP hS ha tyX2 tyX2_ok (uw2 X.hT) (X.tb tw_26 rfl) (X.tb tw_27 rfl) (X.tb tw_2 rfl) rfl (fs := [.null, .int 0, .null, .int 0, .null, .int 0, .int 0, .int 0, .int 0, .int 0, .int 0, .int 0]) (fun j hj => by rcases (show j = 0 ∨ j = 1 ∨ j = 2 ∨ j = 3 ∨ j = 4 ∨ j = 5 ∨ j = 6 ∨ j = 7 ∨ j = 8 ∨ j = 9 ∨ j = 10 ∨ j = 11 by omega) with rfl | rfl | rfl | rfl | rfl | rfl | rfl | rfl | rfl | rfl | rfl | rfl <;> rfl) (n := 31) (ml9_7_len G a) (q := (a + 31)) rfl (L' := ml9_8 G a) rfl (Nat.le_of_ble_eq_true rfl) (Nat.le_of_ble_eq_true rfl) dX9_init_32 (fun H hP hS => ?_)
  refine lv_dup (pc := 35) hx hb dX9_init_35 rfl ?_
  refine n_init (pc := 36) X hS ha (L := ml9_7 G a) (e0 := .inr (2, [.null, .int 0, .null, .int 0, .null, .int 0, .int 0, .int 0, .int 0, .int 0, .int 0, .int 0])) (seg := seg_X2 G) (im_X2 l G) hP (X.tb tw_30 rfl) (X.tb tw_2 rfl) (X.tb tw_28 rfl) (X.tb tw_29 rfl) rfl ⟨by decide, by decide, by decide +kernel⟩ ⟨rfl, rfl, Nat.le_of_ble_eq_true rfl, Nat.le_of_ble_eq_true rfl⟩ hl.1 (Nat.le_of_ble_eq_true rfl) ⟨Nat.le_of_ble_eq_true rfl, Nat.le_of_ble_eq_true rfl⟩ (n := 31) (ml9_7_len G a) (q := (a + 31)) rfl dX9_init_36 (fun H locs hP hS => ?_)
  change SW G base P (ml9_9 G a) H at hP
  refine n_putF (pc := 39) X hP hS (by rw [ml9_9_len]; omega) ha tyX9 tyX9_ok nmX9 (uw9 X.hT) rfl (by decide : 3 < 11) (X.tb tw_291 rfl) rfl rfl (ty := tyX9 3) (by decide +kernel) rfl rfl (i := 0) (ml9_9_0 G a) (q := a) rfl (by rw [fz9_3_len]; decide) (L' := ml9_10 G a) rfl dX9_init_39 (fun H locs hP hS => ?_)
  refine lv_aload_n (pc := 42) hx hb dX9_init_42 rfl (lv_at hl 0 rfl) ?_
  refine n_new (pc := 43) X hP hS ha tyX7 tyX7_ok (uw7 X.hT) (X.tb tw_153 rfl) (X.tb tw_154 rfl) (X.tb tw_5 rfl) rfl (fs := [.null, .int 0, .int 0, .int 0]) (fun j hj => by rcases (show j = 0 ∨ j = 1 ∨ j = 2 ∨ j = 3 by omega) with rfl | rfl | rfl | rfl <;> rfl) (n := 46) (ml9_10_len G a) (q := (a + 46)) rfl (L' := ml9_11 G a) rfl (Nat.le_of_ble_eq_true rfl) (Nat.le_of_ble_eq_true rfl) dX9_init_43 (fun H hP hS => ?_)
  refine lv_dup (pc := 46) hx hb dX9_init_46 rfl ?_
  refine n_initN (pc := 47) X hS ha (L := ml9_10 G a) (e0 := .inr (7, [.null, .int 0, .int 0, .int 0])) (seg := seg_X7 G) (im_X7 l G) hP (X.tb tw_157 rfl) (X.tb tw_5 rfl) (X.tb tw_155 rfl) (X.tb tw_156 rfl) rfl ⟨by decide, by decide, by decide +kernel⟩ ⟨rfl, rfl, Nat.le_of_ble_eq_true rfl, Nat.le_of_ble_eq_true rfl⟩ hl.1 (Nat.le_of_ble_eq_true rfl) ⟨Nat.le_of_ble_eq_true rfl, Nat.le_of_ble_eq_true rfl⟩ (n := 46) (ml9_10_len G a) (q := (a + 46)) rfl dX9_init_47 (fun H locs hP hS => ?_)
  change SW G base P (ml9_12 G a) H at hP
  refine n_putF (pc := 50) X hP hS (by rw [ml9_12_len]; omega) ha tyX9 tyX9_ok nmX9 (uw9 X.hT) rfl (by decide : 4 < 11) (X.tb tw_292 rfl) rfl rfl (ty := tyX9 4) (by decide +kernel) rfl rfl (i := 0) (ml9_12_0 G a) (q := a) rfl (by rw [fz9_4_len]; decide) (L' := ml9_13 G a) rfl dX9_init_50 (fun H locs hP hS => ?_)
  refine lv_aload_n (pc := 53) hx hb dX9_init_53 rfl (lv_at hl 0 rfl) ?_
  refine n_new (pc := 54) X hP hS ha tyX8 tyX8_ok (uw8 X.hT) (X.tb tw_174 rfl) (X.tb tw_175 rfl) (X.tb tw_6 rfl) rfl (fs := [.null, .int 0, .int 0, .null, .null, .null, .null]) (fun j hj => by rcases (show j = 0 ∨ j = 1 ∨ j = 2 ∨ j = 3 ∨ j = 4 ∨ j = 5 ∨ j = 6 by omega) with rfl | rfl | rfl | rfl | rfl | rfl | rfl <;> rfl) (n := 48) (ml9_13_len G a) (q := (a + 48)) rfl (L' := ml9_14 G a) rfl (Nat.le_of_ble_eq_true rfl) (Nat.le_of_ble_eq_true rfl) dX9_init_54 (fun H hP hS => ?_)
  refine lv_dup (pc := 57) hx hb dX9_init_57 rfl ?_
  refine n_initN (pc := 58) X hS ha (L := ml9_13 G a) (e0 := .inr (8, [.null, .int 0, .int 0, .null, .null, .null, .null])) (seg := seg_X8 G) (im_X8 l G) hP (X.tb tw_178 rfl) (X.tb tw_6 rfl) (X.tb tw_176 rfl) (X.tb tw_177 rfl) rfl ⟨by decide, by decide, by decide +kernel⟩ ⟨rfl, rfl, Nat.le_of_ble_eq_true rfl, Nat.le_of_ble_eq_true rfl⟩ hl.1 (Nat.le_of_ble_eq_true rfl) ⟨Nat.le_of_ble_eq_true rfl, Nat.le_of_ble_eq_true rfl⟩ (n := 48) (ml9_13_len G a) (q := (a + 48)) rfl dX9_init_58 (fun H locs hP hS => ?_)
  change SW G base P (ml9_15 G a) H at hP
  refine n_putF (pc := 61) X hP hS (by rw [ml9_15_len]; omega) ha tyX9 tyX9_ok nmX9 (uw9 X.hT) rfl (by decide : 5 < 11) (X.tb tw_293 rfl) rfl rfl (ty := tyX9 5) (by decide +kernel) rfl rfl (i := 0) (ml9_15_0 G a) (q := a) rfl (by rw [fz9_5_len]; decide) (L' := ml9_16 G a) rfl dX9_init_61 (fun H locs hP hS => ?_)
  refine lv_aload_n (pc := 64) hx hb dX9_init_64 rfl (lv_at hl 0 rfl) ?_
  refine n_new (pc := 65) X hP hS ha tyX4 tyX4_ok (uw4 X.hT) (X.tb tw_207 rfl) (X.tb tw_208 rfl) (X.tb tw_7 rfl) rfl (fs := [.null, .int 0]) (fun j hj => by rcases (show j = 0 ∨ j = 1 by omega) with rfl | rfl <;> rfl) (n := 74) (ml9_16_len G a) (q := (a + 74)) rfl (L' := ml9_17 G a) rfl (Nat.le_of_ble_eq_true rfl) (Nat.le_of_ble_eq_true rfl) dX9_init_65 (fun H hP hS => ?_)
  refine lv_dup (pc := 68) hx hb dX9_init_68 rfl ?_
  refine n_initN (pc := 69) X hS ha (L := ml9_16 G a) (e0 := .inr (4, [.null, .int 0])) (seg := seg_X4 G) (im_X4 l G) hP (X.tb tw_211 rfl) (X.tb tw_7 rfl) (X.tb tw_209 rfl) (X.tb tw_210 rfl) rfl ⟨by decide, by decide, by decide +kernel⟩ ⟨rfl, rfl, Nat.le_of_ble_eq_true rfl, Nat.le_of_ble_eq_true rfl⟩ hl.1 (Nat.le_of_ble_eq_true rfl) ⟨Nat.le_of_ble_eq_true rfl, Nat.le_of_ble_eq_true rfl⟩ (n := 74) (ml9_16_len G a) (q := (a + 74)) rfl dX9_init_69 (fun H locs hP hS => ?_)
  change SW G base P (ml9_18 G a) H at hP
  refine n_putF (pc := 72) X hP hS (by rw [ml9_18_len]; omega) ha tyX9 tyX9_ok nmX9 (uw9 X.hT) rfl (by decide : 6 < 11) (X.tb tw_294 rfl) rfl rfl (ty := tyX9 6) (by decide +kernel) rfl rfl (i := 0) (ml9_18_0 G a) (q := a) rfl (by rw [fz9_6_len]; decide) (L' := ml9_19 G a) rfl dX9_init_72 (fun H locs hP hS => ?_)
  refine lv_aload_n (pc := 75) hx hb dX9_init_75 rfl (lv_at hl 0 rfl) ?_
  refine n_new (pc := 76) X hP hS ha tyX4 tyX4_ok (uw4 X.hT) (X.tb tw_207 rfl) (X.tb tw_208 rfl) (X.tb tw_7 rfl) rfl (fs := [.null, .int 0]) (fun j hj => by rcases (show j = 0 ∨ j = 1 by omega) with rfl | rfl <;> rfl) (n := 76) (ml9_19_len G a) (q := (a + 76)) rfl (L' := ml9_20 G a) rfl (Nat.le_of_ble_eq_true rfl) (Nat.le_of_ble_eq_true rfl) dX9_init_76 (fun H hP hS => ?_)
  refine lv_dup (pc := 79) hx hb dX9_init_79 rfl ?_
  refine n_initN (pc := 80) X hS ha (L := ml9_19 G a) (e0 := .inr (4, [.null, .int 0])) (seg := seg_X4 G) (im_X4 l G) hP (X.tb tw_211 rfl) (X.tb tw_7 rfl) (X.tb tw_209 rfl) (X.tb tw_210 rfl) rfl ⟨by decide, by decide, by decide +kernel⟩ ⟨rfl, rfl, Nat.le_of_ble_eq_true rfl, Nat.le_of_ble_eq_true rfl⟩ hl.1 (Nat.le_of_ble_eq_true rfl) ⟨Nat.le_of_ble_eq_true rfl, Nat.le_of_ble_eq_true rfl⟩ (n := 76) (ml9_19_len G a) (q := (a + 76)) rfl dX9_init_80 (fun H locs hP hS => ?_)
  change SW G base P (ml9_21 G a) H at hP
  refine n_putF (pc := 83) X hP hS (by rw [ml9_21_len]; omega) ha tyX9 tyX9_ok nmX9 (uw9 X.hT) rfl (by decide : 7 < 11) (X.tb tw_295 rfl) rfl rfl (ty := tyX9 7) (by decide +kernel) rfl rfl (i := 0) (ml9_21_0 G a) (q := a) rfl (by rw [fz9_7_len]; decide) (L' := ml9_22 G a) rfl dX9_init_83 (fun H locs hP hS => ?_)
  refine lv_aload_n (pc := 86) hx hb dX9_init_86 rfl (lv_at hl 0 rfl) ?_
  refine lv_iconst (pc := 87) (v := (4)) hx hb dX9_init_87 (by decide) ?_
  refine n_arq (pc := 88) X hP hS ha (X.tb tw_221 rfl) X.hao.w5 (t0 := 5) rfl (N := 4) (by decide) (by decide) (Nat.le_of_ble_eq_true rfl) (n := 78) (ml9_22_len G a) (q := (a + 78)) rfl (L' := ml9_23 G a) rfl (Nat.le_of_ble_eq_true rfl) (Nat.le_of_ble_eq_true rfl) dX9_init_88 (fun H hP hS => ?_)
  refine n_putF (pc := 91) X hP hS (by rw [ml9_23_len]; omega) ha tyX9 tyX9_ok nmX9 (uw9 X.hT) rfl (by decide : 8 < 11) (X.tb tw_296 rfl) rfl rfl (ty := tyX9 8) (by decide +kernel) rfl rfl (i := 0) (ml9_23_0 G a) (q := a) rfl (by rw [fz9_8_len]; decide) (L' := ml9_24 G a) rfl dX9_init_91 (fun H locs hP hS => ?_)
  refine lv_aload_n (pc := 94) hx hb dX9_init_94 rfl (lv_at hl 0 rfl) ?_
  refine lv_iconst (pc := 95) (v := (4)) hx hb dX9_init_95 (by decide) ?_
  refine n_arq (pc := 96) X hP hS ha (X.tb tw_223 rfl) X.hao.w6 (t0 := 6) rfl (N := 4) (by decide) (by decide) (Nat.le_of_ble_eq_true rfl) (n := 79) (ml9_24_len G a) (q := (a + 79)) rfl (L' := ml9_25 G a) rfl (Nat.le_of_ble_eq_true rfl) (Nat.le_of_ble_eq_true rfl) dX9_init_96 (fun H hP hS => ?_)
  refine n_putF (pc := 99) X hP hS (by rw [ml9_25_len]; omega) ha tyX9 tyX9_ok nmX9 (uw9 X.hT) rfl (by decide : 9 < 11) (X.tb tw_297 rfl) rfl rfl (ty := tyX9 9) (by decide +kernel) rfl rfl (i := 0) (ml9_25_0 G a) (q := a) rfl (by rw [fz9_9_len]; decide) (L' := ml9_26 G a) rfl dX9_init_99 (fun H locs hP hS => ?_)
  refine lv_aload_n (pc := 102) hx hb dX9_init_102 rfl (lv_at hl 0 rfl) ?_
  refine n_new (pc := 103) X hP hS ha tyX1 tyX1_ok (uw1 X.hT) (X.tb tw_225 rfl) (X.tb tw_226 rfl) (X.tb tw_8 rfl) rfl (fs := [.null, .int 0, .int 0, .int 0, .int 0, .int 0]) (fun j hj => by rcases (show j = 0 ∨ j = 1 ∨ j = 2 ∨ j = 3 ∨ j = 4 ∨ j = 5 by omega) with rfl | rfl | rfl | rfl | rfl | rfl <;> rfl) (n := 80) (ml9_26_len G a) (q := (a + 80)) rfl (L' := ml9_27 G a) rfl (Nat.le_of_ble_eq_true rfl) (Nat.le_of_ble_eq_true rfl) dX9_init_103 (fun H hP hS => ?_)
  refine lv_dup (pc := 106) hx hb dX9_init_106 rfl ?_
  refine n_initN (pc := 107) X hS ha (L := ml9_26 G a) (e0 := .inr (1, [.null, .int 0, .int 0, .int 0, .int 0, .int 0])) (seg := seg_X1 G) (im_X1 l G) hP (X.tb tw_229 rfl) (X.tb tw_8 rfl) (X.tb tw_227 rfl) (X.tb tw_228 rfl) rfl ⟨by decide, by decide, by decide +kernel⟩ ⟨rfl, rfl, Nat.le_of_ble_eq_true rfl, Nat.le_of_ble_eq_true rfl⟩ hl.1 (Nat.le_of_ble_eq_true rfl) ⟨Nat.le_of_ble_eq_true rfl, Nat.le_of_ble_eq_true rfl⟩ (n := 80) (ml9_26_len G a) (q := (a + 80)) rfl dX9_init_107 (fun H locs hP hS => ?_)
  change SW G base P (ml9_28 G a) H at hP
  refine n_putF (pc := 110) X hP hS (by rw [ml9_28_len]; omega) ha tyX9 tyX9_ok nmX9 (uw9 X.hT) rfl (by decide : 10 < 11) (X.tb tw_298 rfl) rfl rfl (ty := tyX9 10) (by decide +kernel) rfl rfl (i := 0) (ml9_28_0 G a) (q := a) rfl (by rw [fz9_10_len]; decide) (L' := ml9_29 G a) rfl dX9_init_110 (fun H locs hP hS => ?_)
  refine lv_iconst (pc := 113) (v := (0)) hx hb dX9_init_113 (by decide) ?_
  refine lv_istore_n (pc := 114) (lv' := [(1, .int (0 : Int32)), (0, .ref a)]) hx hb dX9_init_114 rfl hl (by decide) rfl (fun ls hl => ?_)
  refine lv_iload_n (pc := 115) hx hb dX9_init_115 rfl (lv_at hl 0 rfl) ?_
  refine lv_iconst (pc := 116) (v := (4)) hx hb dX9_init_116 (by decide) ?_
  refine lv_icmp_ge (pc := 117) (tgt := 139) hx hb dX9_init_117 (by decide) (fun q => absurd q (by decide)) (fun _ => ?_)
  refine lv_aload_n (pc := 120) hx hb dX9_init_120 rfl (lv_at hl 1 rfl) ?_
  refine n_get (pc := 121) X hP ha (uw9 X.hT) (i := 0) (ml9_29_0 G a) (q := a) rfl rfl (by decide : 8 < 11) (X.tb tw_296 rfl) rfl dX9_init_121 ?_
  refine lv_iload_n (pc := 124) hx hb dX9_init_124 rfl (lv_at hl 0 rfl) ?_
  refine n_new (pc := 125) X hP hS ha tyX5 tyX5_ok (uw5 X.hT) (X.tb tw_221 rfl) (X.tb tw_251 rfl) (X.tb tw_9 rfl) rfl (fs := [.null, .int 0, .int 0]) (fun j hj => by rcases (show j = 0 ∨ j = 1 ∨ j = 2 by omega) with rfl | rfl | rfl <;> rfl) (n := 82) (ml9_29_len G a) (q := (a + 82)) rfl (L' := ml9_30 G a) rfl (Nat.le_of_ble_eq_true rfl) (Nat.le_of_ble_eq_true rfl) dX9_init_125 (fun H hP hS => ?_)
  refine lv_dup (pc := 128) hx hb dX9_init_128 rfl ?_
  refine n_initN (pc := 129) X hS ha (L := ml9_29 G a) (e0 := .inr (5, [.null, .int 0, .int 0])) (seg := seg_X5 G) (im_X5 l G) hP (X.tb tw_254 rfl) (X.tb tw_9 rfl) (X.tb tw_252 rfl) (X.tb tw_253 rfl) rfl ⟨by decide, by decide, by decide +kernel⟩ ⟨rfl, rfl, Nat.le_of_ble_eq_true rfl, Nat.le_of_ble_eq_true rfl⟩ hl.1 (Nat.le_of_ble_eq_true rfl) ⟨Nat.le_of_ble_eq_true rfl, Nat.le_of_ble_eq_true rfl⟩ (n := 82) (ml9_29_len G a) (q := (a + 82)) rfl dX9_init_129 (fun H locs hP hS => ?_)
  change SW G base P (ml9_31 G a) H at hP
  refine n_aast (pc := 132) X hP hS (by rw [ml9_31_len]; omega) ha (i := 78) (n := 4) (ml9_31_78 G a) (t0 := 5) (r := (RX5, TX5, 3)) rfl (k := 82) (ci := 5) ((ml9_31_82 G a).trans rfl) rfl (q := (a + 78)) rfl (q2 := (a + 82)) rfl (by unfold vp_in; decide) (L' := ml9_32 G a) rfl dX9_init_132 (fun H locs hP hS => ?_)
  refine lv_iinc (pc := 133) (v := (1 : Int32)) (lv' := [(1, .int (1 : Int32)), (0, .ref a)]) hx hb dX9_init_133 hl (k := 0) rfl (by decide) (by decide) rfl (fun ls hl => ?_)
  refine lv_goto (pc := 136) (tgt := 115) hx hb dX9_init_136 (by decide) ?_
  refine lv_iload_n (pc := 115) hx hb dX9_init_115 rfl (lv_at hl 0 rfl) ?_
  refine lv_iconst (pc := 116) (v := (4)) hx hb dX9_init_116 (by decide) ?_
  refine lv_icmp_ge (pc := 117) (tgt := 139) hx hb dX9_init_117 (by decide) (fun q => absurd q (by decide)) (fun _ => ?_)
  refine lv_aload_n (pc := 120) hx hb dX9_init_120 rfl (lv_at hl 1 rfl) ?_
  refine n_get (pc := 121) X hP ha (uw9 X.hT) (i := 0) (ml9_32_0 G a) (q := a) rfl rfl (by decide : 8 < 11) (X.tb tw_296 rfl) rfl dX9_init_121 ?_
  refine lv_iload_n (pc := 124) hx hb dX9_init_124 rfl (lv_at hl 0 rfl) ?_
  refine n_new (pc := 125) X hP hS ha tyX5 tyX5_ok (uw5 X.hT) (X.tb tw_221 rfl) (X.tb tw_251 rfl) (X.tb tw_9 rfl) rfl (fs := [.null, .int 0, .int 0]) (fun j hj => by rcases (show j = 0 ∨ j = 1 ∨ j = 2 by omega) with rfl | rfl | rfl <;> rfl) (n := 84) (ml9_32_len G a) (q := (a + 84)) rfl (L' := ml9_33 G a) rfl (Nat.le_of_ble_eq_true rfl) (Nat.le_of_ble_eq_true rfl) dX9_init_125 (fun H hP hS => ?_)
  refine lv_dup (pc := 128) hx hb dX9_init_128 rfl ?_
  refine n_initN (pc := 129) X hS ha (L := ml9_32 G a) (e0 := .inr (5, [.null, .int 0, .int 0])) (seg := seg_X5 G) (im_X5 l G) hP (X.tb tw_254 rfl) (X.tb tw_9 rfl) (X.tb tw_252 rfl) (X.tb tw_253 rfl) rfl ⟨by decide, by decide, by decide +kernel⟩ ⟨rfl, rfl, Nat.le_of_ble_eq_true rfl, Nat.le_of_ble_eq_true rfl⟩ hl.1 (Nat.le_of_ble_eq_true rfl) ⟨Nat.le_of_ble_eq_true rfl, Nat.le_of_ble_eq_true rfl⟩ (n := 84) (ml9_32_len G a) (q := (a + 84)) rfl dX9_init_129 (fun H locs hP hS => ?_)
  change SW G base P (ml9_34 G a) H at hP
  refine n_aast (pc := 132) X hP hS (by rw [ml9_34_len]; omega) ha (i := 78) (n := 4) (ml9_34_78 G a) (t0 := 5) (r := (RX5, TX5, 3)) rfl (k := 84) (ci := 5) ((ml9_34_84 G a).trans rfl) rfl (q := (a + 78)) rfl (q2 := (a + 84)) rfl (by unfold vp_in; decide) (L' := ml9_35 G a) rfl dX9_init_132 (fun H locs hP hS => ?_)
  refine lv_iinc (pc := 133) (v := (2 : Int32)) (lv' := [(1, .int (2 : Int32)), (0, .ref a)]) hx hb dX9_init_133 hl (k := 0) rfl (by decide) (by decide) rfl (fun ls hl => ?_)
  refine lv_goto (pc := 136) (tgt := 115) hx hb dX9_init_136 (by decide) ?_
  refine lv_iload_n (pc := 115) hx hb dX9_init_115 rfl (lv_at hl 0 rfl) ?_
  refine lv_iconst (pc := 116) (v := (4)) hx hb dX9_init_116 (by decide) ?_
  refine lv_icmp_ge (pc := 117) (tgt := 139) hx hb dX9_init_117 (by decide) (fun q => absurd q (by decide)) (fun _ => ?_)
  refine lv_aload_n (pc := 120) hx hb dX9_init_120 rfl (lv_at hl 1 rfl) ?_
  refine n_get (pc := 121) X hP ha (uw9 X.hT) (i := 0) (ml9_35_0 G a) (q := a) rfl rfl (by decide : 8 < 11) (X.tb tw_296 rfl) rfl dX9_init_121 ?_
  refine lv_iload_n (pc := 124) hx hb dX9_init_124 rfl (lv_at hl 0 rfl) ?_
  refine n_new (pc := 125) X hP hS ha tyX5 tyX5_ok (uw5 X.hT) (X.tb tw_221 rfl) (X.tb tw_251 rfl) (X.tb tw_9 rfl) rfl (fs := [.null, .int 0, .int 0]) (fun j hj => by rcases (show j = 0 ∨ j = 1 ∨ j = 2 by omega) with rfl | rfl | rfl <;> rfl) (n := 86) (ml9_35_len G a) (q := (a + 86)) rfl (L' := ml9_36 G a) rfl (Nat.le_of_ble_eq_true rfl) (Nat.le_of_ble_eq_true rfl) dX9_init_125 (fun H hP hS => ?_)
  refine lv_dup (pc := 128) hx hb dX9_init_128 rfl ?_
  refine n_initN (pc := 129) X hS ha (L := ml9_35 G a) (e0 := .inr (5, [.null, .int 0, .int 0])) (seg := seg_X5 G) (im_X5 l G) hP (X.tb tw_254 rfl) (X.tb tw_9 rfl) (X.tb tw_252 rfl) (X.tb tw_253 rfl) rfl ⟨by decide, by decide, by decide +kernel⟩ ⟨rfl, rfl, Nat.le_of_ble_eq_true rfl, Nat.le_of_ble_eq_true rfl⟩ hl.1 (Nat.le_of_ble_eq_true rfl) ⟨Nat.le_of_ble_eq_true rfl, Nat.le_of_ble_eq_true rfl⟩ (n := 86) (ml9_35_len G a) (q := (a + 86)) rfl dX9_init_129 (fun H locs hP hS => ?_)
  change SW G base P (ml9_37 G a) H at hP
  refine n_aast (pc := 132) X hP hS (by rw [ml9_37_len]; omega) ha (i := 78) (n := 4) (ml9_37_78 G a) (t0 := 5) (r := (RX5, TX5, 3)) rfl (k := 86) (ci := 5) ((ml9_37_86 G a).trans rfl) rfl (q := (a + 78)) rfl (q2 := (a + 86)) rfl (by unfold vp_in; decide) (L' := ml9_38 G a) rfl dX9_init_132 (fun H locs hP hS => ?_)
  refine lv_iinc (pc := 133) (v := (3 : Int32)) (lv' := [(1, .int (3 : Int32)), (0, .ref a)]) hx hb dX9_init_133 hl (k := 0) rfl (by decide) (by decide) rfl (fun ls hl => ?_)
  refine lv_goto (pc := 136) (tgt := 115) hx hb dX9_init_136 (by decide) ?_
  refine lv_iload_n (pc := 115) hx hb dX9_init_115 rfl (lv_at hl 0 rfl) ?_
  refine lv_iconst (pc := 116) (v := (4)) hx hb dX9_init_116 (by decide) ?_
  refine lv_icmp_ge (pc := 117) (tgt := 139) hx hb dX9_init_117 (by decide) (fun q => absurd q (by decide)) (fun _ => ?_)
  refine lv_aload_n (pc := 120) hx hb dX9_init_120 rfl (lv_at hl 1 rfl) ?_
  refine n_get (pc := 121) X hP ha (uw9 X.hT) (i := 0) (ml9_38_0 G a) (q := a) rfl rfl (by decide : 8 < 11) (X.tb tw_296 rfl) rfl dX9_init_121 ?_
  refine lv_iload_n (pc := 124) hx hb dX9_init_124 rfl (lv_at hl 0 rfl) ?_
  refine n_new (pc := 125) X hP hS ha tyX5 tyX5_ok (uw5 X.hT) (X.tb tw_221 rfl) (X.tb tw_251 rfl) (X.tb tw_9 rfl) rfl (fs := [.null, .int 0, .int 0]) (fun j hj => by rcases (show j = 0 ∨ j = 1 ∨ j = 2 by omega) with rfl | rfl | rfl <;> rfl) (n := 88) (ml9_38_len G a) (q := (a + 88)) rfl (L' := ml9_39 G a) rfl (Nat.le_of_ble_eq_true rfl) (Nat.le_of_ble_eq_true rfl) dX9_init_125 (fun H hP hS => ?_)
  refine lv_dup (pc := 128) hx hb dX9_init_128 rfl ?_
  refine n_initN (pc := 129) X hS ha (L := ml9_38 G a) (e0 := .inr (5, [.null, .int 0, .int 0])) (seg := seg_X5 G) (im_X5 l G) hP (X.tb tw_254 rfl) (X.tb tw_9 rfl) (X.tb tw_252 rfl) (X.tb tw_253 rfl) rfl ⟨by decide, by decide, by decide +kernel⟩ ⟨rfl, rfl, Nat.le_of_ble_eq_true rfl, Nat.le_of_ble_eq_true rfl⟩ hl.1 (Nat.le_of_ble_eq_true rfl) ⟨Nat.le_of_ble_eq_true rfl, Nat.le_of_ble_eq_true rfl⟩ (n := 88) (ml9_38_len G a) (q := (a + 88)) rfl dX9_init_129 (fun H locs hP hS => ?_)
  change SW G base P (ml9_40 G a) H at hP
  refine n_aast (pc := 132) X hP hS (by rw [ml9_40_len]; omega) ha (i := 78) (n := 4) (ml9_40_78 G a) (t0 := 5) (r := (RX5, TX5, 3)) rfl (k := 88) (ci := 5) ((ml9_40_88 G a).trans rfl) rfl (q := (a + 78)) rfl (q2 := (a + 88)) rfl (by unfold vp_in; decide) (L' := ml9_41 G a) rfl dX9_init_132 (fun H locs hP hS => ?_)
  refine lv_iinc (pc := 133) (v := (4 : Int32)) (lv' := [(1, .int (4 : Int32)), (0, .ref a)]) hx hb dX9_init_133 hl (k := 0) rfl (by decide) (by decide) rfl (fun ls hl => ?_)
  refine lv_goto (pc := 136) (tgt := 115) hx hb dX9_init_136 (by decide) ?_
  refine lv_iload_n (pc := 115) hx hb dX9_init_115 rfl (lv_at hl 0 rfl) ?_
  refine lv_iconst (pc := 116) (v := (4)) hx hb dX9_init_116 (by decide) ?_
  refine lv_icmp_ge (pc := 117) (tgt := 139) hx hb dX9_init_117 (by decide) (fun _ => ?_) (fun q => absurd q (by decide))
  refine lv_iconst (pc := 139) (v := (0)) hx hb dX9_init_139 (by decide) ?_
  refine lv_istore_n (pc := 140) (lv' := [(1, .int (0 : Int32)), (0, .ref a)]) hx hb dX9_init_140 rfl hl (by decide) rfl (fun ls hl => ?_)
  refine lv_iload_n (pc := 141) hx hb dX9_init_141 rfl (lv_at hl 0 rfl) ?_
  refine lv_iconst (pc := 142) (v := (4)) hx hb dX9_init_142 (by decide) ?_
  refine lv_icmp_ge (pc := 143) (tgt := 165) hx hb dX9_init_143 (by decide) (fun q => absurd q (by decide)) (fun _ => ?_)
  refine lv_aload_n (pc := 146) hx hb dX9_init_146 rfl (lv_at hl 1 rfl) ?_
  refine n_get (pc := 147) X hP ha (uw9 X.hT) (i := 0) (ml9_41_0 G a) (q := a) rfl rfl (by decide : 9 < 11) (X.tb tw_297 rfl) rfl dX9_init_147 ?_
  refine lv_iload_n (pc := 150) hx hb dX9_init_150 rfl (lv_at hl 0 rfl) ?_
  refine n_new (pc := 151) X hP hS ha tyX6 tyX6_ok (uw6 X.hT) (X.tb tw_223 rfl) (X.tb tw_270 rfl) (X.tb tw_10 rfl) rfl (fs := [.int 0, .int 0, .int 0]) (fun j hj => by rcases (show j = 0 ∨ j = 1 ∨ j = 2 by omega) with rfl | rfl | rfl <;> rfl) (n := 90) (ml9_41_len G a) (q := (a + 90)) rfl (L' := ml9_42 G a) rfl (Nat.le_of_ble_eq_true rfl) (Nat.le_of_ble_eq_true rfl) dX9_init_151 (fun H hP hS => ?_)
  refine lv_dup (pc := 154) hx hb dX9_init_154 rfl ?_
  refine n_initN (pc := 155) X hS ha (L := ml9_41 G a) (e0 := .inr (6, [.int 0, .int 0, .int 0])) (seg := seg_X6 G) (im_X6 l G) hP (X.tb tw_273 rfl) (X.tb tw_10 rfl) (X.tb tw_271 rfl) (X.tb tw_272 rfl) rfl ⟨by decide, by decide, by decide +kernel⟩ ⟨rfl, rfl, Nat.le_of_ble_eq_true rfl, Nat.le_of_ble_eq_true rfl⟩ hl.1 (Nat.le_of_ble_eq_true rfl) ⟨Nat.le_of_ble_eq_true rfl, Nat.le_of_ble_eq_true rfl⟩ (n := 90) (ml9_41_len G a) (q := (a + 90)) rfl dX9_init_155 (fun H locs hP hS => ?_)
  change SW G base P (ml9_43 G a) H at hP
  refine n_aast (pc := 158) X hP hS (by rw [ml9_43_len]; omega) ha (i := 79) (n := 4) (ml9_43_79 G a) (t0 := 6) (r := (RX6, TX6, 3)) rfl (k := 90) (ci := 6) ((ml9_43_90 G a).trans rfl) rfl (q := (a + 79)) rfl (q2 := (a + 90)) rfl (by unfold vp_in; decide) (L' := ml9_44 G a) rfl dX9_init_158 (fun H locs hP hS => ?_)
  refine lv_iinc (pc := 159) (v := (1 : Int32)) (lv' := [(1, .int (1 : Int32)), (0, .ref a)]) hx hb dX9_init_159 hl (k := 0) rfl (by decide) (by decide) rfl (fun ls hl => ?_)
  refine lv_goto (pc := 162) (tgt := 141) hx hb dX9_init_162 (by decide) ?_
  refine lv_iload_n (pc := 141) hx hb dX9_init_141 rfl (lv_at hl 0 rfl) ?_
  refine lv_iconst (pc := 142) (v := (4)) hx hb dX9_init_142 (by decide) ?_
  refine lv_icmp_ge (pc := 143) (tgt := 165) hx hb dX9_init_143 (by decide) (fun q => absurd q (by decide)) (fun _ => ?_)
  refine lv_aload_n (pc := 146) hx hb dX9_init_146 rfl (lv_at hl 1 rfl) ?_
  refine n_get (pc := 147) X hP ha (uw9 X.hT) (i := 0) (ml9_44_0 G a) (q := a) rfl rfl (by decide : 9 < 11) (X.tb tw_297 rfl) rfl dX9_init_147 ?_
  refine lv_iload_n (pc := 150) hx hb dX9_init_150 rfl (lv_at hl 0 rfl) ?_
  refine n_new (pc := 151) X hP hS ha tyX6 tyX6_ok (uw6 X.hT) (X.tb tw_223 rfl) (X.tb tw_270 rfl) (X.tb tw_10 rfl) rfl (fs := [.int 0, .int 0, .int 0]) (fun j hj => by rcases (show j = 0 ∨ j = 1 ∨ j = 2 by omega) with rfl | rfl | rfl <;> rfl) (n := 91) (ml9_44_len G a) (q := (a + 91)) rfl (L' := ml9_45 G a) rfl (Nat.le_of_ble_eq_true rfl) (Nat.le_of_ble_eq_true rfl) dX9_init_151 (fun H hP hS => ?_)
  refine lv_dup (pc := 154) hx hb dX9_init_154 rfl ?_
  refine n_initN (pc := 155) X hS ha (L := ml9_44 G a) (e0 := .inr (6, [.int 0, .int 0, .int 0])) (seg := seg_X6 G) (im_X6 l G) hP (X.tb tw_273 rfl) (X.tb tw_10 rfl) (X.tb tw_271 rfl) (X.tb tw_272 rfl) rfl ⟨by decide, by decide, by decide +kernel⟩ ⟨rfl, rfl, Nat.le_of_ble_eq_true rfl, Nat.le_of_ble_eq_true rfl⟩ hl.1 (Nat.le_of_ble_eq_true rfl) ⟨Nat.le_of_ble_eq_true rfl, Nat.le_of_ble_eq_true rfl⟩ (n := 91) (ml9_44_len G a) (q := (a + 91)) rfl dX9_init_155 (fun H locs hP hS => ?_)
  change SW G base P (ml9_46 G a) H at hP
  refine n_aast (pc := 158) X hP hS (by rw [ml9_46_len]; omega) ha (i := 79) (n := 4) (ml9_46_79 G a) (t0 := 6) (r := (RX6, TX6, 3)) rfl (k := 91) (ci := 6) ((ml9_46_91 G a).trans rfl) rfl (q := (a + 79)) rfl (q2 := (a + 91)) rfl (by unfold vp_in; decide) (L' := ml9_47 G a) rfl dX9_init_158 (fun H locs hP hS => ?_)
  refine lv_iinc (pc := 159) (v := (2 : Int32)) (lv' := [(1, .int (2 : Int32)), (0, .ref a)]) hx hb dX9_init_159 hl (k := 0) rfl (by decide) (by decide) rfl (fun ls hl => ?_)
  refine lv_goto (pc := 162) (tgt := 141) hx hb dX9_init_162 (by decide) ?_
  refine lv_iload_n (pc := 141) hx hb dX9_init_141 rfl (lv_at hl 0 rfl) ?_
  refine lv_iconst (pc := 142) (v := (4)) hx hb dX9_init_142 (by decide) ?_
  refine lv_icmp_ge (pc := 143) (tgt := 165) hx hb dX9_init_143 (by decide) (fun q => absurd q (by decide)) (fun _ => ?_)
  refine lv_aload_n (pc := 146) hx hb dX9_init_146 rfl (lv_at hl 1 rfl) ?_
  refine n_get (pc := 147) X hP ha (uw9 X.hT) (i := 0) (ml9_47_0 G a) (q := a) rfl rfl (by decide : 9 < 11) (X.tb tw_297 rfl) rfl dX9_init_147 ?_
  refine lv_iload_n (pc := 150) hx hb dX9_init_150 rfl (lv_at hl 0 rfl) ?_
  refine n_new (pc := 151) X hP hS ha tyX6 tyX6_ok (uw6 X.hT) (X.tb tw_223 rfl) (X.tb tw_270 rfl) (X.tb tw_10 rfl) rfl (fs := [.int 0, .int 0, .int 0]) (fun j hj => by rcases (show j = 0 ∨ j = 1 ∨ j = 2 by omega) with rfl | rfl | rfl <;> rfl) (n := 92) (ml9_47_len G a) (q := (a + 92)) rfl (L' := ml9_48 G a) rfl (Nat.le_of_ble_eq_true rfl) (Nat.le_of_ble_eq_true rfl) dX9_init_151 (fun H hP hS => ?_)
  refine lv_dup (pc := 154) hx hb dX9_init_154 rfl ?_
  refine n_initN (pc := 155) X hS ha (L := ml9_47 G a) (e0 := .inr (6, [.int 0, .int 0, .int 0])) (seg := seg_X6 G) (im_X6 l G) hP (X.tb tw_273 rfl) (X.tb tw_10 rfl) (X.tb tw_271 rfl) (X.tb tw_272 rfl) rfl ⟨by decide, by decide, by decide +kernel⟩ ⟨rfl, rfl, Nat.le_of_ble_eq_true rfl, Nat.le_of_ble_eq_true rfl⟩ hl.1 (Nat.le_of_ble_eq_true rfl) ⟨Nat.le_of_ble_eq_true rfl, Nat.le_of_ble_eq_true rfl⟩ (n := 92) (ml9_47_len G a) (q := (a + 92)) rfl dX9_init_155 (fun H locs hP hS => ?_)
  change SW G base P (ml9_49 G a) H at hP
  refine n_aast (pc := 158) X hP hS (by rw [ml9_49_len]; omega) ha (i := 79) (n := 4) (ml9_49_79 G a) (t0 := 6) (r := (RX6, TX6, 3)) rfl (k := 92) (ci := 6) ((ml9_49_92 G a).trans rfl) rfl (q := (a + 79)) rfl (q2 := (a + 92)) rfl (by unfold vp_in; decide) (L' := ml9_50 G a) rfl dX9_init_158 (fun H locs hP hS => ?_)
  refine lv_iinc (pc := 159) (v := (3 : Int32)) (lv' := [(1, .int (3 : Int32)), (0, .ref a)]) hx hb dX9_init_159 hl (k := 0) rfl (by decide) (by decide) rfl (fun ls hl => ?_)
  refine lv_goto (pc := 162) (tgt := 141) hx hb dX9_init_162 (by decide) ?_
  refine lv_iload_n (pc := 141) hx hb dX9_init_141 rfl (lv_at hl 0 rfl) ?_
  refine lv_iconst (pc := 142) (v := (4)) hx hb dX9_init_142 (by decide) ?_
  refine lv_icmp_ge (pc := 143) (tgt := 165) hx hb dX9_init_143 (by decide) (fun q => absurd q (by decide)) (fun _ => ?_)
  refine lv_aload_n (pc := 146) hx hb dX9_init_146 rfl (lv_at hl 1 rfl) ?_
  refine n_get (pc := 147) X hP ha (uw9 X.hT) (i := 0) (ml9_50_0 G a) (q := a) rfl rfl (by decide : 9 < 11) (X.tb tw_297 rfl) rfl dX9_init_147 ?_
  refine lv_iload_n (pc := 150) hx hb dX9_init_150 rfl (lv_at hl 0 rfl) ?_
  refine n_new (pc := 151) X hP hS ha tyX6 tyX6_ok (uw6 X.hT) (X.tb tw_223 rfl) (X.tb tw_270 rfl) (X.tb tw_10 rfl) rfl (fs := [.int 0, .int 0, .int 0]) (fun j hj => by rcases (show j = 0 ∨ j = 1 ∨ j = 2 by omega) with rfl | rfl | rfl <;> rfl) (n := 93) (ml9_50_len G a) (q := (a + 93)) rfl (L' := ml9_51 G a) rfl (Nat.le_of_ble_eq_true rfl) (Nat.le_of_ble_eq_true rfl) dX9_init_151 (fun H hP hS => ?_)
  refine lv_dup (pc := 154) hx hb dX9_init_154 rfl ?_
  refine n_initN (pc := 155) X hS ha (L := ml9_50 G a) (e0 := .inr (6, [.int 0, .int 0, .int 0])) (seg := seg_X6 G) (im_X6 l G) hP (X.tb tw_273 rfl) (X.tb tw_10 rfl) (X.tb tw_271 rfl) (X.tb tw_272 rfl) rfl ⟨by decide, by decide, by decide +kernel⟩ ⟨rfl, rfl, Nat.le_of_ble_eq_true rfl, Nat.le_of_ble_eq_true rfl⟩ hl.1 (Nat.le_of_ble_eq_true rfl) ⟨Nat.le_of_ble_eq_true rfl, Nat.le_of_ble_eq_true rfl⟩ (n := 93) (ml9_50_len G a) (q := (a + 93)) rfl dX9_init_155 (fun H locs hP hS => ?_)
  change SW G base P (ml9_52 G a) H at hP
  refine n_aast (pc := 158) X hP hS (by rw [ml9_52_len]; omega) ha (i := 79) (n := 4) (ml9_52_79 G a) (t0 := 6) (r := (RX6, TX6, 3)) rfl (k := 93) (ci := 6) ((ml9_52_93 G a).trans rfl) rfl (q := (a + 79)) rfl (q2 := (a + 93)) rfl (by unfold vp_in; decide) (L' := ml9_53 G a) rfl dX9_init_158 (fun H locs hP hS => ?_)
  refine lv_iinc (pc := 159) (v := (4 : Int32)) (lv' := [(1, .int (4 : Int32)), (0, .ref a)]) hx hb dX9_init_159 hl (k := 0) rfl (by decide) (by decide) rfl (fun ls hl => ?_)
  refine lv_goto (pc := 162) (tgt := 141) hx hb dX9_init_162 (by decide) ?_
  refine lv_iload_n (pc := 141) hx hb dX9_init_141 rfl (lv_at hl 0 rfl) ?_
  refine lv_iconst (pc := 142) (v := (4)) hx hb dX9_init_142 (by decide) ?_
  refine lv_icmp_ge (pc := 143) (tgt := 165) hx hb dX9_init_143 (by decide) (fun _ => ?_) (fun q => absurd q (by decide))
  exact n_ret X hP hS rfl rfl rfl dX9_init_165
