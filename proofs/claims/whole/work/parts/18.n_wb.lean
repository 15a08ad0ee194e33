def fz9_0 (a : Nat) : List Value := [.null, .null, .int 0, .null, .null, .null, .null, .null, .null, .null, .null]
theorem fz9_0_len (a : Nat) : (fz9_0 a).length = 11 := rfl
def ml9_0 (G : Gh) (a : Nat) : List va_E := [.inr (9, [.null, .null, .int 0, .null, .null, .null, .null, .null, .null, .null, .null])]
theorem ml9_0_len (G : Gh) (a : Nat) : (ml9_0 G a).length = 1 := rfl
theorem ml9_0_0 (G : Gh) (a : Nat) : (ml9_0 G a)[0]? = some (.inr (9, fz9_0 a)) := rfl
def ml9_1 (G : Gh) (a : Nat) : List va_E := ml9_0 G a ++ [.inr (2, [.null, .int 0, .null, .int 0, .null, .int 0, .int 0, .int 0, .int 0, .int 0, .int 0, .int 0])]
theorem ml9_1_len (G : Gh) (a : Nat) : (ml9_1 G a).length = 2 := by unfold ml9_1; rw [List.length_append, ml9_0_len]; rfl
theorem ml9_1_0 (G : Gh) (a : Nat) : (ml9_1 G a)[0]? = some (.inr (9, fz9_0 a)) := ap_at (ml9_0_0 G a)
theorem ml9_1_1 (G : Gh) (a : Nat) : (ml9_1 G a)[1]? = some (.inr (2, [.null, .int 0, .null, .int 0, .null, .int 0, .int 0, .int 0, .int 0, .int 0, .int 0, .int 0])) := ap_last (ml9_0_len G a)
def ml9_2 (G : Gh) (a : Nat) : List va_E := ml9_0 G a ++ seg_X2 G (a + 1)
theorem ml9_2_len (G : Gh) (a : Nat) : (ml9_2 G a).length = 16 := by unfold ml9_2; rw [List.length_append, ml9_0_len, seg_X2_len]
theorem ml9_2_0 (G : Gh) (a : Nat) : (ml9_2 G a)[0]? = some (.inr (9, fz9_0 a)) := apx_at (ml9_0_0 G a)
theorem ml9_2_1 (G : Gh) (a : Nat) : (ml9_2 G a)[1]? = (seg_X2 G (a + 1))[0]? := ap_hd (ml9_0_len G a)
def fz9_1 (a : Nat) : List Value := (fz9_0 a).set 0 (.ref (a + 1))
theorem fz9_1_len (a : Nat) : (fz9_1 a).length = 11 := by unfold fz9_1; rw [List.length_set]; exact fz9_0_len a
def ml9_3 (G : Gh) (a : Nat) : List va_E := (ml9_2 G a).set 0 (.inr (9, fz9_1 a))
theorem ml9_3_len (G : Gh) (a : Nat) : (ml9_3 G a).length = 16 := by unfold ml9_3; rw [List.length_set]; exact ml9_2_len G a
theorem ml9_3_0 (G : Gh) (a : Nat) : (ml9_3 G a)[0]? = some (.inr (9, fz9_1 a)) := st_same (by rw [ml9_2_len]; decide)
def ml9_4 (G : Gh) (a : Nat) : List va_E := ml9_3 G a ++ [.inr (2, [.null, .int 0, .null, .int 0, .null, .int 0, .int 0, .int 0, .int 0, .int 0, .int 0, .int 0])]
theorem ml9_4_len (G : Gh) (a : Nat) : (ml9_4 G a).length = 17 := by unfold ml9_4; rw [List.length_append, ml9_3_len]; rfl
theorem ml9_4_0 (G : Gh) (a : Nat) : (ml9_4 G a)[0]? = some (.inr (9, fz9_1 a)) := ap_at (ml9_3_0 G a)
theorem ml9_4_16 (G : Gh) (a : Nat) : (ml9_4 G a)[16]? = some (.inr (2, [.null, .int 0, .null, .int 0, .null, .int 0, .int 0, .int 0, .int 0, .int 0, .int 0, .int 0])) := ap_last (ml9_3_len G a)
def ml9_5 (G : Gh) (a : Nat) : List va_E := ml9_3 G a ++ seg_X2 G (a + 16)
theorem ml9_5_len (G : Gh) (a : Nat) : (ml9_5 G a).length = 31 := by unfold ml9_5; rw [List.length_append, ml9_3_len, seg_X2_len]
theorem ml9_5_0 (G : Gh) (a : Nat) : (ml9_5 G a)[0]? = some (.inr (9, fz9_1 a)) := apx_at (ml9_3_0 G a)
theorem ml9_5_16 (G : Gh) (a : Nat) : (ml9_5 G a)[16]? = (seg_X2 G (a + 16))[0]? := ap_hd (ml9_3_len G a)
def fz9_2 (a : Nat) : List Value := (fz9_1 a).set 1 (.ref (a + 16))
theorem fz9_2_len (a : Nat) : (fz9_2 a).length = 11 := by unfold fz9_2; rw [List.length_set]; exact fz9_1_len a
def ml9_6 (G : Gh) (a : Nat) : List va_E := (ml9_5 G a).set 0 (.inr (9, fz9_2 a))
theorem ml9_6_len (G : Gh) (a : Nat) : (ml9_6 G a).length = 31 := by unfold ml9_6; rw [List.length_set]; exact ml9_5_len G a
theorem ml9_6_0 (G : Gh) (a : Nat) : (ml9_6 G a)[0]? = some (.inr (9, fz9_2 a)) := st_same (by rw [ml9_5_len]; decide)
def fz9_3 (a : Nat) : List Value := (fz9_2 a).set 2 (.int (0 : Int32))
theorem fz9_3_len (a : Nat) : (fz9_3 a).length = 11 := by unfold fz9_3; rw [List.length_set]; exact fz9_2_len a
def ml9_7 (G : Gh) (a : Nat) : List va_E := (ml9_6 G a).set 0 (.inr (9, fz9_3 a))
theorem ml9_7_len (G : Gh) (a : Nat) : (ml9_7 G a).length = 31 := by unfold ml9_7; rw [List.length_set]; exact ml9_6_len G a
theorem ml9_7_0 (G : Gh) (a : Nat) : (ml9_7 G a)[0]? = some (.inr (9, fz9_3 a)) := st_same (by rw [ml9_6_len]; decide)
def ml9_8 (G : Gh) (a : Nat) : List va_E := ml9_7 G a ++ [.inr (2, [.null, .int 0, .null, .int 0, .null, .int 0, .int 0, .int 0, .int 0, .int 0, .int 0, .int 0])]
theorem ml9_8_len (G : Gh) (a : Nat) : (ml9_8 G a).length = 32 := by unfold ml9_8; rw [List.length_append, ml9_7_len]; rfl
theorem ml9_8_0 (G : Gh) (a : Nat) : (ml9_8 G a)[0]? = some (.inr (9, fz9_3 a)) := ap_at (ml9_7_0 G a)
theorem ml9_8_31 (G : Gh) (a : Nat) : (ml9_8 G a)[31]? = some (.inr (2, [.null, .int 0, .null, .int 0, .null, .int 0, .int 0, .int 0, .int 0, .int 0, .int 0, .int 0])) := ap_last (ml9_7_len G a)
def ml9_9 (G : Gh) (a : Nat) : List va_E := ml9_7 G a ++ seg_X2 G (a + 31)
theorem ml9_9_len (G : Gh) (a : Nat) : (ml9_9 G a).length = 46 := by unfold ml9_9; rw [List.length_append, ml9_7_len, seg_X2_len]
theorem ml9_9_0 (G : Gh) (a : Nat) : (ml9_9 G a)[0]? = some (.inr (9, fz9_3 a)) := apx_at (ml9_7_0 G a)
theorem ml9_9_31 (G : Gh) (a : Nat) : (ml9_9 G a)[31]? = (seg_X2 G (a + 31))[0]? := ap_hd (ml9_7_len G a)
def fz9_4 (a : Nat) : List Value := (fz9_3 a).set 3 (.ref (a + 31))
theorem fz9_4_len (a : Nat) : (fz9_4 a).length = 11 := by unfold fz9_4; rw [List.length_set]; exact fz9_3_len a
def ml9_10 (G : Gh) (a : Nat) : List va_E := (ml9_9 G a).set 0 (.inr (9, fz9_4 a))
theorem ml9_10_len (G : Gh) (a : Nat) : (ml9_10 G a).length = 46 := by unfold ml9_10; rw [List.length_set]; exact ml9_9_len G a
theorem ml9_10_0 (G : Gh) (a : Nat) : (ml9_10 G a)[0]? = some (.inr (9, fz9_4 a)) := st_same (by rw [ml9_9_len]; decide)
def ml9_11 (G : Gh) (a : Nat) : List va_E := ml9_10 G a ++ [.inr (7, [.null, .int 0, .int 0, .int 0])]
theorem ml9_11_len (G : Gh) (a : Nat) : (ml9_11 G a).length = 47 := by unfold ml9_11; rw [List.length_append, ml9_10_len]; rfl
theorem ml9_11_0 (G : Gh) (a : Nat) : (ml9_11 G a)[0]? = some (.inr (9, fz9_4 a)) := ap_at (ml9_10_0 G a)
theorem ml9_11_46 (G : Gh) (a : Nat) : (ml9_11 G a)[46]? = some (.inr (7, [.null, .int 0, .int 0, .int 0])) := ap_last (ml9_10_len G a)
def ml9_12 (G : Gh) (a : Nat) : List va_E := ml9_10 G a ++ seg_X7 G (a + 46)
theorem ml9_12_len (G : Gh) (a : Nat) : (ml9_12 G a).length = 48 := by unfold ml9_12; rw [List.length_append, ml9_10_len, seg_X7_len]
theorem ml9_12_0 (G : Gh) (a : Nat) : (ml9_12 G a)[0]? = some (.inr (9, fz9_4 a)) := apx_at (ml9_10_0 G a)
theorem ml9_12_46 (G : Gh) (a : Nat) : (ml9_12 G a)[46]? = (seg_X7 G (a + 46))[0]? := ap_hd (ml9_10_len G a)
def fz9_5 (a : Nat) : List Value := (fz9_4 a).set 4 (.ref (a + 46))
theorem fz9_5_len (a : Nat) : (fz9_5 a).length = 11 := by unfold fz9_5; rw [List.length_set]; exact fz9_4_len a
def ml9_13 (G : Gh) (a : Nat) : List va_E := (ml9_12 G a).set 0 (.inr (9, fz9_5 a))
theorem ml9_13_len (G : Gh) (a : Nat) : (ml9_13 G a).length = 48 := by unfold ml9_13; rw [List.length_set]; exact ml9_12_len G a
theorem ml9_13_0 (G : Gh) (a : Nat) : (ml9_13 G a)[0]? = some (.inr (9, fz9_5 a)) := st_same (by rw [ml9_12_len]; decide)
def ml9_14 (G : Gh) (a : Nat) : List va_E := ml9_13 G a ++ [.inr (8, [.null, .int 0, .int 0, .null, .null, .null, .null])]
theorem ml9_14_len (G : Gh) (a : Nat) : (ml9_14 G a).length = 49 := by unfold ml9_14; rw [List.length_append, ml9_13_len]; rfl
theorem ml9_14_0 (G : Gh) (a : Nat) : (ml9_14 G a)[0]? = some (.inr (9, fz9_5 a)) := ap_at (ml9_13_0 G a)
theorem ml9_14_48 (G : Gh) (a : Nat) : (ml9_14 G a)[48]? = some (.inr (8, [.null, .int 0, .int 0, .null, .null, .null, .null])) := ap_last (ml9_13_len G a)
def ml9_15 (G : Gh) (a : Nat) : List va_E := ml9_13 G a ++ seg_X8 G (a + 48)
theorem ml9_15_len (G : Gh) (a : Nat) : (ml9_15 G a).length = 74 := by unfold ml9_15; rw [List.length_append, ml9_13_len, seg_X8_len]
theorem ml9_15_0 (G : Gh) (a : Nat) : (ml9_15 G a)[0]? = some (.inr (9, fz9_5 a)) := apx_at (ml9_13_0 G a)
theorem ml9_15_48 (G : Gh) (a : Nat) : (ml9_15 G a)[48]? = (seg_X8 G (a + 48))[0]? := ap_hd (ml9_13_len G a)
def fz9_6 (a : Nat) : List Value := (fz9_5 a).set 5 (.ref (a + 48))
theorem fz9_6_len (a : Nat) : (fz9_6 a).length = 11 := by unfold fz9_6; rw [List.length_set]; exact fz9_5_len a
def ml9_16 (G : Gh) (a : Nat) : List va_E := (ml9_15 G a).set 0 (.inr (9, fz9_6 a))
theorem ml9_16_len (G : Gh) (a : Nat) : (ml9_16 G a).length = 74 := by unfold ml9_16; rw [List.length_set]; exact ml9_15_len G a
theorem ml9_16_0 (G : Gh) (a : Nat) : (ml9_16 G a)[0]? = some (.inr (9, fz9_6 a)) := st_same (by rw [ml9_15_len]; decide)
def ml9_17 (G : Gh) (a : Nat) : List va_E := ml9_16 G a ++ [.inr (4, [.null, .int 0])]
theorem ml9_17_len (G : Gh) (a : Nat) : (ml9_17 G a).length = 75 := by unfold ml9_17; rw [List.length_append, ml9_16_len]; rfl
theorem ml9_17_0 (G : Gh) (a : Nat) : (ml9_17 G a)[0]? = some (.inr (9, fz9_6 a)) := ap_at (ml9_16_0 G a)
theorem ml9_17_74 (G : Gh) (a : Nat) : (ml9_17 G a)[74]? = some (.inr (4, [.null, .int 0])) := ap_last (ml9_16_len G a)
def ml9_18 (G : Gh) (a : Nat) : List va_E := ml9_16 G a ++ seg_X4 G (a + 74)
theorem ml9_18_len (G : Gh) (a : Nat) : (ml9_18 G a).length = 76 := by unfold ml9_18; rw [List.length_append, ml9_16_len, seg_X4_len]
theorem ml9_18_0 (G : Gh) (a : Nat) : (ml9_18 G a)[0]? = some (.inr (9, fz9_6 a)) := apx_at (ml9_16_0 G a)
theorem ml9_18_74 (G : Gh) (a : Nat) : (ml9_18 G a)[74]? = (seg_X4 G (a + 74))[0]? := ap_hd (ml9_16_len G a)
def fz9_7 (a : Nat) : List Value := (fz9_6 a).set 6 (.ref (a + 74))
theorem fz9_7_len (a : Nat) : (fz9_7 a).length = 11 := by unfold fz9_7; rw [List.length_set]; exact fz9_6_len a
def ml9_19 (G : Gh) (a : Nat) : List va_E := (ml9_18 G a).set 0 (.inr (9, fz9_7 a))
theorem ml9_19_len (G : Gh) (a : Nat) : (ml9_19 G a).length = 76 := by unfold ml9_19; rw [List.length_set]; exact ml9_18_len G a
theorem ml9_19_0 (G : Gh) (a : Nat) : (ml9_19 G a)[0]? = some (.inr (9, fz9_7 a)) := st_same (by rw [ml9_18_len]; decide)
def ml9_20 (G : Gh) (a : Nat) : List va_E := ml9_19 G a ++ [.inr (4, [.null, .int 0])]
theorem ml9_20_len (G : Gh) (a : Nat) : (ml9_20 G a).length = 77 := by unfold ml9_20; rw [List.length_append, ml9_19_len]; rfl
theorem ml9_20_0 (G : Gh) (a : Nat) : (ml9_20 G a)[0]? = some (.inr (9, fz9_7 a)) := ap_at (ml9_19_0 G a)
theorem ml9_20_76 (G : Gh) (a : Nat) : (ml9_20 G a)[76]? = some (.inr (4, [.null, .int 0])) := ap_last (ml9_19_len G a)
def ml9_21 (G : Gh) (a : Nat) : List va_E := ml9_19 G a ++ seg_X4 G (a + 76)
theorem ml9_21_len (G : Gh) (a : Nat) : (ml9_21 G a).length = 78 := by unfold ml9_21; rw [List.length_append, ml9_19_len, seg_X4_len]
theorem ml9_21_0 (G : Gh) (a : Nat) : (ml9_21 G a)[0]? = some (.inr (9, fz9_7 a)) := apx_at (ml9_19_0 G a)
theorem ml9_21_76 (G : Gh) (a : Nat) : (ml9_21 G a)[76]? = (seg_X4 G (a + 76))[0]? := ap_hd (ml9_19_len G a)
def fz9_8 (a : Nat) : List Value := (fz9_7 a).set 7 (.ref (a + 76))
theorem fz9_8_len (a : Nat) : (fz9_8 a).length = 11 := by unfold fz9_8; rw [List.length_set]; exact fz9_7_len a
def ml9_22 (G : Gh) (a : Nat) : List va_E := (ml9_21 G a).set 0 (.inr (9, fz9_8 a))
theorem ml9_22_len (G : Gh) (a : Nat) : (ml9_22 G a).length = 78 := by unfold ml9_22; rw [List.length_set]; exact ml9_21_len G a
theorem ml9_22_0 (G : Gh) (a : Nat) : (ml9_22 G a)[0]? = some (.inr (9, fz9_8 a)) := st_same (by rw [ml9_21_len]; decide)
def ml9_23 (G : Gh) (a : Nat) : List va_E := ml9_22 G a ++ [.inl (gc G 5, 4, .inr (.inr (.inr (.inr (fun _ => none)))))]
theorem ml9_23_len (G : Gh) (a : Nat) : (ml9_23 G a).length = 79 := by unfold ml9_23; rw [List.length_append, ml9_22_len]; rfl
theorem ml9_23_0 (G : Gh) (a : Nat) : (ml9_23 G a)[0]? = some (.inr (9, fz9_8 a)) := ap_at (ml9_22_0 G a)
theorem ml9_23_78 (G : Gh) (a : Nat) : (ml9_23 G a)[78]? = some (.inl (gc G 5, 4, .inr (.inr (.inr (.inr (fun _ => none)))))) := ap_last (ml9_22_len G a)
def fz9_9 (a : Nat) : List Value := (fz9_8 a).set 8 (.ref (a + 78))
theorem fz9_9_len (a : Nat) : (fz9_9 a).length = 11 := by unfold fz9_9; rw [List.length_set]; exact fz9_8_len a
def ml9_24 (G : Gh) (a : Nat) : List va_E := (ml9_23 G a).set 0 (.inr (9, fz9_9 a))
theorem ml9_24_len (G : Gh) (a : Nat) : (ml9_24 G a).length = 79 := by unfold ml9_24; rw [List.length_set]; exact ml9_23_len G a
theorem ml9_24_78 (G : Gh) (a : Nat) : (ml9_24 G a)[78]? = some (.inl (gc G 5, 4, .inr (.inr (.inr (.inr (fun _ => none)))))) := st_ne (by decide) (ml9_23_78 G a)
theorem ml9_24_0 (G : Gh) (a : Nat) : (ml9_24 G a)[0]? = some (.inr (9, fz9_9 a)) := st_same (by rw [ml9_23_len]; decide)
def ml9_25 (G : Gh) (a : Nat) : List va_E := ml9_24 G a ++ [.inl (gc G 6, 4, .inr (.inr (.inr (.inr (fun _ => none)))))]
theorem ml9_25_len (G : Gh) (a : Nat) : (ml9_25 G a).length = 80 := by unfold ml9_25; rw [List.length_append, ml9_24_len]; rfl
theorem ml9_25_0 (G : Gh) (a : Nat) : (ml9_25 G a)[0]? = some (.inr (9, fz9_9 a)) := ap_at (ml9_24_0 G a)
theorem ml9_25_78 (G : Gh) (a : Nat) : (ml9_25 G a)[78]? = some (.inl (gc G 5, 4, .inr (.inr (.inr (.inr (fun _ => none)))))) := ap_at (ml9_24_78 G a)
theorem ml9_25_79 (G : Gh) (a : Nat) : (ml9_25 G a)[79]? = some (.inl (gc G 6, 4, .inr (.inr (.inr (.inr (fun _ => none)))))) := ap_last (ml9_24_len G a)
def fz9_10 (a : Nat) : List Value := (fz9_9 a).set 9 (.ref (a + 79))
theorem fz9_10_len (a : Nat) : (fz9_10 a).length = 11 := by unfold fz9_10; rw [List.length_set]; exact fz9_9_len a
def ml9_26 (G : Gh) (a : Nat) : List va_E := (ml9_25 G a).set 0 (.inr (9, fz9_10 a))
theorem ml9_26_len (G : Gh) (a : Nat) : (ml9_26 G a).length = 80 := by unfold ml9_26; rw [List.length_set]; exact ml9_25_len G a
theorem ml9_26_78 (G : Gh) (a : Nat) : (ml9_26 G a)[78]? = some (.inl (gc G 5, 4, .inr (.inr (.inr (.inr (fun _ => none)))))) := st_ne (by decide) (ml9_25_78 G a)
theorem ml9_26_79 (G : Gh) (a : Nat) : (ml9_26 G a)[79]? = some (.inl (gc G 6, 4, .inr (.inr (.inr (.inr (fun _ => none)))))) := st_ne (by decide) (ml9_25_79 G a)
theorem ml9_26_0 (G : Gh) (a : Nat) : (ml9_26 G a)[0]? = some (.inr (9, fz9_10 a)) := st_same (by rw [ml9_25_len]; decide)
def ml9_27 (G : Gh) (a : Nat) : List va_E := ml9_26 G a ++ [.inr (1, [.null, .int 0, .int 0, .int 0, .int 0, .int 0])]
theorem ml9_27_len (G : Gh) (a : Nat) : (ml9_27 G a).length = 81 := by unfold ml9_27; rw [List.length_append, ml9_26_len]; rfl
theorem ml9_27_0 (G : Gh) (a : Nat) : (ml9_27 G a)[0]? = some (.inr (9, fz9_10 a)) := ap_at (ml9_26_0 G a)
theorem ml9_27_78 (G : Gh) (a : Nat) : (ml9_27 G a)[78]? = some (.inl (gc G 5, 4, .inr (.inr (.inr (.inr (fun _ => none)))))) := ap_at (ml9_26_78 G a)
theorem ml9_27_79 (G : Gh) (a : Nat) : (ml9_27 G a)[79]? = some (.inl (gc G 6, 4, .inr (.inr (.inr (.inr (fun _ => none)))))) := ap_at (ml9_26_79 G a)
theorem ml9_27_80 (G : Gh) (a : Nat) : (ml9_27 G a)[80]? = some (.inr (1, [.null, .int 0, .int 0, .int 0, .int 0, .int 0])) := ap_last (ml9_26_len G a)
def ml9_28 (G : Gh) (a : Nat) : List va_E := ml9_26 G a ++ seg_X1 G (a + 80)
theorem ml9_28_len (G : Gh) (a : Nat) : (ml9_28 G a).length = 82 := by unfold ml9_28; rw [List.length_append, ml9_26_len, seg_X1_len]
theorem ml9_28_0 (G : Gh) (a : Nat) : (ml9_28 G a)[0]? = some (.inr (9, fz9_10 a)) := apx_at (ml9_26_0 G a)
theorem ml9_28_78 (G : Gh) (a : Nat) : (ml9_28 G a)[78]? = some (.inl (gc G 5, 4, .inr (.inr (.inr (.inr (fun _ => none)))))) := apx_at (ml9_26_78 G a)
theorem ml9_28_79 (G : Gh) (a : Nat) : (ml9_28 G a)[79]? = some (.inl (gc G 6, 4, .inr (.inr (.inr (.inr (fun _ => none)))))) := apx_at (ml9_26_79 G a)
theorem ml9_28_80 (G : Gh) (a : Nat) : (ml9_28 G a)[80]? = (seg_X1 G (a + 80))[0]? := ap_hd (ml9_26_len G a)
def fz9_11 (a : Nat) : List Value := (fz9_10 a).set 10 (.ref (a + 80))
theorem fz9_11_len (a : Nat) : (fz9_11 a).length = 11 := by unfold fz9_11; rw [List.length_set]; exact fz9_10_len a
def ml9_29 (G : Gh) (a : Nat) : List va_E := (ml9_28 G a).set 0 (.inr (9, fz9_11 a))
theorem ml9_29_len (G : Gh) (a : Nat) : (ml9_29 G a).length = 82 := by unfold ml9_29; rw [List.length_set]; exact ml9_28_len G a
theorem ml9_29_78 (G : Gh) (a : Nat) : (ml9_29 G a)[78]? = some (.inl (gc G 5, 4, .inr (.inr (.inr (.inr (fun _ => none)))))) := st_ne (by decide) (ml9_28_78 G a)
theorem ml9_29_79 (G : Gh) (a : Nat) : (ml9_29 G a)[79]? = some (.inl (gc G 6, 4, .inr (.inr (.inr (.inr (fun _ => none)))))) := st_ne (by decide) (ml9_28_79 G a)
theorem ml9_29_0 (G : Gh) (a : Nat) : (ml9_29 G a)[0]? = some (.inr (9, fz9_11 a)) := st_same (by rw [ml9_28_len]; decide)
def ml9_30 (G : Gh) (a : Nat) : List va_E := ml9_29 G a ++ [.inr (5, [.null, .int 0, .int 0])]
theorem ml9_30_len (G : Gh) (a : Nat) : (ml9_30 G a).length = 83 := by unfold ml9_30; rw [List.length_append, ml9_29_len]; rfl
theorem ml9_30_0 (G : Gh) (a : Nat) : (ml9_30 G a)[0]? = some (.inr (9, fz9_11 a)) := ap_at (ml9_29_0 G a)
theorem ml9_30_78 (G : Gh) (a : Nat) : (ml9_30 G a)[78]? = some (.inl (gc G 5, 4, .inr (.inr (.inr (.inr (fun _ => none)))))) := ap_at (ml9_29_78 G a)
theorem ml9_30_79 (G : Gh) (a : Nat) : (ml9_30 G a)[79]? = some (.inl (gc G 6, 4, .inr (.inr (.inr (.inr (fun _ => none)))))) := ap_at (ml9_29_79 G a)
theorem ml9_30_82 (G : Gh) (a : Nat) : (ml9_30 G a)[82]? = some (.inr (5, [.null, .int 0, .int 0])) := ap_last (ml9_29_len G a)
def ml9_31 (G : Gh) (a : Nat) : List va_E := ml9_29 G a ++ seg_X5 G (a + 82)
theorem ml9_31_len (G : Gh) (a : Nat) : (ml9_31 G a).length = 84 := by unfold ml9_31; rw [List.length_append, ml9_29_len, seg_X5_len]
theorem ml9_31_0 (G : Gh) (a : Nat) : (ml9_31 G a)[0]? = some (.inr (9, fz9_11 a)) := apx_at (ml9_29_0 G a)
theorem ml9_31_78 (G : Gh) (a : Nat) : (ml9_31 G a)[78]? = some (.inl (gc G 5, 4, .inr (.inr (.inr (.inr (fun _ => none)))))) := apx_at (ml9_29_78 G a)
theorem ml9_31_79 (G : Gh) (a : Nat) : (ml9_31 G a)[79]? = some (.inl (gc G 6, 4, .inr (.inr (.inr (.inr (fun _ => none)))))) := apx_at (ml9_29_79 G a)
theorem ml9_31_82 (G : Gh) (a : Nat) : (ml9_31 G a)[82]? = (seg_X5 G (a + 82))[0]? := ap_hd (ml9_29_len G a)
def ml9_32 (G : Gh) (a : Nat) : List va_E := (ml9_31 G a).set 78 (.inl (gc G 5, 4, .inr (.inr (.inr (.inr (va_up (fun _ => none) ((0 : Int32)).toNatClampNeg (some (a + 82))))))))
theorem ml9_32_len (G : Gh) (a : Nat) : (ml9_32 G a).length = 84 := by unfold ml9_32; rw [List.length_set]; exact ml9_31_len G a
theorem ml9_32_0 (G : Gh) (a : Nat) : (ml9_32 G a)[0]? = some (.inr (9, fz9_11 a)) := st_ne (by decide) (ml9_31_0 G a)
theorem ml9_32_79 (G : Gh) (a : Nat) : (ml9_32 G a)[79]? = some (.inl (gc G 6, 4, .inr (.inr (.inr (.inr (fun _ => none)))))) := st_ne (by decide) (ml9_31_79 G a)
theorem ml9_32_78 (G : Gh) (a : Nat) : (ml9_32 G a)[78]? = some (.inl (gc G 5, 4, .inr (.inr (.inr (.inr (va_up (fun _ => none) ((0 : Int32)).toNatClampNeg (some (a + 82)))))))) := st_same (by rw [ml9_31_len]; decide)
def ml9_33 (G : Gh) (a : Nat) : List va_E := ml9_32 G a ++ [.inr (5, [.null, .int 0, .int 0])]
theorem ml9_33_len (G : Gh) (a : Nat) : (ml9_33 G a).length = 85 := by unfold ml9_33; rw [List.length_append, ml9_32_len]; rfl
theorem ml9_33_0 (G : Gh) (a : Nat) : (ml9_33 G a)[0]? = some (.inr (9, fz9_11 a)) := ap_at (ml9_32_0 G a)
theorem ml9_33_78 (G : Gh) (a : Nat) : (ml9_33 G a)[78]? = some (.inl (gc G 5, 4, .inr (.inr (.inr (.inr (va_up (fun _ => none) ((0 : Int32)).toNatClampNeg (some (a + 82)))))))) := ap_at (ml9_32_78 G a)
theorem ml9_33_79 (G : Gh) (a : Nat) : (ml9_33 G a)[79]? = some (.inl (gc G 6, 4, .inr (.inr (.inr (.inr (fun _ => none)))))) := ap_at (ml9_32_79 G a)
theorem ml9_33_84 (G : Gh) (a : Nat) : (ml9_33 G a)[84]? = some (.inr (5, [.null, .int 0, .int 0])) := ap_last (ml9_32_len G a)
def ml9_34 (G : Gh) (a : Nat) : List va_E := ml9_32 G a ++ seg_X5 G (a + 84)
theorem ml9_34_len (G : Gh) (a : Nat) : (ml9_34 G a).length = 86 := by unfold ml9_34; rw [List.length_append, ml9_32_len, seg_X5_len]
theorem ml9_34_0 (G : Gh) (a : Nat) : (ml9_34 G a)[0]? = some (.inr (9, fz9_11 a)) := apx_at (ml9_32_0 G a)
theorem ml9_34_78 (G : Gh) (a : Nat) : (ml9_34 G a)[78]? = some (.inl (gc G 5, 4, .inr (.inr (.inr (.inr (va_up (fun _ => none) ((0 : Int32)).toNatClampNeg (some (a + 82)))))))) := apx_at (ml9_32_78 G a)
theorem ml9_34_79 (G : Gh) (a : Nat) : (ml9_34 G a)[79]? = some (.inl (gc G 6, 4, .inr (.inr (.inr (.inr (fun _ => none)))))) := apx_at (ml9_32_79 G a)
theorem ml9_34_84 (G : Gh) (a : Nat) : (ml9_34 G a)[84]? = (seg_X5 G (a + 84))[0]? := ap_hd (ml9_32_len G a)
def ml9_35 (G : Gh) (a : Nat) : List va_E := (ml9_34 G a).set 78 (.inl (gc G 5, 4, .inr (.inr (.inr (.inr (va_up (va_up (fun _ => none) ((0 : Int32)).toNatClampNeg (some (a + 82))) ((1 : Int32)).toNatClampNeg (some (a + 84))))))))
theorem ml9_35_len (G : Gh) (a : Nat) : (ml9_35 G a).length = 86 := by unfold ml9_35; rw [List.length_set]; exact ml9_34_len G a
theorem ml9_35_0 (G : Gh) (a : Nat) : (ml9_35 G a)[0]? = some (.inr (9, fz9_11 a)) := st_ne (by decide) (ml9_34_0 G a)
theorem ml9_35_79 (G : Gh) (a : Nat) : (ml9_35 G a)[79]? = some (.inl (gc G 6, 4, .inr (.inr (.inr (.inr (fun _ => none)))))) := st_ne (by decide) (ml9_34_79 G a)
theorem ml9_35_78 (G : Gh) (a : Nat) : (ml9_35 G a)[78]? = some (.inl (gc G 5, 4, .inr (.inr (.inr (.inr (va_up (va_up (fun _ => none) ((0 : Int32)).toNatClampNeg (some (a + 82))) ((1 : Int32)).toNatClampNeg (some (a + 84)))))))) := st_same (by rw [ml9_34_len]; decide)
def ml9_36 (G : Gh) (a : Nat) : List va_E := ml9_35 G a ++ [.inr (5, [.null, .int 0, .int 0])]
theorem ml9_36_len (G : Gh) (a : Nat) : (ml9_36 G a).length = 87 := by unfold ml9_36; rw [List.length_append, ml9_35_len]; rfl
theorem ml9_36_0 (G : Gh) (a : Nat) : (ml9_36 G a)[0]? = some (.inr (9, fz9_11 a)) := ap_at (ml9_35_0 G a)
theorem ml9_36_78 (G : Gh) (a : Nat) : (ml9_36 G a)[78]? = some (.inl (gc G 5, 4, .inr (.inr (.inr (.inr (va_up (va_up (fun _ => none) ((0 : Int32)).toNatClampNeg (some (a + 82))) ((1 : Int32)).toNatClampNeg (some (a + 84)))))))) := ap_at (ml9_35_78 G a)
theorem ml9_36_79 (G : Gh) (a : Nat) : (ml9_36 G a)[79]? = some (.inl (gc G 6, 4, .inr (.inr (.inr (.inr (fun _ => none)))))) := ap_at (ml9_35_79 G a)
theorem ml9_36_86 (G : Gh) (a : Nat) : (ml9_36 G a)[86]? = some (.inr (5, [.null, .int 0, .int 0])) := ap_last (ml9_35_len G a)
def ml9_37 (G : Gh) (a : Nat) : List va_E := ml9_35 G a ++ seg_X5 G (a + 86)
theorem ml9_37_len (G : Gh) (a : Nat) : (ml9_37 G a).length = 88 := by unfold ml9_37; rw [List.length_append, ml9_35_len, seg_X5_len]
theorem ml9_37_0 (G : Gh) (a : Nat) : (ml9_37 G a)[0]? = some (.inr (9, fz9_11 a)) := apx_at (ml9_35_0 G a)
theorem ml9_37_78 (G : Gh) (a : Nat) : (ml9_37 G a)[78]? = some (.inl (gc G 5, 4, .inr (.inr (.inr (.inr (va_up (va_up (fun _ => none) ((0 : Int32)).toNatClampNeg (some (a + 82))) ((1 : Int32)).toNatClampNeg (some (a + 84)))))))) := apx_at (ml9_35_78 G a)
theorem ml9_37_79 (G : Gh) (a : Nat) : (ml9_37 G a)[79]? = some (.inl (gc G 6, 4, .inr (.inr (.inr (.inr (fun _ => none)))))) := apx_at (ml9_35_79 G a)
theorem ml9_37_86 (G : Gh) (a : Nat) : (ml9_37 G a)[86]? = (seg_X5 G (a + 86))[0]? := ap_hd (ml9_35_len G a)
def ml9_38 (G : Gh) (a : Nat) : List va_E := (ml9_37 G a).set 78 (.inl (gc G 5, 4, .inr (.inr (.inr (.inr (va_up (va_up (va_up (fun _ => none) ((0 : Int32)).toNatClampNeg (some (a + 82))) ((1 : Int32)).toNatClampNeg (some (a + 84))) ((2 : Int32)).toNatClampNeg (some (a + 86))))))))
theorem ml9_38_len (G : Gh) (a : Nat) : (ml9_38 G a).length = 88 := by unfold ml9_38; rw [List.length_set]; exact ml9_37_len G a
theorem ml9_38_0 (G : Gh) (a : Nat) : (ml9_38 G a)[0]? = some (.inr (9, fz9_11 a)) := st_ne (by decide) (ml9_37_0 G a)
theorem ml9_38_79 (G : Gh) (a : Nat) : (ml9_38 G a)[79]? = some (.inl (gc G 6, 4, .inr (.inr (.inr (.inr (fun _ => none)))))) := st_ne (by decide) (ml9_37_79 G a)
theorem ml9_38_78 (G : Gh) (a : Nat) : (ml9_38 G a)[78]? = some (.inl (gc G 5, 4, .inr (.inr (.inr (.inr (va_up (va_up (va_up (fun _ => none) ((0 : Int32)).toNatClampNeg (some (a + 82))) ((1 : Int32)).toNatClampNeg (some (a + 84))) ((2 : Int32)).toNatClampNeg (some (a + 86)))))))) := st_same (by rw [ml9_37_len]; decide)
def ml9_39 (G : Gh) (a : Nat) : List va_E := ml9_38 G a ++ [.inr (5, [.null, .int 0, .int 0])]
theorem ml9_39_len (G : Gh) (a : Nat) : (ml9_39 G a).length = 89 := by unfold ml9_39; rw [List.length_append, ml9_38_len]; rfl
theorem ml9_39_0 (G : Gh) (a : Nat) : (ml9_39 G a)[0]? = some (.inr (9, fz9_11 a)) := ap_at (ml9_38_0 G a)
theorem ml9_39_78 (G : Gh) (a : Nat) : (ml9_39 G a)[78]? = some (.inl (gc G 5, 4, .inr (.inr (.inr (.inr (va_up (va_up (va_up (fun _ => none) ((0 : Int32)).toNatClampNeg (some (a + 82))) ((1 : Int32)).toNatClampNeg (some (a + 84))) ((2 : Int32)).toNatClampNeg (some (a + 86)))))))) := ap_at (ml9_38_78 G a)
theorem ml9_39_79 (G : Gh) (a : Nat) : (ml9_39 G a)[79]? = some (.inl (gc G 6, 4, .inr (.inr (.inr (.inr (fun _ => none)))))) := ap_at (ml9_38_79 G a)
theorem ml9_39_88 (G : Gh) (a : Nat) : (ml9_39 G a)[88]? = some (.inr (5, [.null, .int 0, .int 0])) := ap_last (ml9_38_len G a)
def ml9_40 (G : Gh) (a : Nat) : List va_E := ml9_38 G a ++ seg_X5 G (a + 88)
theorem ml9_40_len (G : Gh) (a : Nat) : (ml9_40 G a).length = 90 := by unfold ml9_40; rw [List.length_append, ml9_38_len, seg_X5_len]
theorem ml9_40_0 (G : Gh) (a : Nat) : (ml9_40 G a)[0]? = some (.inr (9, fz9_11 a)) := apx_at (ml9_38_0 G a)
theorem ml9_40_78 (G : Gh) (a : Nat) : (ml9_40 G a)[78]? = some (.inl (gc G 5, 4, .inr (.inr (.inr (.inr (va_up (va_up (va_up (fun _ => none) ((0 : Int32)).toNatClampNeg (some (a + 82))) ((1 : Int32)).toNatClampNeg (some (a + 84))) ((2 : Int32)).toNatClampNeg (some (a + 86)))))))) := apx_at (ml9_38_78 G a)
theorem ml9_40_79 (G : Gh) (a : Nat) : (ml9_40 G a)[79]? = some (.inl (gc G 6, 4, .inr (.inr (.inr (.inr (fun _ => none)))))) := apx_at (ml9_38_79 G a)
theorem ml9_40_88 (G : Gh) (a : Nat) : (ml9_40 G a)[88]? = (seg_X5 G (a + 88))[0]? := ap_hd (ml9_38_len G a)
def ml9_41 (G : Gh) (a : Nat) : List va_E := (ml9_40 G a).set 78 (.inl (gc G 5, 4, .inr (.inr (.inr (.inr (va_up (va_up (va_up (va_up (fun _ => none) ((0 : Int32)).toNatClampNeg (some (a + 82))) ((1 : Int32)).toNatClampNeg (some (a + 84))) ((2 : Int32)).toNatClampNeg (some (a + 86))) ((3 : Int32)).toNatClampNeg (some (a + 88))))))))
theorem ml9_41_len (G : Gh) (a : Nat) : (ml9_41 G a).length = 90 := by unfold ml9_41; rw [List.length_set]; exact ml9_40_len G a
theorem ml9_41_0 (G : Gh) (a : Nat) : (ml9_41 G a)[0]? = some (.inr (9, fz9_11 a)) := st_ne (by decide) (ml9_40_0 G a)
theorem ml9_41_79 (G : Gh) (a : Nat) : (ml9_41 G a)[79]? = some (.inl (gc G 6, 4, .inr (.inr (.inr (.inr (fun _ => none)))))) := st_ne (by decide) (ml9_40_79 G a)
theorem ml9_41_78 (G : Gh) (a : Nat) : (ml9_41 G a)[78]? = some (.inl (gc G 5, 4, .inr (.inr (.inr (.inr (va_up (va_up (va_up (va_up (fun _ => none) ((0 : Int32)).toNatClampNeg (some (a + 82))) ((1 : Int32)).toNatClampNeg (some (a + 84))) ((2 : Int32)).toNatClampNeg (some (a + 86))) ((3 : Int32)).toNatClampNeg (some (a + 88)))))))) := st_same (by rw [ml9_40_len]; decide)
def ml9_42 (G : Gh) (a : Nat) : List va_E := ml9_41 G a ++ [.inr (6, [.int 0, .int 0, .int 0])]
theorem ml9_42_len (G : Gh) (a : Nat) : (ml9_42 G a).length = 91 := by unfold ml9_42; rw [List.length_append, ml9_41_len]; rfl
theorem ml9_42_0 (G : Gh) (a : Nat) : (ml9_42 G a)[0]? = some (.inr (9, fz9_11 a)) := ap_at (ml9_41_0 G a)
theorem ml9_42_78 (G : Gh) (a : Nat) : (ml9_42 G a)[78]? = some (.inl (gc G 5, 4, .inr (.inr (.inr (.inr (va_up (va_up (va_up (va_up (fun _ => none) ((0 : Int32)).toNatClampNeg (some (a + 82))) ((1 : Int32)).toNatClampNeg (some (a + 84))) ((2 : Int32)).toNatClampNeg (some (a + 86))) ((3 : Int32)).toNatClampNeg (some (a + 88)))))))) := ap_at (ml9_41_78 G a)
theorem ml9_42_79 (G : Gh) (a : Nat) : (ml9_42 G a)[79]? = some (.inl (gc G 6, 4, .inr (.inr (.inr (.inr (fun _ => none)))))) := ap_at (ml9_41_79 G a)
theorem ml9_42_90 (G : Gh) (a : Nat) : (ml9_42 G a)[90]? = some (.inr (6, [.int 0, .int 0, .int 0])) := ap_last (ml9_41_len G a)
def ml9_43 (G : Gh) (a : Nat) : List va_E := ml9_41 G a ++ seg_X6 G (a + 90)
theorem ml9_43_len (G : Gh) (a : Nat) : (ml9_43 G a).length = 91 := by unfold ml9_43; rw [List.length_append, ml9_41_len, seg_X6_len]
theorem ml9_43_0 (G : Gh) (a : Nat) : (ml9_43 G a)[0]? = some (.inr (9, fz9_11 a)) := apx_at (ml9_41_0 G a)
theorem ml9_43_78 (G : Gh) (a : Nat) : (ml9_43 G a)[78]? = some (.inl (gc G 5, 4, .inr (.inr (.inr (.inr (va_up (va_up (va_up (va_up (fun _ => none) ((0 : Int32)).toNatClampNeg (some (a + 82))) ((1 : Int32)).toNatClampNeg (some (a + 84))) ((2 : Int32)).toNatClampNeg (some (a + 86))) ((3 : Int32)).toNatClampNeg (some (a + 88)))))))) := apx_at (ml9_41_78 G a)
theorem ml9_43_79 (G : Gh) (a : Nat) : (ml9_43 G a)[79]? = some (.inl (gc G 6, 4, .inr (.inr (.inr (.inr (fun _ => none)))))) := apx_at (ml9_41_79 G a)
theorem ml9_43_90 (G : Gh) (a : Nat) : (ml9_43 G a)[90]? = (seg_X6 G (a + 90))[0]? := ap_hd (ml9_41_len G a)
def ml9_44 (G : Gh) (a : Nat) : List va_E := (ml9_43 G a).set 79 (.inl (gc G 6, 4, .inr (.inr (.inr (.inr (va_up (fun _ => none) ((0 : Int32)).toNatClampNeg (some (a + 90))))))))
theorem ml9_44_len (G : Gh) (a : Nat) : (ml9_44 G a).length = 91 := by unfold ml9_44; rw [List.length_set]; exact ml9_43_len G a
theorem ml9_44_0 (G : Gh) (a : Nat) : (ml9_44 G a)[0]? = some (.inr (9, fz9_11 a)) := st_ne (by decide) (ml9_43_0 G a)
theorem ml9_44_78 (G : Gh) (a : Nat) : (ml9_44 G a)[78]? = some (.inl (gc G 5, 4, .inr (.inr (.inr (.inr (va_up (va_up (va_up (va_up (fun _ => none) ((0 : Int32)).toNatClampNeg (some (a + 82))) ((1 : Int32)).toNatClampNeg (some (a + 84))) ((2 : Int32)).toNatClampNeg (some (a + 86))) ((3 : Int32)).toNatClampNeg (some (a + 88)))))))) := st_ne (by decide) (ml9_43_78 G a)
theorem ml9_44_79 (G : Gh) (a : Nat) : (ml9_44 G a)[79]? = some (.inl (gc G 6, 4, .inr (.inr (.inr (.inr (va_up (fun _ => none) ((0 : Int32)).toNatClampNeg (some (a + 90)))))))) := st_same (by rw [ml9_43_len]; decide)
def ml9_45 (G : Gh) (a : Nat) : List va_E := ml9_44 G a ++ [.inr (6, [.int 0, .int 0, .int 0])]
theorem ml9_45_len (G : Gh) (a : Nat) : (ml9_45 G a).length = 92 := by unfold ml9_45; rw [List.length_append, ml9_44_len]; rfl
theorem ml9_45_0 (G : Gh) (a : Nat) : (ml9_45 G a)[0]? = some (.inr (9, fz9_11 a)) := ap_at (ml9_44_0 G a)
theorem ml9_45_78 (G : Gh) (a : Nat) : (ml9_45 G a)[78]? = some (.inl (gc G 5, 4, .inr (.inr (.inr (.inr (va_up (va_up (va_up (va_up (fun _ => none) ((0 : Int32)).toNatClampNeg (some (a + 82))) ((1 : Int32)).toNatClampNeg (some (a + 84))) ((2 : Int32)).toNatClampNeg (some (a + 86))) ((3 : Int32)).toNatClampNeg (some (a + 88)))))))) := ap_at (ml9_44_78 G a)
theorem ml9_45_79 (G : Gh) (a : Nat) : (ml9_45 G a)[79]? = some (.inl (gc G 6, 4, .inr (.inr (.inr (.inr (va_up (fun _ => none) ((0 : Int32)).toNatClampNeg (some (a + 90)))))))) := ap_at (ml9_44_79 G a)
theorem ml9_45_91 (G : Gh) (a : Nat) : (ml9_45 G a)[91]? = some (.inr (6, [.int 0, .int 0, .int 0])) := ap_last (ml9_44_len G a)
def ml9_46 (G : Gh) (a : Nat) : List va_E := ml9_44 G a ++ seg_X6 G (a + 91)
theorem ml9_46_len (G : Gh) (a : Nat) : (ml9_46 G a).length = 92 := by unfold ml9_46; rw [List.length_append, ml9_44_len, seg_X6_len]
theorem ml9_46_0 (G : Gh) (a : Nat) : (ml9_46 G a)[0]? = some (.inr (9, fz9_11 a)) := apx_at (ml9_44_0 G a)
theorem ml9_46_78 (G : Gh) (a : Nat) : (ml9_46 G a)[78]? = some (.inl (gc G 5, 4, .inr (.inr (.inr (.inr (va_up (va_up (va_up (va_up (fun _ => none) ((0 : Int32)).toNatClampNeg (some (a + 82))) ((1 : Int32)).toNatClampNeg (some (a + 84))) ((2 : Int32)).toNatClampNeg (some (a + 86))) ((3 : Int32)).toNatClampNeg (some (a + 88)))))))) := apx_at (ml9_44_78 G a)
theorem ml9_46_79 (G : Gh) (a : Nat) : (ml9_46 G a)[79]? = some (.inl (gc G 6, 4, .inr (.inr (.inr (.inr (va_up (fun _ => none) ((0 : Int32)).toNatClampNeg (some (a + 90)))))))) := apx_at (ml9_44_79 G a)
theorem ml9_46_91 (G : Gh) (a : Nat) : (ml9_46 G a)[91]? = (seg_X6 G (a + 91))[0]? := ap_hd (ml9_44_len G a)
def ml9_47 (G : Gh) (a : Nat) : List va_E := (ml9_46 G a).set 79 (.inl (gc G 6, 4, .inr (.inr (.inr (.inr (va_up (va_up (fun _ => none) ((0 : Int32)).toNatClampNeg (some (a + 90))) ((1 : Int32)).toNatClampNeg (some (a + 91))))))))
theorem ml9_47_len (G : Gh) (a : Nat) : (ml9_47 G a).length = 92 := by unfold ml9_47; rw [List.length_set]; exact ml9_46_len G a
theorem ml9_47_0 (G : Gh) (a : Nat) : (ml9_47 G a)[0]? = some (.inr (9, fz9_11 a)) := st_ne (by decide) (ml9_46_0 G a)
theorem ml9_47_78 (G : Gh) (a : Nat) : (ml9_47 G a)[78]? = some (.inl (gc G 5, 4, .inr (.inr (.inr (.inr (va_up (va_up (va_up (va_up (fun _ => none) ((0 : Int32)).toNatClampNeg (some (a + 82))) ((1 : Int32)).toNatClampNeg (some (a + 84))) ((2 : Int32)).toNatClampNeg (some (a + 86))) ((3 : Int32)).toNatClampNeg (some (a + 88)))))))) := st_ne (by decide) (ml9_46_78 G a)
theorem ml9_47_79 (G : Gh) (a : Nat) : (ml9_47 G a)[79]? = some (.inl (gc G 6, 4, .inr (.inr (.inr (.inr (va_up (va_up (fun _ => none) ((0 : Int32)).toNatClampNeg (some (a + 90))) ((1 : Int32)).toNatClampNeg (some (a + 91)))))))) := st_same (by rw [ml9_46_len]; decide)
def ml9_48 (G : Gh) (a : Nat) : List va_E := ml9_47 G a ++ [.inr (6, [.int 0, .int 0, .int 0])]
theorem ml9_48_len (G : Gh) (a : Nat) : (ml9_48 G a).length = 93 := by unfold ml9_48; rw [List.length_append, ml9_47_len]; rfl
theorem ml9_48_0 (G : Gh) (a : Nat) : (ml9_48 G a)[0]? = some (.inr (9, fz9_11 a)) := ap_at (ml9_47_0 G a)
theorem ml9_48_78 (G : Gh) (a : Nat) : (ml9_48 G a)[78]? = some (.inl (gc G 5, 4, .inr (.inr (.inr (.inr (va_up (va_up (va_up (va_up (fun _ => none) ((0 : Int32)).toNatClampNeg (some (a + 82))) ((1 : Int32)).toNatClampNeg (some (a + 84))) ((2 : Int32)).toNatClampNeg (some (a + 86))) ((3 : Int32)).toNatClampNeg (some (a + 88)))))))) := ap_at (ml9_47_78 G a)
theorem ml9_48_79 (G : Gh) (a : Nat) : (ml9_48 G a)[79]? = some (.inl (gc G 6, 4, .inr (.inr (.inr (.inr (va_up (va_up (fun _ => none) ((0 : Int32)).toNatClampNeg (some (a + 90))) ((1 : Int32)).toNatClampNeg (some (a + 91)))))))) := ap_at (ml9_47_79 G a)
theorem ml9_48_92 (G : Gh) (a : Nat) : (ml9_48 G a)[92]? = some (.inr (6, [.int 0, .int 0, .int 0])) := ap_last (ml9_47_len G a)
def ml9_49 (G : Gh) (a : Nat) : List va_E := ml9_47 G a ++ seg_X6 G (a + 92)
theorem ml9_49_len (G : Gh) (a : Nat) : (ml9_49 G a).length = 93 := by unfold ml9_49; rw [List.length_append, ml9_47_len, seg_X6_len]
theorem ml9_49_0 (G : Gh) (a : Nat) : (ml9_49 G a)[0]? = some (.inr (9, fz9_11 a)) := apx_at (ml9_47_0 G a)
theorem ml9_49_78 (G : Gh) (a : Nat) : (ml9_49 G a)[78]? = some (.inl (gc G 5, 4, .inr (.inr (.inr (.inr (va_up (va_up (va_up (va_up (fun _ => none) ((0 : Int32)).toNatClampNeg (some (a + 82))) ((1 : Int32)).toNatClampNeg (some (a + 84))) ((2 : Int32)).toNatClampNeg (some (a + 86))) ((3 : Int32)).toNatClampNeg (some (a + 88)))))))) := apx_at (ml9_47_78 G a)
theorem ml9_49_79 (G : Gh) (a : Nat) : (ml9_49 G a)[79]? = some (.inl (gc G 6, 4, .inr (.inr (.inr (.inr (va_up (va_up (fun _ => none) ((0 : Int32)).toNatClampNeg (some (a + 90))) ((1 : Int32)).toNatClampNeg (some (a + 91)))))))) := apx_at (ml9_47_79 G a)
theorem ml9_49_92 (G : Gh) (a : Nat) : (ml9_49 G a)[92]? = (seg_X6 G (a + 92))[0]? := ap_hd (ml9_47_len G a)
def ml9_50 (G : Gh) (a : Nat) : List va_E := (ml9_49 G a).set 79 (.inl (gc G 6, 4, .inr (.inr (.inr (.inr (va_up (va_up (va_up (fun _ => none) ((0 : Int32)).toNatClampNeg (some (a + 90))) ((1 : Int32)).toNatClampNeg (some (a + 91))) ((2 : Int32)).toNatClampNeg (some (a + 92))))))))
theorem ml9_50_len (G : Gh) (a : Nat) : (ml9_50 G a).length = 93 := by unfold ml9_50; rw [List.length_set]; exact ml9_49_len G a
theorem ml9_50_0 (G : Gh) (a : Nat) : (ml9_50 G a)[0]? = some (.inr (9, fz9_11 a)) := st_ne (by decide) (ml9_49_0 G a)
theorem ml9_50_78 (G : Gh) (a : Nat) : (ml9_50 G a)[78]? = some (.inl (gc G 5, 4, .inr (.inr (.inr (.inr (va_up (va_up (va_up (va_up (fun _ => none) ((0 : Int32)).toNatClampNeg (some (a + 82))) ((1 : Int32)).toNatClampNeg (some (a + 84))) ((2 : Int32)).toNatClampNeg (some (a + 86))) ((3 : Int32)).toNatClampNeg (some (a + 88)))))))) := st_ne (by decide) (ml9_49_78 G a)
theorem ml9_50_79 (G : Gh) (a : Nat) : (ml9_50 G a)[79]? = some (.inl (gc G 6, 4, .inr (.inr (.inr (.inr (va_up (va_up (va_up (fun _ => none) ((0 : Int32)).toNatClampNeg (some (a + 90))) ((1 : Int32)).toNatClampNeg (some (a + 91))) ((2 : Int32)).toNatClampNeg (some (a + 92)))))))) := st_same (by rw [ml9_49_len]; decide)
def ml9_51 (G : Gh) (a : Nat) : List va_E := ml9_50 G a ++ [.inr (6, [.int 0, .int 0, .int 0])]
theorem ml9_51_len (G : Gh) (a : Nat) : (ml9_51 G a).length = 94 := by unfold ml9_51; rw [List.length_append, ml9_50_len]; rfl
theorem ml9_51_0 (G : Gh) (a : Nat) : (ml9_51 G a)[0]? = some (.inr (9, fz9_11 a)) := ap_at (ml9_50_0 G a)
theorem ml9_51_78 (G : Gh) (a : Nat) : (ml9_51 G a)[78]? = some (.inl (gc G 5, 4, .inr (.inr (.inr (.inr (va_up (va_up (va_up (va_up (fun _ => none) ((0 : Int32)).toNatClampNeg (some (a + 82))) ((1 : Int32)).toNatClampNeg (some (a + 84))) ((2 : Int32)).toNatClampNeg (some (a + 86))) ((3 : Int32)).toNatClampNeg (some (a + 88)))))))) := ap_at (ml9_50_78 G a)
theorem ml9_51_79 (G : Gh) (a : Nat) : (ml9_51 G a)[79]? = some (.inl (gc G 6, 4, .inr (.inr (.inr (.inr (va_up (va_up (va_up (fun _ => none) ((0 : Int32)).toNatClampNeg (some (a + 90))) ((1 : Int32)).toNatClampNeg (some (a + 91))) ((2 : Int32)).toNatClampNeg (some (a + 92)))))))) := ap_at (ml9_50_79 G a)
theorem ml9_51_93 (G : Gh) (a : Nat) : (ml9_51 G a)[93]? = some (.inr (6, [.int 0, .int 0, .int 0])) := ap_last (ml9_50_len G a)
def ml9_52 (G : Gh) (a : Nat) : List va_E := ml9_50 G a ++ seg_X6 G (a + 93)
theorem ml9_52_len (G : Gh) (a : Nat) : (ml9_52 G a).length = 94 := by unfold ml9_52; rw [List.length_append, ml9_50_len, seg_X6_len]
theorem ml9_52_0 (G : Gh) (a : Nat) : (ml9_52 G a)[0]? = some (.inr (9, fz9_11 a)) := apx_at (ml9_50_0 G a)
theorem ml9_52_78 (G : Gh) (a : Nat) : (ml9_52 G a)[78]? = some (.inl (gc G 5, 4, .inr (.inr (.inr (.inr (va_up (va_up (va_up (va_up (fun _ => none) ((0 : Int32)).toNatClampNeg (some (a + 82))) ((1 : Int32)).toNatClampNeg (some (a + 84))) ((2 : Int32)).toNatClampNeg (some (a + 86))) ((3 : Int32)).toNatClampNeg (some (a + 88)))))))) := apx_at (ml9_50_78 G a)
theorem ml9_52_79 (G : Gh) (a : Nat) : (ml9_52 G a)[79]? = some (.inl (gc G 6, 4, .inr (.inr (.inr (.inr (va_up (va_up (va_up (fun _ => none) ((0 : Int32)).toNatClampNeg (some (a + 90))) ((1 : Int32)).toNatClampNeg (some (a + 91))) ((2 : Int32)).toNatClampNeg (some (a + 92)))))))) := apx_at (ml9_50_79 G a)
theorem ml9_52_93 (G : Gh) (a : Nat) : (ml9_52 G a)[93]? = (seg_X6 G (a + 93))[0]? := ap_hd (ml9_50_len G a)
def ml9_53 (G : Gh) (a : Nat) : List va_E := (ml9_52 G a).set 79 (.inl (gc G 6, 4, .inr (.inr (.inr (.inr (va_up (va_up (va_up (va_up (fun _ => none) ((0 : Int32)).toNatClampNeg (some (a + 90))) ((1 : Int32)).toNatClampNeg (some (a + 91))) ((2 : Int32)).toNatClampNeg (some (a + 92))) ((3 : Int32)).toNatClampNeg (some (a + 93))))))))
theorem ml9_53_len (G : Gh) (a : Nat) : (ml9_53 G a).length = 94 := by unfold ml9_53; rw [List.length_set]; exact ml9_52_len G a
theorem ml9_53_0 (G : Gh) (a : Nat) : (ml9_53 G a)[0]? = some (.inr (9, fz9_11 a)) := st_ne (by decide) (ml9_52_0 G a)
theorem ml9_53_78 (G : Gh) (a : Nat) : (ml9_53 G a)[78]? = some (.inl (gc G 5, 4, .inr (.inr (.inr (.inr (va_up (va_up (va_up (va_up (fun _ => none) ((0 : Int32)).toNatClampNeg (some (a + 82))) ((1 : Int32)).toNatClampNeg (some (a + 84))) ((2 : Int32)).toNatClampNeg (some (a + 86))) ((3 : Int32)).toNatClampNeg (some (a + 88)))))))) := st_ne (by decide) (ml9_52_78 G a)
theorem ml9_53_79 (G : Gh) (a : Nat) : (ml9_53 G a)[79]? = some (.inl (gc G 6, 4, .inr (.inr (.inr (.inr (va_up (va_up (va_up (va_up (fun _ => none) ((0 : Int32)).toNatClampNeg (some (a + 90))) ((1 : Int32)).toNatClampNeg (some (a + 91))) ((2 : Int32)).toNatClampNeg (some (a + 92))) ((3 : Int32)).toNatClampNeg (some (a + 93)))))))) := st_same (by rw [ml9_52_len]; decide)
