def fz10_0 (a : Nat) : List Value := [.int 0, .null, .null, .null, .null, .null, .null, .int 0, .int 0, .null, .null, .null, .null, .int 0, .int 0, .null, .int 0, .int 0, .int 0, .int 0, .long 0, .int 0, .int 0, .int 0, .int 0, .int 0, .null, .null, .null, .null, .null, .null, .null, .int 0, .null, .int 0, .int 0, .int 0, .int 0, .null, .null, .null, .int 0, .int 0, .null, .int 0, .null, .null, .null, .null, .null, .null, .int 0, .int 0, .int 0, .null, .int 0, .int 0, .int 0, .null, .int 0, .null]
theorem fz10_0_len (a : Nat) : (fz10_0 a).length = 62 := rfl
def ml10_0 (G : Gh) (a : Nat) : List va_E := [.inr (10, [.int 0, .null, .null, .null, .null, .null, .null, .int 0, .int 0, .null, .null, .null, .null, .int 0, .int 0, .null, .int 0, .int 0, .int 0, .int 0, .long 0, .int 0, .int 0, .int 0, .int 0, .int 0, .null, .null, .null, .null, .null, .null, .null, .int 0, .null, .int 0, .int 0, .int 0, .int 0, .null, .null, .null, .int 0, .int 0, .null, .int 0, .null, .null, .null, .null, .null, .null, .int 0, .int 0, .int 0, .null, .int 0, .int 0, .int 0, .null, .int 0, .null])]
theorem ml10_0_len (G : Gh) (a : Nat) : (ml10_0 G a).length = 1 := rfl
theorem ml10_0_0 (G : Gh) (a : Nat) : (ml10_0 G a)[0]? = some (.inr (10, fz10_0 a)) := rfl
def ml10_1 (G : Gh) (a : Nat) : List va_E := ml10_0 G a ++ [.inl (gc G 1, (5, .inl (fun _ => 0)))]
theorem ml10_1_len (G : Gh) (a : Nat) : (ml10_1 G a).length = 2 := by unfold ml10_1; rw [List.length_append, ml10_0_len]; rfl
theorem ml10_1_0 (G : Gh) (a : Nat) : (ml10_1 G a)[0]? = some (.inr (10, fz10_0 a)) := ap_at (ml10_0_0 G a)
theorem ml10_1_1 (G : Gh) (a : Nat) : (ml10_1 G a)[1]? = some (.inl (gc G 1, (5, .inl (fun _ => 0)))) := ap_last (ml10_0_len G a)
def fz10_1 (a : Nat) : List Value := (fz10_0 a).set 1 (.ref (a + 1))
theorem fz10_1_len (a : Nat) : (fz10_1 a).length = 62 := by unfold fz10_1; rw [List.length_set]; exact fz10_0_len a
def ml10_2 (G : Gh) (a : Nat) : List va_E := (ml10_1 G a).set 0 (.inr (10, fz10_1 a))
theorem ml10_2_len (G : Gh) (a : Nat) : (ml10_2 G a).length = 2 := by unfold ml10_2; rw [List.length_set]; exact ml10_1_len G a
theorem ml10_2_0 (G : Gh) (a : Nat) : (ml10_2 G a)[0]? = some (.inr (10, fz10_1 a)) := st_same (by rw [ml10_1_len]; decide)
def ml10_3 (G : Gh) (a : Nat) : List va_E := ml10_2 G a ++ [.inl (gc G 1, (5, .inl (fun _ => 0)))]
theorem ml10_3_len (G : Gh) (a : Nat) : (ml10_3 G a).length = 3 := by unfold ml10_3; rw [List.length_append, ml10_2_len]; rfl
theorem ml10_3_0 (G : Gh) (a : Nat) : (ml10_3 G a)[0]? = some (.inr (10, fz10_1 a)) := ap_at (ml10_2_0 G a)
theorem ml10_3_2 (G : Gh) (a : Nat) : (ml10_3 G a)[2]? = some (.inl (gc G 1, (5, .inl (fun _ => 0)))) := ap_last (ml10_2_len G a)
def fz10_2 (a : Nat) : List Value := (fz10_1 a).set 2 (.ref (a + 2))
theorem fz10_2_len (a : Nat) : (fz10_2 a).length = 62 := by unfold fz10_2; rw [List.length_set]; exact fz10_1_len a
def ml10_4 (G : Gh) (a : Nat) : List va_E := (ml10_3 G a).set 0 (.inr (10, fz10_2 a))
theorem ml10_4_len (G : Gh) (a : Nat) : (ml10_4 G a).length = 3 := by unfold ml10_4; rw [List.length_set]; exact ml10_3_len G a
theorem ml10_4_0 (G : Gh) (a : Nat) : (ml10_4 G a)[0]? = some (.inr (10, fz10_2 a)) := st_same (by rw [ml10_3_len]; decide)
def ml10_5 (G : Gh) (a : Nat) : List va_E := ml10_4 G a ++ [.inl (gc G 1, (5, .inl (fun _ => 0)))]
theorem ml10_5_len (G : Gh) (a : Nat) : (ml10_5 G a).length = 4 := by unfold ml10_5; rw [List.length_append, ml10_4_len]; rfl
theorem ml10_5_0 (G : Gh) (a : Nat) : (ml10_5 G a)[0]? = some (.inr (10, fz10_2 a)) := ap_at (ml10_4_0 G a)
theorem ml10_5_3 (G : Gh) (a : Nat) : (ml10_5 G a)[3]? = some (.inl (gc G 1, (5, .inl (fun _ => 0)))) := ap_last (ml10_4_len G a)
def fz10_3 (a : Nat) : List Value := (fz10_2 a).set 3 (.ref (a + 3))
theorem fz10_3_len (a : Nat) : (fz10_3 a).length = 62 := by unfold fz10_3; rw [List.length_set]; exact fz10_2_len a
def ml10_6 (G : Gh) (a : Nat) : List va_E := (ml10_5 G a).set 0 (.inr (10, fz10_3 a))
theorem ml10_6_len (G : Gh) (a : Nat) : (ml10_6 G a).length = 4 := by unfold ml10_6; rw [List.length_set]; exact ml10_5_len G a
theorem ml10_6_0 (G : Gh) (a : Nat) : (ml10_6 G a)[0]? = some (.inr (10, fz10_3 a)) := st_same (by rw [ml10_5_len]; decide)
def ml10_7 (G : Gh) (a : Nat) : List va_E := ml10_6 G a ++ [.inl (gc G 1, (5, .inl (fun _ => 0)))]
theorem ml10_7_len (G : Gh) (a : Nat) : (ml10_7 G a).length = 5 := by unfold ml10_7; rw [List.length_append, ml10_6_len]; rfl
theorem ml10_7_0 (G : Gh) (a : Nat) : (ml10_7 G a)[0]? = some (.inr (10, fz10_3 a)) := ap_at (ml10_6_0 G a)
theorem ml10_7_4 (G : Gh) (a : Nat) : (ml10_7 G a)[4]? = some (.inl (gc G 1, (5, .inl (fun _ => 0)))) := ap_last (ml10_6_len G a)
def fz10_4 (a : Nat) : List Value := (fz10_3 a).set 4 (.ref (a + 4))
theorem fz10_4_len (a : Nat) : (fz10_4 a).length = 62 := by unfold fz10_4; rw [List.length_set]; exact fz10_3_len a
def ml10_8 (G : Gh) (a : Nat) : List va_E := (ml10_7 G a).set 0 (.inr (10, fz10_4 a))
theorem ml10_8_len (G : Gh) (a : Nat) : (ml10_8 G a).length = 5 := by unfold ml10_8; rw [List.length_set]; exact ml10_7_len G a
theorem ml10_8_0 (G : Gh) (a : Nat) : (ml10_8 G a)[0]? = some (.inr (10, fz10_4 a)) := st_same (by rw [ml10_7_len]; decide)
def ml10_9 (G : Gh) (a : Nat) : List va_E := ml10_8 G a ++ [.inl (gc G 1, (5, .inl (fun _ => 0)))]
theorem ml10_9_len (G : Gh) (a : Nat) : (ml10_9 G a).length = 6 := by unfold ml10_9; rw [List.length_append, ml10_8_len]; rfl
theorem ml10_9_0 (G : Gh) (a : Nat) : (ml10_9 G a)[0]? = some (.inr (10, fz10_4 a)) := ap_at (ml10_8_0 G a)
theorem ml10_9_5 (G : Gh) (a : Nat) : (ml10_9 G a)[5]? = some (.inl (gc G 1, (5, .inl (fun _ => 0)))) := ap_last (ml10_8_len G a)
def fz10_5 (a : Nat) : List Value := (fz10_4 a).set 5 (.ref (a + 5))
theorem fz10_5_len (a : Nat) : (fz10_5 a).length = 62 := by unfold fz10_5; rw [List.length_set]; exact fz10_4_len a
def ml10_10 (G : Gh) (a : Nat) : List va_E := (ml10_9 G a).set 0 (.inr (10, fz10_5 a))
theorem ml10_10_len (G : Gh) (a : Nat) : (ml10_10 G a).length = 6 := by unfold ml10_10; rw [List.length_set]; exact ml10_9_len G a
theorem ml10_10_0 (G : Gh) (a : Nat) : (ml10_10 G a)[0]? = some (.inr (10, fz10_5 a)) := st_same (by rw [ml10_9_len]; decide)
def ml10_11 (G : Gh) (a : Nat) : List va_E := ml10_10 G a ++ [.inl (gc G 1, (12, .inl (fun _ => 0)))]
theorem ml10_11_len (G : Gh) (a : Nat) : (ml10_11 G a).length = 7 := by unfold ml10_11; rw [List.length_append, ml10_10_len]; rfl
theorem ml10_11_0 (G : Gh) (a : Nat) : (ml10_11 G a)[0]? = some (.inr (10, fz10_5 a)) := ap_at (ml10_10_0 G a)
theorem ml10_11_6 (G : Gh) (a : Nat) : (ml10_11 G a)[6]? = some (.inl (gc G 1, (12, .inl (fun _ => 0)))) := ap_last (ml10_10_len G a)
def fz10_6 (a : Nat) : List Value := (fz10_5 a).set 6 (.ref (a + 6))
theorem fz10_6_len (a : Nat) : (fz10_6 a).length = 62 := by unfold fz10_6; rw [List.length_set]; exact fz10_5_len a
def ml10_12 (G : Gh) (a : Nat) : List va_E := (ml10_11 G a).set 0 (.inr (10, fz10_6 a))
theorem ml10_12_len (G : Gh) (a : Nat) : (ml10_12 G a).length = 7 := by unfold ml10_12; rw [List.length_set]; exact ml10_11_len G a
theorem ml10_12_0 (G : Gh) (a : Nat) : (ml10_12 G a)[0]? = some (.inr (10, fz10_6 a)) := st_same (by rw [ml10_11_len]; decide)
def fz10_7 (a : Nat) : List Value := (fz10_6 a).set 7 (.int (5 : Int32))
theorem fz10_7_len (a : Nat) : (fz10_7 a).length = 62 := by unfold fz10_7; rw [List.length_set]; exact fz10_6_len a
def ml10_13 (G : Gh) (a : Nat) : List va_E := (ml10_12 G a).set 0 (.inr (10, fz10_7 a))
theorem ml10_13_len (G : Gh) (a : Nat) : (ml10_13 G a).length = 7 := by unfold ml10_13; rw [List.length_set]; exact ml10_12_len G a
theorem ml10_13_0 (G : Gh) (a : Nat) : (ml10_13 G a)[0]? = some (.inr (10, fz10_7 a)) := st_same (by rw [ml10_12_len]; decide)
def ml10_14 (G : Gh) (a : Nat) : List va_E := ml10_13 G a ++ [.inl (gc G 1, (6, .inl (fun _ => 0)))]
theorem ml10_14_len (G : Gh) (a : Nat) : (ml10_14 G a).length = 8 := by unfold ml10_14; rw [List.length_append, ml10_13_len]; rfl
theorem ml10_14_0 (G : Gh) (a : Nat) : (ml10_14 G a)[0]? = some (.inr (10, fz10_7 a)) := ap_at (ml10_13_0 G a)
theorem ml10_14_7 (G : Gh) (a : Nat) : (ml10_14 G a)[7]? = some (.inl (gc G 1, (6, .inl (fun _ => 0)))) := ap_last (ml10_13_len G a)
def fz10_8 (a : Nat) : List Value := (fz10_7 a).set 9 (.ref (a + 7))
theorem fz10_8_len (a : Nat) : (fz10_8 a).length = 62 := by unfold fz10_8; rw [List.length_set]; exact fz10_7_len a
def ml10_15 (G : Gh) (a : Nat) : List va_E := (ml10_14 G a).set 0 (.inr (10, fz10_8 a))
theorem ml10_15_len (G : Gh) (a : Nat) : (ml10_15 G a).length = 8 := by unfold ml10_15; rw [List.length_set]; exact ml10_14_len G a
theorem ml10_15_0 (G : Gh) (a : Nat) : (ml10_15 G a)[0]? = some (.inr (10, fz10_8 a)) := st_same (by rw [ml10_14_len]; decide)
def ml10_16 (G : Gh) (a : Nat) : List va_E := ml10_15 G a ++ [.inl (gc G 1, (6, .inl (fun _ => 0)))]
theorem ml10_16_len (G : Gh) (a : Nat) : (ml10_16 G a).length = 9 := by unfold ml10_16; rw [List.length_append, ml10_15_len]; rfl
theorem ml10_16_0 (G : Gh) (a : Nat) : (ml10_16 G a)[0]? = some (.inr (10, fz10_8 a)) := ap_at (ml10_15_0 G a)
theorem ml10_16_8 (G : Gh) (a : Nat) : (ml10_16 G a)[8]? = some (.inl (gc G 1, (6, .inl (fun _ => 0)))) := ap_last (ml10_15_len G a)
def fz10_9 (a : Nat) : List Value := (fz10_8 a).set 10 (.ref (a + 8))
theorem fz10_9_len (a : Nat) : (fz10_9 a).length = 62 := by unfold fz10_9; rw [List.length_set]; exact fz10_8_len a
def ml10_17 (G : Gh) (a : Nat) : List va_E := (ml10_16 G a).set 0 (.inr (10, fz10_9 a))
theorem ml10_17_len (G : Gh) (a : Nat) : (ml10_17 G a).length = 9 := by unfold ml10_17; rw [List.length_set]; exact ml10_16_len G a
theorem ml10_17_0 (G : Gh) (a : Nat) : (ml10_17 G a)[0]? = some (.inr (10, fz10_9 a)) := st_same (by rw [ml10_16_len]; decide)
def ml10_18 (G : Gh) (a : Nat) : List va_E := ml10_17 G a ++ [.inl (gc G 1, (6, .inl (fun _ => 0)))]
theorem ml10_18_len (G : Gh) (a : Nat) : (ml10_18 G a).length = 10 := by unfold ml10_18; rw [List.length_append, ml10_17_len]; rfl
theorem ml10_18_0 (G : Gh) (a : Nat) : (ml10_18 G a)[0]? = some (.inr (10, fz10_9 a)) := ap_at (ml10_17_0 G a)
theorem ml10_18_9 (G : Gh) (a : Nat) : (ml10_18 G a)[9]? = some (.inl (gc G 1, (6, .inl (fun _ => 0)))) := ap_last (ml10_17_len G a)
def fz10_10 (a : Nat) : List Value := (fz10_9 a).set 11 (.ref (a + 9))
theorem fz10_10_len (a : Nat) : (fz10_10 a).length = 62 := by unfold fz10_10; rw [List.length_set]; exact fz10_9_len a
def ml10_19 (G : Gh) (a : Nat) : List va_E := (ml10_18 G a).set 0 (.inr (10, fz10_10 a))
theorem ml10_19_len (G : Gh) (a : Nat) : (ml10_19 G a).length = 10 := by unfold ml10_19; rw [List.length_set]; exact ml10_18_len G a
theorem ml10_19_0 (G : Gh) (a : Nat) : (ml10_19 G a)[0]? = some (.inr (10, fz10_10 a)) := st_same (by rw [ml10_18_len]; decide)
def ml10_20 (G : Gh) (a : Nat) : List va_E := ml10_19 G a ++ [.inl (gc G 1, (22, .inl (fun _ => 0)))]
theorem ml10_20_len (G : Gh) (a : Nat) : (ml10_20 G a).length = 11 := by unfold ml10_20; rw [List.length_append, ml10_19_len]; rfl
theorem ml10_20_0 (G : Gh) (a : Nat) : (ml10_20 G a)[0]? = some (.inr (10, fz10_10 a)) := ap_at (ml10_19_0 G a)
theorem ml10_20_10 (G : Gh) (a : Nat) : (ml10_20 G a)[10]? = some (.inl (gc G 1, (22, .inl (fun _ => 0)))) := ap_last (ml10_19_len G a)
def ml10_21 (G : Gh) (a : Nat) : List va_E := (ml10_20 G a).set 10 (.inl (gc G 1, 22, .inl (upd (fun _ => 0) ((0 : Int32)).toNatClampNeg (-1 : Int32))))
theorem ml10_21_len (G : Gh) (a : Nat) : (ml10_21 G a).length = 11 := by unfold ml10_21; rw [List.length_set]; exact ml10_20_len G a
theorem ml10_21_0 (G : Gh) (a : Nat) : (ml10_21 G a)[0]? = some (.inr (10, fz10_10 a)) := st_ne (by decide) (ml10_20_0 G a)
theorem ml10_21_10 (G : Gh) (a : Nat) : (ml10_21 G a)[10]? = some (.inl (gc G 1, 22, .inl (upd (fun _ => 0) ((0 : Int32)).toNatClampNeg (-1 : Int32)))) := st_same (by rw [ml10_20_len]; decide)
def ml10_22 (G : Gh) (a : Nat) : List va_E := (ml10_21 G a).set 10 (.inl (gc G 1, 22, .inl (upd (upd (fun _ => 0) ((0 : Int32)).toNatClampNeg (-1 : Int32)) ((1 : Int32)).toNatClampNeg (0 : Int32))))
theorem ml10_22_len (G : Gh) (a : Nat) : (ml10_22 G a).length = 11 := by unfold ml10_22; rw [List.length_set]; exact ml10_21_len G a
theorem ml10_22_0 (G : Gh) (a : Nat) : (ml10_22 G a)[0]? = some (.inr (10, fz10_10 a)) := st_ne (by decide) (ml10_21_0 G a)
theorem ml10_22_10 (G : Gh) (a : Nat) : (ml10_22 G a)[10]? = some (.inl (gc G 1, 22, .inl (upd (upd (fun _ => 0) ((0 : Int32)).toNatClampNeg (-1 : Int32)) ((1 : Int32)).toNatClampNeg (0 : Int32)))) := st_same (by rw [ml10_21_len]; decide)
def ml10_23 (G : Gh) (a : Nat) : List va_E := (ml10_22 G a).set 10 (.inl (gc G 1, 22, .inl (upd (upd (upd (fun _ => 0) ((0 : Int32)).toNatClampNeg (-1 : Int32)) ((1 : Int32)).toNatClampNeg (0 : Int32)) ((2 : Int32)).toNatClampNeg (0 : Int32))))
theorem ml10_23_len (G : Gh) (a : Nat) : (ml10_23 G a).length = 11 := by unfold ml10_23; rw [List.length_set]; exact ml10_22_len G a
theorem ml10_23_0 (G : Gh) (a : Nat) : (ml10_23 G a)[0]? = some (.inr (10, fz10_10 a)) := st_ne (by decide) (ml10_22_0 G a)
theorem ml10_23_10 (G : Gh) (a : Nat) : (ml10_23 G a)[10]? = some (.inl (gc G 1, 22, .inl (upd (upd (upd (fun _ => 0) ((0 : Int32)).toNatClampNeg (-1 : Int32)) ((1 : Int32)).toNatClampNeg (0 : Int32)) ((2 : Int32)).toNatClampNeg (0 : Int32)))) := st_same (by rw [ml10_22_len]; decide)
def ml10_24 (G : Gh) (a : Nat) : List va_E := (ml10_23 G a).set 10 (.inl (gc G 1, 22, .inl (upd (upd (upd (upd (fun _ => 0) ((0 : Int32)).toNatClampNeg (-1 : Int32)) ((1 : Int32)).toNatClampNeg (0 : Int32)) ((2 : Int32)).toNatClampNeg (0 : Int32)) ((3 : Int32)).toNatClampNeg (0 : Int32))))
theorem ml10_24_len (G : Gh) (a : Nat) : (ml10_24 G a).length = 11 := by unfold ml10_24; rw [List.length_set]; exact ml10_23_len G a
theorem ml10_24_0 (G : Gh) (a : Nat) : (ml10_24 G a)[0]? = some (.inr (10, fz10_10 a)) := st_ne (by decide) (ml10_23_0 G a)
theorem ml10_24_10 (G : Gh) (a : Nat) : (ml10_24 G a)[10]? = some (.inl (gc G 1, 22, .inl (upd (upd (upd (upd (fun _ => 0) ((0 : Int32)).toNatClampNeg (-1 : Int32)) ((1 : Int32)).toNatClampNeg (0 : Int32)) ((2 : Int32)).toNatClampNeg (0 : Int32)) ((3 : Int32)).toNatClampNeg (0 : Int32)))) := st_same (by rw [ml10_23_len]; decide)
def ml10_25 (G : Gh) (a : Nat) : List va_E := (ml10_24 G a).set 10 (.inl (gc G 1, 22, .inl (upd (upd (upd (upd (upd (fun _ => 0) ((0 : Int32)).toNatClampNeg (-1 : Int32)) ((1 : Int32)).toNatClampNeg (0 : Int32)) ((2 : Int32)).toNatClampNeg (0 : Int32)) ((3 : Int32)).toNatClampNeg (0 : Int32)) ((4 : Int32)).toNatClampNeg (-1 : Int32))))
theorem ml10_25_len (G : Gh) (a : Nat) : (ml10_25 G a).length = 11 := by unfold ml10_25; rw [List.length_set]; exact ml10_24_len G a
theorem ml10_25_0 (G : Gh) (a : Nat) : (ml10_25 G a)[0]? = some (.inr (10, fz10_10 a)) := st_ne (by decide) (ml10_24_0 G a)
theorem ml10_25_10 (G : Gh) (a : Nat) : (ml10_25 G a)[10]? = some (.inl (gc G 1, 22, .inl (upd (upd (upd (upd (upd (fun _ => 0) ((0 : Int32)).toNatClampNeg (-1 : Int32)) ((1 : Int32)).toNatClampNeg (0 : Int32)) ((2 : Int32)).toNatClampNeg (0 : Int32)) ((3 : Int32)).toNatClampNeg (0 : Int32)) ((4 : Int32)).toNatClampNeg (-1 : Int32)))) := st_same (by rw [ml10_24_len]; decide)
def ml10_26 (G : Gh) (a : Nat) : List va_E := (ml10_25 G a).set 10 (.inl (gc G 1, 22, .inl (upd (upd (upd (upd (upd (upd (fun _ => 0) ((0 : Int32)).toNatClampNeg (-1 : Int32)) ((1 : Int32)).toNatClampNeg (0 : Int32)) ((2 : Int32)).toNatClampNeg (0 : Int32)) ((3 : Int32)).toNatClampNeg (0 : Int32)) ((4 : Int32)).toNatClampNeg (-1 : Int32)) ((5 : Int32)).toNatClampNeg (0 : Int32))))
theorem ml10_26_len (G : Gh) (a : Nat) : (ml10_26 G a).length = 11 := by unfold ml10_26; rw [List.length_set]; exact ml10_25_len G a
theorem ml10_26_0 (G : Gh) (a : Nat) : (ml10_26 G a)[0]? = some (.inr (10, fz10_10 a)) := st_ne (by decide) (ml10_25_0 G a)
theorem ml10_26_10 (G : Gh) (a : Nat) : (ml10_26 G a)[10]? = some (.inl (gc G 1, 22, .inl (upd (upd (upd (upd (upd (upd (fun _ => 0) ((0 : Int32)).toNatClampNeg (-1 : Int32)) ((1 : Int32)).toNatClampNeg (0 : Int32)) ((2 : Int32)).toNatClampNeg (0 : Int32)) ((3 : Int32)).toNatClampNeg (0 : Int32)) ((4 : Int32)).toNatClampNeg (-1 : Int32)) ((5 : Int32)).toNatClampNeg (0 : Int32)))) := st_same (by rw [ml10_25_len]; decide)
def ml10_27 (G : Gh) (a : Nat) : List va_E := (ml10_26 G a).set 10 (.inl (gc G 1, 22, .inl (upd (upd (upd (upd (upd (upd (upd (fun _ => 0) ((0 : Int32)).toNatClampNeg (-1 : Int32)) ((1 : Int32)).toNatClampNeg (0 : Int32)) ((2 : Int32)).toNatClampNeg (0 : Int32)) ((3 : Int32)).toNatClampNeg (0 : Int32)) ((4 : Int32)).toNatClampNeg (-1 : Int32)) ((5 : Int32)).toNatClampNeg (0 : Int32)) ((6 : Int32)).toNatClampNeg (0 : Int32))))
theorem ml10_27_len (G : Gh) (a : Nat) : (ml10_27 G a).length = 11 := by unfold ml10_27; rw [List.length_set]; exact ml10_26_len G a
theorem ml10_27_0 (G : Gh) (a : Nat) : (ml10_27 G a)[0]? = some (.inr (10, fz10_10 a)) := st_ne (by decide) (ml10_26_0 G a)
theorem ml10_27_10 (G : Gh) (a : Nat) : (ml10_27 G a)[10]? = some (.inl (gc G 1, 22, .inl (upd (upd (upd (upd (upd (upd (upd (fun _ => 0) ((0 : Int32)).toNatClampNeg (-1 : Int32)) ((1 : Int32)).toNatClampNeg (0 : Int32)) ((2 : Int32)).toNatClampNeg (0 : Int32)) ((3 : Int32)).toNatClampNeg (0 : Int32)) ((4 : Int32)).toNatClampNeg (-1 : Int32)) ((5 : Int32)).toNatClampNeg (0 : Int32)) ((6 : Int32)).toNatClampNeg (0 : Int32)))) := st_same (by rw [ml10_26_len]; decide)
def ml10_28 (G : Gh) (a : Nat) : List va_E := (ml10_27 G a).set 10 (.inl (gc G 1, 22, .inl (upd (upd (upd (upd (upd (upd (upd (upd (fun _ => 0) ((0 : Int32)).toNatClampNeg (-1 : Int32)) ((1 : Int32)).toNatClampNeg (0 : Int32)) ((2 : Int32)).toNatClampNeg (0 : Int32)) ((3 : Int32)).toNatClampNeg (0 : Int32)) ((4 : Int32)).toNatClampNeg (-1 : Int32)) ((5 : Int32)).toNatClampNeg (0 : Int32)) ((6 : Int32)).toNatClampNeg (0 : Int32)) ((7 : Int32)).toNatClampNeg (0 : Int32))))
theorem ml10_28_len (G : Gh) (a : Nat) : (ml10_28 G a).length = 11 := by unfold ml10_28; rw [List.length_set]; exact ml10_27_len G a
theorem ml10_28_0 (G : Gh) (a : Nat) : (ml10_28 G a)[0]? = some (.inr (10, fz10_10 a)) := st_ne (by decide) (ml10_27_0 G a)
theorem ml10_28_10 (G : Gh) (a : Nat) : (ml10_28 G a)[10]? = some (.inl (gc G 1, 22, .inl (upd (upd (upd (upd (upd (upd (upd (upd (fun _ => 0) ((0 : Int32)).toNatClampNeg (-1 : Int32)) ((1 : Int32)).toNatClampNeg (0 : Int32)) ((2 : Int32)).toNatClampNeg (0 : Int32)) ((3 : Int32)).toNatClampNeg (0 : Int32)) ((4 : Int32)).toNatClampNeg (-1 : Int32)) ((5 : Int32)).toNatClampNeg (0 : Int32)) ((6 : Int32)).toNatClampNeg (0 : Int32)) ((7 : Int32)).toNatClampNeg (0 : Int32)))) := st_same (by rw [ml10_27_len]; decide)
def ml10_29 (G : Gh) (a : Nat) : List va_E := (ml10_28 G a).set 10 (.inl (gc G 1, 22, .inl (upd (upd (upd (upd (upd (upd (upd (upd (upd (fun _ => 0) ((0 : Int32)).toNatClampNeg (-1 : Int32)) ((1 : Int32)).toNatClampNeg (0 : Int32)) ((2 : Int32)).toNatClampNeg (0 : Int32)) ((3 : Int32)).toNatClampNeg (0 : Int32)) ((4 : Int32)).toNatClampNeg (-1 : Int32)) ((5 : Int32)).toNatClampNeg (0 : Int32)) ((6 : Int32)).toNatClampNeg (0 : Int32)) ((7 : Int32)).toNatClampNeg (0 : Int32)) ((8 : Int32)).toNatClampNeg (0 : Int32))))
theorem ml10_29_len (G : Gh) (a : Nat) : (ml10_29 G a).length = 11 := by unfold ml10_29; rw [List.length_set]; exact ml10_28_len G a
theorem ml10_29_0 (G : Gh) (a : Nat) : (ml10_29 G a)[0]? = some (.inr (10, fz10_10 a)) := st_ne (by decide) (ml10_28_0 G a)
theorem ml10_29_10 (G : Gh) (a : Nat) : (ml10_29 G a)[10]? = some (.inl (gc G 1, 22, .inl (upd (upd (upd (upd (upd (upd (upd (upd (upd (fun _ => 0) ((0 : Int32)).toNatClampNeg (-1 : Int32)) ((1 : Int32)).toNatClampNeg (0 : Int32)) ((2 : Int32)).toNatClampNeg (0 : Int32)) ((3 : Int32)).toNatClampNeg (0 : Int32)) ((4 : Int32)).toNatClampNeg (-1 : Int32)) ((5 : Int32)).toNatClampNeg (0 : Int32)) ((6 : Int32)).toNatClampNeg (0 : Int32)) ((7 : Int32)).toNatClampNeg (0 : Int32)) ((8 : Int32)).toNatClampNeg (0 : Int32)))) := st_same (by rw [ml10_28_len]; decide)
def ml10_30 (G : Gh) (a : Nat) : List va_E := (ml10_29 G a).set 10 (.inl (gc G 1, 22, .inl (upd (upd (upd (upd (upd (upd (upd (upd (upd (upd (fun _ => 0) ((0 : Int32)).toNatClampNeg (-1 : Int32)) ((1 : Int32)).toNatClampNeg (0 : Int32)) ((2 : Int32)).toNatClampNeg (0 : Int32)) ((3 : Int32)).toNatClampNeg (0 : Int32)) ((4 : Int32)).toNatClampNeg (-1 : Int32)) ((5 : Int32)).toNatClampNeg (0 : Int32)) ((6 : Int32)).toNatClampNeg (0 : Int32)) ((7 : Int32)).toNatClampNeg (0 : Int32)) ((8 : Int32)).toNatClampNeg (0 : Int32)) ((9 : Int32)).toNatClampNeg (0 : Int32))))
theorem ml10_30_len (G : Gh) (a : Nat) : (ml10_30 G a).length = 11 := by unfold ml10_30; rw [List.length_set]; exact ml10_29_len G a
theorem ml10_30_0 (G : Gh) (a : Nat) : (ml10_30 G a)[0]? = some (.inr (10, fz10_10 a)) := st_ne (by decide) (ml10_29_0 G a)
theorem ml10_30_10 (G : Gh) (a : Nat) : (ml10_30 G a)[10]? = some (.inl (gc G 1, 22, .inl (upd (upd (upd (upd (upd (upd (upd (upd (upd (upd (fun _ => 0) ((0 : Int32)).toNatClampNeg (-1 : Int32)) ((1 : Int32)).toNatClampNeg (0 : Int32)) ((2 : Int32)).toNatClampNeg (0 : Int32)) ((3 : Int32)).toNatClampNeg (0 : Int32)) ((4 : Int32)).toNatClampNeg (-1 : Int32)) ((5 : Int32)).toNatClampNeg (0 : Int32)) ((6 : Int32)).toNatClampNeg (0 : Int32)) ((7 : Int32)).toNatClampNeg (0 : Int32)) ((8 : Int32)).toNatClampNeg (0 : Int32)) ((9 : Int32)).toNatClampNeg (0 : Int32)))) := st_same (by rw [ml10_29_len]; decide)
def ml10_31 (G : Gh) (a : Nat) : List va_E := (ml10_30 G a).set 10 (.inl (gc G 1, 22, .inl (upd (upd (upd (upd (upd (upd (upd (upd (upd (upd (upd (fun _ => 0) ((0 : Int32)).toNatClampNeg (-1 : Int32)) ((1 : Int32)).toNatClampNeg (0 : Int32)) ((2 : Int32)).toNatClampNeg (0 : Int32)) ((3 : Int32)).toNatClampNeg (0 : Int32)) ((4 : Int32)).toNatClampNeg (-1 : Int32)) ((5 : Int32)).toNatClampNeg (0 : Int32)) ((6 : Int32)).toNatClampNeg (0 : Int32)) ((7 : Int32)).toNatClampNeg (0 : Int32)) ((8 : Int32)).toNatClampNeg (0 : Int32)) ((9 : Int32)).toNatClampNeg (0 : Int32)) ((10 : Int32)).toNatClampNeg (0 : Int32))))
theorem ml10_31_len (G : Gh) (a : Nat) : (ml10_31 G a).length = 11 := by unfold ml10_31; rw [List.length_set]; exact ml10_30_len G a
theorem ml10_31_0 (G : Gh) (a : Nat) : (ml10_31 G a)[0]? = some (.inr (10, fz10_10 a)) := st_ne (by decide) (ml10_30_0 G a)
theorem ml10_31_10 (G : Gh) (a : Nat) : (ml10_31 G a)[10]? = some (.inl (gc G 1, 22, .inl (upd (upd (upd (upd (upd (upd (upd (upd (upd (upd (upd (fun _ => 0) ((0 : Int32)).toNatClampNeg (-1 : Int32)) ((1 : Int32)).toNatClampNeg (0 : Int32)) ((2 : Int32)).toNatClampNeg (0 : Int32)) ((3 : Int32)).toNatClampNeg (0 : Int32)) ((4 : Int32)).toNatClampNeg (-1 : Int32)) ((5 : Int32)).toNatClampNeg (0 : Int32)) ((6 : Int32)).toNatClampNeg (0 : Int32)) ((7 : Int32)).toNatClampNeg (0 : Int32)) ((8 : Int32)).toNatClampNeg (0 : Int32)) ((9 : Int32)).toNatClampNeg (0 : Int32)) ((10 : Int32)).toNatClampNeg (0 : Int32)))) := st_same (by rw [ml10_30_len]; decide)
def ml10_32 (G : Gh) (a : Nat) : List va_E := (ml10_31 G a).set 10 (.inl (gc G 1, 22, .inl (upd (upd (upd (upd (upd (upd (upd (upd (upd (upd (upd (upd (fun _ => 0) ((0 : Int32)).toNatClampNeg (-1 : Int32)) ((1 : Int32)).toNatClampNeg (0 : Int32)) ((2 : Int32)).toNatClampNeg (0 : Int32)) ((3 : Int32)).toNatClampNeg (0 : Int32)) ((4 : Int32)).toNatClampNeg (-1 : Int32)) ((5 : Int32)).toNatClampNeg (0 : Int32)) ((6 : Int32)).toNatClampNeg (0 : Int32)) ((7 : Int32)).toNatClampNeg (0 : Int32)) ((8 : Int32)).toNatClampNeg (0 : Int32)) ((9 : Int32)).toNatClampNeg (0 : Int32)) ((10 : Int32)).toNatClampNeg (0 : Int32)) ((11 : Int32)).toNatClampNeg (0 : Int32))))
theorem ml10_32_len (G : Gh) (a : Nat) : (ml10_32 G a).length = 11 := by unfold ml10_32; rw [List.length_set]; exact ml10_31_len G a
theorem ml10_32_0 (G : Gh) (a : Nat) : (ml10_32 G a)[0]? = some (.inr (10, fz10_10 a)) := st_ne (by decide) (ml10_31_0 G a)
theorem ml10_32_10 (G : Gh) (a : Nat) : (ml10_32 G a)[10]? = some (.inl (gc G 1, 22, .inl (upd (upd (upd (upd (upd (upd (upd (upd (upd (upd (upd (upd (fun _ => 0) ((0 : Int32)).toNatClampNeg (-1 : Int32)) ((1 : Int32)).toNatClampNeg (0 : Int32)) ((2 : Int32)).toNatClampNeg (0 : Int32)) ((3 : Int32)).toNatClampNeg (0 : Int32)) ((4 : Int32)).toNatClampNeg (-1 : Int32)) ((5 : Int32)).toNatClampNeg (0 : Int32)) ((6 : Int32)).toNatClampNeg (0 : Int32)) ((7 : Int32)).toNatClampNeg (0 : Int32)) ((8 : Int32)).toNatClampNeg (0 : Int32)) ((9 : Int32)).toNatClampNeg (0 : Int32)) ((10 : Int32)).toNatClampNeg (0 : Int32)) ((11 : Int32)).toNatClampNeg (0 : Int32)))) := st_same (by rw [ml10_31_len]; decide)
def ml10_33 (G : Gh) (a : Nat) : List va_E := (ml10_32 G a).set 10 (.inl (gc G 1, 22, .inl (upd (upd (upd (upd (upd (upd (upd (upd (upd (upd (upd (upd (upd (fun _ => 0) ((0 : Int32)).toNatClampNeg (-1 : Int32)) ((1 : Int32)).toNatClampNeg (0 : Int32)) ((2 : Int32)).toNatClampNeg (0 : Int32)) ((3 : Int32)).toNatClampNeg (0 : Int32)) ((4 : Int32)).toNatClampNeg (-1 : Int32)) ((5 : Int32)).toNatClampNeg (0 : Int32)) ((6 : Int32)).toNatClampNeg (0 : Int32)) ((7 : Int32)).toNatClampNeg (0 : Int32)) ((8 : Int32)).toNatClampNeg (0 : Int32)) ((9 : Int32)).toNatClampNeg (0 : Int32)) ((10 : Int32)).toNatClampNeg (0 : Int32)) ((11 : Int32)).toNatClampNeg (0 : Int32)) ((12 : Int32)).toNatClampNeg (0 : Int32))))
theorem ml10_33_len (G : Gh) (a : Nat) : (ml10_33 G a).length = 11 := by unfold ml10_33; rw [List.length_set]; exact ml10_32_len G a
theorem ml10_33_0 (G : Gh) (a : Nat) : (ml10_33 G a)[0]? = some (.inr (10, fz10_10 a)) := st_ne (by decide) (ml10_32_0 G a)
theorem ml10_33_10 (G : Gh) (a : Nat) : (ml10_33 G a)[10]? = some (.inl (gc G 1, 22, .inl (upd (upd (upd (upd (upd (upd (upd (upd (upd (upd (upd (upd (upd (fun _ => 0) ((0 : Int32)).toNatClampNeg (-1 : Int32)) ((1 : Int32)).toNatClampNeg (0 : Int32)) ((2 : Int32)).toNatClampNeg (0 : Int32)) ((3 : Int32)).toNatClampNeg (0 : Int32)) ((4 : Int32)).toNatClampNeg (-1 : Int32)) ((5 : Int32)).toNatClampNeg (0 : Int32)) ((6 : Int32)).toNatClampNeg (0 : Int32)) ((7 : Int32)).toNatClampNeg (0 : Int32)) ((8 : Int32)).toNatClampNeg (0 : Int32)) ((9 : Int32)).toNatClampNeg (0 : Int32)) ((10 : Int32)).toNatClampNeg (0 : Int32)) ((11 : Int32)).toNatClampNeg (0 : Int32)) ((12 : Int32)).toNatClampNeg (0 : Int32)))) := st_same (by rw [ml10_32_len]; decide)
def ml10_34 (G : Gh) (a : Nat) : List va_E := (ml10_33 G a).set 10 (.inl (gc G 1, 22, .inl (upd (upd (upd (upd (upd (upd (upd (upd (upd (upd (upd (upd (upd (upd (fun _ => 0) ((0 : Int32)).toNatClampNeg (-1 : Int32)) ((1 : Int32)).toNatClampNeg (0 : Int32)) ((2 : Int32)).toNatClampNeg (0 : Int32)) ((3 : Int32)).toNatClampNeg (0 : Int32)) ((4 : Int32)).toNatClampNeg (-1 : Int32)) ((5 : Int32)).toNatClampNeg (0 : Int32)) ((6 : Int32)).toNatClampNeg (0 : Int32)) ((7 : Int32)).toNatClampNeg (0 : Int32)) ((8 : Int32)).toNatClampNeg (0 : Int32)) ((9 : Int32)).toNatClampNeg (0 : Int32)) ((10 : Int32)).toNatClampNeg (0 : Int32)) ((11 : Int32)).toNatClampNeg (0 : Int32)) ((12 : Int32)).toNatClampNeg (0 : Int32)) ((13 : Int32)).toNatClampNeg (0 : Int32))))
theorem ml10_34_len (G : Gh) (a : Nat) : (ml10_34 G a).length = 11 := by unfold ml10_34; rw [List.length_set]; exact ml10_33_len G a
theorem ml10_34_0 (G : Gh) (a : Nat) : (ml10_34 G a)[0]? = some (.inr (10, fz10_10 a)) := st_ne (by decide) (ml10_33_0 G a)
theorem ml10_34_10 (G : Gh) (a : Nat) : (ml10_34 G a)[10]? = some (.inl (gc G 1, 22, .inl (upd (upd (upd (upd (upd (upd (upd (upd (upd (upd (upd (upd (upd (upd (fun _ => 0) ((0 : Int32)).toNatClampNeg (-1 : Int32)) ((1 : Int32)).toNatClampNeg (0 : Int32)) ((2 : Int32)).toNatClampNeg (0 : Int32)) ((3 : Int32)).toNatClampNeg (0 : Int32)) ((4 : Int32)).toNatClampNeg (-1 : Int32)) ((5 : Int32)).toNatClampNeg (0 : Int32)) ((6 : Int32)).toNatClampNeg (0 : Int32)) ((7 : Int32)).toNatClampNeg (0 : Int32)) ((8 : Int32)).toNatClampNeg (0 : Int32)) ((9 : Int32)).toNatClampNeg (0 : Int32)) ((10 : Int32)).toNatClampNeg (0 : Int32)) ((11 : Int32)).toNatClampNeg (0 : Int32)) ((12 : Int32)).toNatClampNeg (0 : Int32)) ((13 : Int32)).toNatClampNeg (0 : Int32)))) := st_same (by rw [ml10_33_len]; decide)
def ml10_35 (G : Gh) (a : Nat) : List va_E := (ml10_34 G a).set 10 (.inl (gc G 1, 22, .inl (upd (upd (upd (upd (upd (upd (upd (upd (upd (upd (upd (upd (upd (upd (upd (fun _ => 0) ((0 : Int32)).toNatClampNeg (-1 : Int32)) ((1 : Int32)).toNatClampNeg (0 : Int32)) ((2 : Int32)).toNatClampNeg (0 : Int32)) ((3 : Int32)).toNatClampNeg (0 : Int32)) ((4 : Int32)).toNatClampNeg (-1 : Int32)) ((5 : Int32)).toNatClampNeg (0 : Int32)) ((6 : Int32)).toNatClampNeg (0 : Int32)) ((7 : Int32)).toNatClampNeg (0 : Int32)) ((8 : Int32)).toNatClampNeg (0 : Int32)) ((9 : Int32)).toNatClampNeg (0 : Int32)) ((10 : Int32)).toNatClampNeg (0 : Int32)) ((11 : Int32)).toNatClampNeg (0 : Int32)) ((12 : Int32)).toNatClampNeg (0 : Int32)) ((13 : Int32)).toNatClampNeg (0 : Int32)) ((14 : Int32)).toNatClampNeg (0 : Int32))))
theorem ml10_35_len (G : Gh) (a : Nat) : (ml10_35 G a).length = 11 := by unfold ml10_35; rw [List.length_set]; exact ml10_34_len G a
theorem ml10_35_0 (G : Gh) (a : Nat) : (ml10_35 G a)[0]? = some (.inr (10, fz10_10 a)) := st_ne (by decide) (ml10_34_0 G a)
theorem ml10_35_10 (G : Gh) (a : Nat) : (ml10_35 G a)[10]? = some (.inl (gc G 1, 22, .inl (upd (upd (upd (upd (upd (upd (upd (upd (upd (upd (upd (upd (upd (upd (upd (fun _ => 0) ((0 : Int32)).toNatClampNeg (-1 : Int32)) ((1 : Int32)).toNatClampNeg (0 : Int32)) ((2 : Int32)).toNatClampNeg (0 : Int32)) ((3 : Int32)).toNatClampNeg (0 : Int32)) ((4 : Int32)).toNatClampNeg (-1 : Int32)) ((5 : Int32)).toNatClampNeg (0 : Int32)) ((6 : Int32)).toNatClampNeg (0 : Int32)) ((7 : Int32)).toNatClampNeg (0 : Int32)) ((8 : Int32)).toNatClampNeg (0 : Int32)) ((9 : Int32)).toNatClampNeg (0 : Int32)) ((10 : Int32)).toNatClampNeg (0 : Int32)) ((11 : Int32)).toNatClampNeg (0 : Int32)) ((12 : Int32)).toNatClampNeg (0 : Int32)) ((13 : Int32)).toNatClampNeg (0 : Int32)) ((14 : Int32)).toNatClampNeg (0 : Int32)))) := st_same (by rw [ml10_34_len]; decide)
def ml10_36 (G : Gh) (a : Nat) : List va_E := (ml10_35 G a).set 10 (.inl (gc G 1, 22, .inl (upd (upd (upd (upd (upd (upd (upd (upd (upd (upd (upd (upd (upd (upd (upd (upd (fun _ => 0) ((0 : Int32)).toNatClampNeg (-1 : Int32)) ((1 : Int32)).toNatClampNeg (0 : Int32)) ((2 : Int32)).toNatClampNeg (0 : Int32)) ((3 : Int32)).toNatClampNeg (0 : Int32)) ((4 : Int32)).toNatClampNeg (-1 : Int32)) ((5 : Int32)).toNatClampNeg (0 : Int32)) ((6 : Int32)).toNatClampNeg (0 : Int32)) ((7 : Int32)).toNatClampNeg (0 : Int32)) ((8 : Int32)).toNatClampNeg (0 : Int32)) ((9 : Int32)).toNatClampNeg (0 : Int32)) ((10 : Int32)).toNatClampNeg (0 : Int32)) ((11 : Int32)).toNatClampNeg (0 : Int32)) ((12 : Int32)).toNatClampNeg (0 : Int32)) ((13 : Int32)).toNatClampNeg (0 : Int32)) ((14 : Int32)).toNatClampNeg (0 : Int32)) ((15 : Int32)).toNatClampNeg (0 : Int32))))
theorem ml10_36_len (G : Gh) (a : Nat) : (ml10_36 G a).length = 11 := by unfold ml10_36; rw [List.length_set]; exact ml10_35_len G a
theorem ml10_36_0 (G : Gh) (a : Nat) : (ml10_36 G a)[0]? = some (.inr (10, fz10_10 a)) := st_ne (by decide) (ml10_35_0 G a)
theorem ml10_36_10 (G : Gh) (a : Nat) : (ml10_36 G a)[10]? = some (.inl (gc G 1, 22, .inl (upd (upd (upd (upd (upd (upd (upd (upd (upd (upd (upd (upd (upd (upd (upd (upd (fun _ => 0) ((0 : Int32)).toNatClampNeg (-1 : Int32)) ((1 : Int32)).toNatClampNeg (0 : Int32)) ((2 : Int32)).toNatClampNeg (0 : Int32)) ((3 : Int32)).toNatClampNeg (0 : Int32)) ((4 : Int32)).toNatClampNeg (-1 : Int32)) ((5 : Int32)).toNatClampNeg (0 : Int32)) ((6 : Int32)).toNatClampNeg (0 : Int32)) ((7 : Int32)).toNatClampNeg (0 : Int32)) ((8 : Int32)).toNatClampNeg (0 : Int32)) ((9 : Int32)).toNatClampNeg (0 : Int32)) ((10 : Int32)).toNatClampNeg (0 : Int32)) ((11 : Int32)).toNatClampNeg (0 : Int32)) ((12 : Int32)).toNatClampNeg (0 : Int32)) ((13 : Int32)).toNatClampNeg (0 : Int32)) ((14 : Int32)).toNatClampNeg (0 : Int32)) ((15 : Int32)).toNatClampNeg (0 : Int32)))) := st_same (by rw [ml10_35_len]; decide)
def ml10_37 (G : Gh) (a : Nat) : List va_E := (ml10_36 G a).set 10 (.inl (gc G 1, 22, .inl (upd (upd (upd (upd (upd (upd (upd (upd (upd (upd (upd (upd (upd (upd (upd (upd (upd (fun _ => 0) ((0 : Int32)).toNatClampNeg (-1 : Int32)) ((1 : Int32)).toNatClampNeg (0 : Int32)) ((2 : Int32)).toNatClampNeg (0 : Int32)) ((3 : Int32)).toNatClampNeg (0 : Int32)) ((4 : Int32)).toNatClampNeg (-1 : Int32)) ((5 : Int32)).toNatClampNeg (0 : Int32)) ((6 : Int32)).toNatClampNeg (0 : Int32)) ((7 : Int32)).toNatClampNeg (0 : Int32)) ((8 : Int32)).toNatClampNeg (0 : Int32)) ((9 : Int32)).toNatClampNeg (0 : Int32)) ((10 : Int32)).toNatClampNeg (0 : Int32)) ((11 : Int32)).toNatClampNeg (0 : Int32)) ((12 : Int32)).toNatClampNeg (0 : Int32)) ((13 : Int32)).toNatClampNeg (0 : Int32)) ((14 : Int32)).toNatClampNeg (0 : Int32)) ((15 : Int32)).toNatClampNeg (0 : Int32)) ((16 : Int32)).toNatClampNeg (0 : Int32))))
theorem ml10_37_len (G : Gh) (a : Nat) : (ml10_37 G a).length = 11 := by unfold ml10_37; rw [List.length_set]; exact ml10_36_len G a
theorem ml10_37_0 (G : Gh) (a : Nat) : (ml10_37 G a)[0]? = some (.inr (10, fz10_10 a)) := st_ne (by decide) (ml10_36_0 G a)
theorem ml10_37_10 (G : Gh) (a : Nat) : (ml10_37 G a)[10]? = some (.inl (gc G 1, 22, .inl (upd (upd (upd (upd (upd (upd (upd (upd (upd (upd (upd (upd (upd (upd (upd (upd (upd (fun _ => 0) ((0 : Int32)).toNatClampNeg (-1 : Int32)) ((1 : Int32)).toNatClampNeg (0 : Int32)) ((2 : Int32)).toNatClampNeg (0 : Int32)) ((3 : Int32)).toNatClampNeg (0 : Int32)) ((4 : Int32)).toNatClampNeg (-1 : Int32)) ((5 : Int32)).toNatClampNeg (0 : Int32)) ((6 : Int32)).toNatClampNeg (0 : Int32)) ((7 : Int32)).toNatClampNeg (0 : Int32)) ((8 : Int32)).toNatClampNeg (0 : Int32)) ((9 : Int32)).toNatClampNeg (0 : Int32)) ((10 : Int32)).toNatClampNeg (0 : Int32)) ((11 : Int32)).toNatClampNeg (0 : Int32)) ((12 : Int32)).toNatClampNeg (0 : Int32)) ((13 : Int32)).toNatClampNeg (0 : Int32)) ((14 : Int32)).toNatClampNeg (0 : Int32)) ((15 : Int32)).toNatClampNeg (0 : Int32)) ((16 : Int32)).toNatClampNeg (0 : Int32)))) := st_same (by rw [ml10_36_len]; decide)
def ml10_38 (G : Gh) (a : Nat) : List va_E := (ml10_37 G a).set 10 (.inl (gc G 1, 22, .inl (upd (upd (upd (upd (upd (upd (upd (upd (upd (upd (upd (upd (upd (upd (upd (upd (upd (upd (fun _ => 0) ((0 : Int32)).toNatClampNeg (-1 : Int32)) ((1 : Int32)).toNatClampNeg (0 : Int32)) ((2 : Int32)).toNatClampNeg (0 : Int32)) ((3 : Int32)).toNatClampNeg (0 : Int32)) ((4 : Int32)).toNatClampNeg (-1 : Int32)) ((5 : Int32)).toNatClampNeg (0 : Int32)) ((6 : Int32)).toNatClampNeg (0 : Int32)) ((7 : Int32)).toNatClampNeg (0 : Int32)) ((8 : Int32)).toNatClampNeg (0 : Int32)) ((9 : Int32)).toNatClampNeg (0 : Int32)) ((10 : Int32)).toNatClampNeg (0 : Int32)) ((11 : Int32)).toNatClampNeg (0 : Int32)) ((12 : Int32)).toNatClampNeg (0 : Int32)) ((13 : Int32)).toNatClampNeg (0 : Int32)) ((14 : Int32)).toNatClampNeg (0 : Int32)) ((15 : Int32)).toNatClampNeg (0 : Int32)) ((16 : Int32)).toNatClampNeg (0 : Int32)) ((17 : Int32)).toNatClampNeg (0 : Int32))))
theorem ml10_38_len (G : Gh) (a : Nat) : (ml10_38 G a).length = 11 := by unfold ml10_38; rw [List.length_set]; exact ml10_37_len G a
theorem ml10_38_0 (G : Gh) (a : Nat) : (ml10_38 G a)[0]? = some (.inr (10, fz10_10 a)) := st_ne (by decide) (ml10_37_0 G a)
theorem ml10_38_10 (G : Gh) (a : Nat) : (ml10_38 G a)[10]? = some (.inl (gc G 1, 22, .inl (upd (upd (upd (upd (upd (upd (upd (upd (upd (upd (upd (upd (upd (upd (upd (upd (upd (upd (fun _ => 0) ((0 : Int32)).toNatClampNeg (-1 : Int32)) ((1 : Int32)).toNatClampNeg (0 : Int32)) ((2 : Int32)).toNatClampNeg (0 : Int32)) ((3 : Int32)).toNatClampNeg (0 : Int32)) ((4 : Int32)).toNatClampNeg (-1 : Int32)) ((5 : Int32)).toNatClampNeg (0 : Int32)) ((6 : Int32)).toNatClampNeg (0 : Int32)) ((7 : Int32)).toNatClampNeg (0 : Int32)) ((8 : Int32)).toNatClampNeg (0 : Int32)) ((9 : Int32)).toNatClampNeg (0 : Int32)) ((10 : Int32)).toNatClampNeg (0 : Int32)) ((11 : Int32)).toNatClampNeg (0 : Int32)) ((12 : Int32)).toNatClampNeg (0 : Int32)) ((13 : Int32)).toNatClampNeg (0 : Int32)) ((14 : Int32)).toNatClampNeg (0 : Int32)) ((15 : Int32)).toNatClampNeg (0 : Int32)) ((16 : Int32)).toNatClampNeg (0 : Int32)) ((17 : Int32)).toNatClampNeg (0 : Int32)))) := st_same (by rw [ml10_37_len]; decide)
def ml10_39 (G : Gh) (a : Nat) : List va_E := (ml10_38 G a).set 10 (.inl (gc G 1, 22, .inl (upd (upd (upd (upd (upd (upd (upd (upd (upd (upd (upd (upd (upd (upd (upd (upd (upd (upd (upd (fun _ => 0) ((0 : Int32)).toNatClampNeg (-1 : Int32)) ((1 : Int32)).toNatClampNeg (0 : Int32)) ((2 : Int32)).toNatClampNeg (0 : Int32)) ((3 : Int32)).toNatClampNeg (0 : Int32)) ((4 : Int32)).toNatClampNeg (-1 : Int32)) ((5 : Int32)).toNatClampNeg (0 : Int32)) ((6 : Int32)).toNatClampNeg (0 : Int32)) ((7 : Int32)).toNatClampNeg (0 : Int32)) ((8 : Int32)).toNatClampNeg (0 : Int32)) ((9 : Int32)).toNatClampNeg (0 : Int32)) ((10 : Int32)).toNatClampNeg (0 : Int32)) ((11 : Int32)).toNatClampNeg (0 : Int32)) ((12 : Int32)).toNatClampNeg (0 : Int32)) ((13 : Int32)).toNatClampNeg (0 : Int32)) ((14 : Int32)).toNatClampNeg (0 : Int32)) ((15 : Int32)).toNatClampNeg (0 : Int32)) ((16 : Int32)).toNatClampNeg (0 : Int32)) ((17 : Int32)).toNatClampNeg (0 : Int32)) ((18 : Int32)).toNatClampNeg (0 : Int32))))
theorem ml10_39_len (G : Gh) (a : Nat) : (ml10_39 G a).length = 11 := by unfold ml10_39; rw [List.length_set]; exact ml10_38_len G a
theorem ml10_39_0 (G : Gh) (a : Nat) : (ml10_39 G a)[0]? = some (.inr (10, fz10_10 a)) := st_ne (by decide) (ml10_38_0 G a)
theorem ml10_39_10 (G : Gh) (a : Nat) : (ml10_39 G a)[10]? = some (.inl (gc G 1, 22, .inl (upd (upd (upd (upd (upd (upd (upd (upd (upd (upd (upd (upd (upd (upd (upd (upd (upd (upd (upd (fun _ => 0) ((0 : Int32)).toNatClampNeg (-1 : Int32)) ((1 : Int32)).toNatClampNeg (0 : Int32)) ((2 : Int32)).toNatClampNeg (0 : Int32)) ((3 : Int32)).toNatClampNeg (0 : Int32)) ((4 : Int32)).toNatClampNeg (-1 : Int32)) ((5 : Int32)).toNatClampNeg (0 : Int32)) ((6 : Int32)).toNatClampNeg (0 : Int32)) ((7 : Int32)).toNatClampNeg (0 : Int32)) ((8 : Int32)).toNatClampNeg (0 : Int32)) ((9 : Int32)).toNatClampNeg (0 : Int32)) ((10 : Int32)).toNatClampNeg (0 : Int32)) ((11 : Int32)).toNatClampNeg (0 : Int32)) ((12 : Int32)).toNatClampNeg (0 : Int32)) ((13 : Int32)).toNatClampNeg (0 : Int32)) ((14 : Int32)).toNatClampNeg (0 : Int32)) ((15 : Int32)).toNatClampNeg (0 : Int32)) ((16 : Int32)).toNatClampNeg (0 : Int32)) ((17 : Int32)).toNatClampNeg (0 : Int32)) ((18 : Int32)).toNatClampNeg (0 : Int32)))) := st_same (by rw [ml10_38_len]; decide)
def ml10_40 (G : Gh) (a : Nat) : List va_E := (ml10_39 G a).set 10 (.inl (gc G 1, 22, .inl (upd (upd (upd (upd (upd (upd (upd (upd (upd (upd (upd (upd (upd (upd (upd (upd (upd (upd (upd (upd (fun _ => 0) ((0 : Int32)).toNatClampNeg (-1 : Int32)) ((1 : Int32)).toNatClampNeg (0 : Int32)) ((2 : Int32)).toNatClampNeg (0 : Int32)) ((3 : Int32)).toNatClampNeg (0 : Int32)) ((4 : Int32)).toNatClampNeg (-1 : Int32)) ((5 : Int32)).toNatClampNeg (0 : Int32)) ((6 : Int32)).toNatClampNeg (0 : Int32)) ((7 : Int32)).toNatClampNeg (0 : Int32)) ((8 : Int32)).toNatClampNeg (0 : Int32)) ((9 : Int32)).toNatClampNeg (0 : Int32)) ((10 : Int32)).toNatClampNeg (0 : Int32)) ((11 : Int32)).toNatClampNeg (0 : Int32)) ((12 : Int32)).toNatClampNeg (0 : Int32)) ((13 : Int32)).toNatClampNeg (0 : Int32)) ((14 : Int32)).toNatClampNeg (0 : Int32)) ((15 : Int32)).toNatClampNeg (0 : Int32)) ((16 : Int32)).toNatClampNeg (0 : Int32)) ((17 : Int32)).toNatClampNeg (0 : Int32)) ((18 : Int32)).toNatClampNeg (0 : Int32)) ((19 : Int32)).toNatClampNeg (0 : Int32))))
theorem ml10_40_len (G : Gh) (a : Nat) : (ml10_40 G a).length = 11 := by unfold ml10_40; rw [List.length_set]; exact ml10_39_len G a
theorem ml10_40_0 (G : Gh) (a : Nat) : (ml10_40 G a)[0]? = some (.inr (10, fz10_10 a)) := st_ne (by decide) (ml10_39_0 G a)
theorem ml10_40_10 (G : Gh) (a : Nat) : (ml10_40 G a)[10]? = some (.inl (gc G 1, 22, .inl (upd (upd (upd (upd (upd (upd (upd (upd (upd (upd (upd (upd (upd (upd (upd (upd (upd (upd (upd (upd (fun _ => 0) ((0 : Int32)).toNatClampNeg (-1 : Int32)) ((1 : Int32)).toNatClampNeg (0 : Int32)) ((2 : Int32)).toNatClampNeg (0 : Int32)) ((3 : Int32)).toNatClampNeg (0 : Int32)) ((4 : Int32)).toNatClampNeg (-1 : Int32)) ((5 : Int32)).toNatClampNeg (0 : Int32)) ((6 : Int32)).toNatClampNeg (0 : Int32)) ((7 : Int32)).toNatClampNeg (0 : Int32)) ((8 : Int32)).toNatClampNeg (0 : Int32)) ((9 : Int32)).toNatClampNeg (0 : Int32)) ((10 : Int32)).toNatClampNeg (0 : Int32)) ((11 : Int32)).toNatClampNeg (0 : Int32)) ((12 : Int32)).toNatClampNeg (0 : Int32)) ((13 : Int32)).toNatClampNeg (0 : Int32)) ((14 : Int32)).toNatClampNeg (0 : Int32)) ((15 : Int32)).toNatClampNeg (0 : Int32)) ((16 : Int32)).toNatClampNeg (0 : Int32)) ((17 : Int32)).toNatClampNeg (0 : Int32)) ((18 : Int32)).toNatClampNeg (0 : Int32)) ((19 : Int32)).toNatClampNeg (0 : Int32)))) := st_same (by rw [ml10_39_len]; decide)
def ml10_41 (G : Gh) (a : Nat) : List va_E := (ml10_40 G a).set 10 (.inl (gc G 1, 22, .inl (upd (upd (upd (upd (upd (upd (upd (upd (upd (upd (upd (upd (upd (upd (upd (upd (upd (upd (upd (upd (upd (fun _ => 0) ((0 : Int32)).toNatClampNeg (-1 : Int32)) ((1 : Int32)).toNatClampNeg (0 : Int32)) ((2 : Int32)).toNatClampNeg (0 : Int32)) ((3 : Int32)).toNatClampNeg (0 : Int32)) ((4 : Int32)).toNatClampNeg (-1 : Int32)) ((5 : Int32)).toNatClampNeg (0 : Int32)) ((6 : Int32)).toNatClampNeg (0 : Int32)) ((7 : Int32)).toNatClampNeg (0 : Int32)) ((8 : Int32)).toNatClampNeg (0 : Int32)) ((9 : Int32)).toNatClampNeg (0 : Int32)) ((10 : Int32)).toNatClampNeg (0 : Int32)) ((11 : Int32)).toNatClampNeg (0 : Int32)) ((12 : Int32)).toNatClampNeg (0 : Int32)) ((13 : Int32)).toNatClampNeg (0 : Int32)) ((14 : Int32)).toNatClampNeg (0 : Int32)) ((15 : Int32)).toNatClampNeg (0 : Int32)) ((16 : Int32)).toNatClampNeg (0 : Int32)) ((17 : Int32)).toNatClampNeg (0 : Int32)) ((18 : Int32)).toNatClampNeg (0 : Int32)) ((19 : Int32)).toNatClampNeg (0 : Int32)) ((20 : Int32)).toNatClampNeg (0 : Int32))))
theorem ml10_41_len (G : Gh) (a : Nat) : (ml10_41 G a).length = 11 := by unfold ml10_41; rw [List.length_set]; exact ml10_40_len G a
theorem ml10_41_0 (G : Gh) (a : Nat) : (ml10_41 G a)[0]? = some (.inr (10, fz10_10 a)) := st_ne (by decide) (ml10_40_0 G a)
theorem ml10_41_10 (G : Gh) (a : Nat) : (ml10_41 G a)[10]? = some (.inl (gc G 1, 22, .inl (upd (upd (upd (upd (upd (upd (upd (upd (upd (upd (upd (upd (upd (upd (upd (upd (upd (upd (upd (upd (upd (fun _ => 0) ((0 : Int32)).toNatClampNeg (-1 : Int32)) ((1 : Int32)).toNatClampNeg (0 : Int32)) ((2 : Int32)).toNatClampNeg (0 : Int32)) ((3 : Int32)).toNatClampNeg (0 : Int32)) ((4 : Int32)).toNatClampNeg (-1 : Int32)) ((5 : Int32)).toNatClampNeg (0 : Int32)) ((6 : Int32)).toNatClampNeg (0 : Int32)) ((7 : Int32)).toNatClampNeg (0 : Int32)) ((8 : Int32)).toNatClampNeg (0 : Int32)) ((9 : Int32)).toNatClampNeg (0 : Int32)) ((10 : Int32)).toNatClampNeg (0 : Int32)) ((11 : Int32)).toNatClampNeg (0 : Int32)) ((12 : Int32)).toNatClampNeg (0 : Int32)) ((13 : Int32)).toNatClampNeg (0 : Int32)) ((14 : Int32)).toNatClampNeg (0 : Int32)) ((15 : Int32)).toNatClampNeg (0 : Int32)) ((16 : Int32)).toNatClampNeg (0 : Int32)) ((17 : Int32)).toNatClampNeg (0 : Int32)) ((18 : Int32)).toNatClampNeg (0 : Int32)) ((19 : Int32)).toNatClampNeg (0 : Int32)) ((20 : Int32)).toNatClampNeg (0 : Int32)))) := st_same (by rw [ml10_40_len]; decide)
def ml10_42 (G : Gh) (a : Nat) : List va_E := (ml10_41 G a).set 10 (.inl (gc G 1, 22, .inl (upd (upd (upd (upd (upd (upd (upd (upd (upd (upd (upd (upd (upd (upd (upd (upd (upd (upd (upd (upd (upd (upd (fun _ => 0) ((0 : Int32)).toNatClampNeg (-1 : Int32)) ((1 : Int32)).toNatClampNeg (0 : Int32)) ((2 : Int32)).toNatClampNeg (0 : Int32)) ((3 : Int32)).toNatClampNeg (0 : Int32)) ((4 : Int32)).toNatClampNeg (-1 : Int32)) ((5 : Int32)).toNatClampNeg (0 : Int32)) ((6 : Int32)).toNatClampNeg (0 : Int32)) ((7 : Int32)).toNatClampNeg (0 : Int32)) ((8 : Int32)).toNatClampNeg (0 : Int32)) ((9 : Int32)).toNatClampNeg (0 : Int32)) ((10 : Int32)).toNatClampNeg (0 : Int32)) ((11 : Int32)).toNatClampNeg (0 : Int32)) ((12 : Int32)).toNatClampNeg (0 : Int32)) ((13 : Int32)).toNatClampNeg (0 : Int32)) ((14 : Int32)).toNatClampNeg (0 : Int32)) ((15 : Int32)).toNatClampNeg (0 : Int32)) ((16 : Int32)).toNatClampNeg (0 : Int32)) ((17 : Int32)).toNatClampNeg (0 : Int32)) ((18 : Int32)).toNatClampNeg (0 : Int32)) ((19 : Int32)).toNatClampNeg (0 : Int32)) ((20 : Int32)).toNatClampNeg (0 : Int32)) ((21 : Int32)).toNatClampNeg (0 : Int32))))
theorem ml10_42_len (G : Gh) (a : Nat) : (ml10_42 G a).length = 11 := by unfold ml10_42; rw [List.length_set]; exact ml10_41_len G a
theorem ml10_42_0 (G : Gh) (a : Nat) : (ml10_42 G a)[0]? = some (.inr (10, fz10_10 a)) := st_ne (by decide) (ml10_41_0 G a)
theorem ml10_42_10 (G : Gh) (a : Nat) : (ml10_42 G a)[10]? = some (.inl (gc G 1, 22, .inl (upd (upd (upd (upd (upd (upd (upd (upd (upd (upd (upd (upd (upd (upd (upd (upd (upd (upd (upd (upd (upd (upd (fun _ => 0) ((0 : Int32)).toNatClampNeg (-1 : Int32)) ((1 : Int32)).toNatClampNeg (0 : Int32)) ((2 : Int32)).toNatClampNeg (0 : Int32)) ((3 : Int32)).toNatClampNeg (0 : Int32)) ((4 : Int32)).toNatClampNeg (-1 : Int32)) ((5 : Int32)).toNatClampNeg (0 : Int32)) ((6 : Int32)).toNatClampNeg (0 : Int32)) ((7 : Int32)).toNatClampNeg (0 : Int32)) ((8 : Int32)).toNatClampNeg (0 : Int32)) ((9 : Int32)).toNatClampNeg (0 : Int32)) ((10 : Int32)).toNatClampNeg (0 : Int32)) ((11 : Int32)).toNatClampNeg (0 : Int32)) ((12 : Int32)).toNatClampNeg (0 : Int32)) ((13 : Int32)).toNatClampNeg (0 : Int32)) ((14 : Int32)).toNatClampNeg (0 : Int32)) ((15 : Int32)).toNatClampNeg (0 : Int32)) ((16 : Int32)).toNatClampNeg (0 : Int32)) ((17 : Int32)).toNatClampNeg (0 : Int32)) ((18 : Int32)).toNatClampNeg (0 : Int32)) ((19 : Int32)).toNatClampNeg (0 : Int32)) ((20 : Int32)).toNatClampNeg (0 : Int32)) ((21 : Int32)).toNatClampNeg (0 : Int32)))) := st_same (by rw [ml10_41_len]; decide)
def fz10_11 (a : Nat) : List Value := (fz10_10 a).set 12 (.ref (a + 10))
theorem fz10_11_len (a : Nat) : (fz10_11 a).length = 62 := by unfold fz10_11; rw [List.length_set]; exact fz10_10_len a
def ml10_43 (G : Gh) (a : Nat) : List va_E := (ml10_42 G a).set 0 (.inr (10, fz10_11 a))
theorem ml10_43_len (G : Gh) (a : Nat) : (ml10_43 G a).length = 11 := by unfold ml10_43; rw [List.length_set]; exact ml10_42_len G a
theorem ml10_43_0 (G : Gh) (a : Nat) : (ml10_43 G a)[0]? = some (.inr (10, fz10_11 a)) := st_same (by rw [ml10_42_len]; decide)
def fz10_12 (a : Nat) : List Value := (fz10_11 a).set 14 (.int (1 : Int32))
theorem fz10_12_len (a : Nat) : (fz10_12 a).length = 62 := by unfold fz10_12; rw [List.length_set]; exact fz10_11_len a
def ml10_44 (G : Gh) (a : Nat) : List va_E := (ml10_43 G a).set 0 (.inr (10, fz10_12 a))
theorem ml10_44_len (G : Gh) (a : Nat) : (ml10_44 G a).length = 11 := by unfold ml10_44; rw [List.length_set]; exact ml10_43_len G a
theorem ml10_44_0 (G : Gh) (a : Nat) : (ml10_44 G a)[0]? = some (.inr (10, fz10_12 a)) := st_same (by rw [ml10_43_len]; decide)
def ml10_45 (G : Gh) (a : Nat) : List va_E := ml10_44 G a ++ [.inl (gc G 1, (200, .inl (fun _ => 0)))]
theorem ml10_45_len (G : Gh) (a : Nat) : (ml10_45 G a).length = 12 := by unfold ml10_45; rw [List.length_append, ml10_44_len]; rfl
theorem ml10_45_0 (G : Gh) (a : Nat) : (ml10_45 G a)[0]? = some (.inr (10, fz10_12 a)) := ap_at (ml10_44_0 G a)
theorem ml10_45_11 (G : Gh) (a : Nat) : (ml10_45 G a)[11]? = some (.inl (gc G 1, (200, .inl (fun _ => 0)))) := ap_last (ml10_44_len G a)
def fz10_13 (a : Nat) : List Value := (fz10_12 a).set 15 (.ref (a + 11))
theorem fz10_13_len (a : Nat) : (fz10_13 a).length = 62 := by unfold fz10_13; rw [List.length_set]; exact fz10_12_len a
def ml10_46 (G : Gh) (a : Nat) : List va_E := (ml10_45 G a).set 0 (.inr (10, fz10_13 a))
theorem ml10_46_len (G : Gh) (a : Nat) : (ml10_46 G a).length = 12 := by unfold ml10_46; rw [List.length_set]; exact ml10_45_len G a
theorem ml10_46_0 (G : Gh) (a : Nat) : (ml10_46 G a)[0]? = some (.inr (10, fz10_13 a)) := st_same (by rw [ml10_45_len]; decide)
def ml10_47 (G : Gh) (a : Nat) : List va_E := ml10_46 G a ++ [.inl (gc G 1, (5, .inl (fun _ => 0)))]
theorem ml10_47_len (G : Gh) (a : Nat) : (ml10_47 G a).length = 13 := by unfold ml10_47; rw [List.length_append, ml10_46_len]; rfl
theorem ml10_47_0 (G : Gh) (a : Nat) : (ml10_47 G a)[0]? = some (.inr (10, fz10_13 a)) := ap_at (ml10_46_0 G a)
theorem ml10_47_12 (G : Gh) (a : Nat) : (ml10_47 G a)[12]? = some (.inl (gc G 1, (5, .inl (fun _ => 0)))) := ap_last (ml10_46_len G a)
def fz10_14 (a : Nat) : List Value := (fz10_13 a).set 26 (.ref (a + 12))
theorem fz10_14_len (a : Nat) : (fz10_14 a).length = 62 := by unfold fz10_14; rw [List.length_set]; exact fz10_13_len a
def ml10_48 (G : Gh) (a : Nat) : List va_E := (ml10_47 G a).set 0 (.inr (10, fz10_14 a))
theorem ml10_48_len (G : Gh) (a : Nat) : (ml10_48 G a).length = 13 := by unfold ml10_48; rw [List.length_set]; exact ml10_47_len G a
theorem ml10_48_0 (G : Gh) (a : Nat) : (ml10_48 G a)[0]? = some (.inr (10, fz10_14 a)) := st_same (by rw [ml10_47_len]; decide)
def ml10_49 (G : Gh) (a : Nat) : List va_E := ml10_48 G a ++ [.inl (gc G 1, (5, .inl (fun _ => 0)))]
theorem ml10_49_len (G : Gh) (a : Nat) : (ml10_49 G a).length = 14 := by unfold ml10_49; rw [List.length_append, ml10_48_len]; rfl
theorem ml10_49_0 (G : Gh) (a : Nat) : (ml10_49 G a)[0]? = some (.inr (10, fz10_14 a)) := ap_at (ml10_48_0 G a)
theorem ml10_49_13 (G : Gh) (a : Nat) : (ml10_49 G a)[13]? = some (.inl (gc G 1, (5, .inl (fun _ => 0)))) := ap_last (ml10_48_len G a)
def fz10_15 (a : Nat) : List Value := (fz10_14 a).set 27 (.ref (a + 13))
theorem fz10_15_len (a : Nat) : (fz10_15 a).length = 62 := by unfold fz10_15; rw [List.length_set]; exact fz10_14_len a
def ml10_50 (G : Gh) (a : Nat) : List va_E := (ml10_49 G a).set 0 (.inr (10, fz10_15 a))
theorem ml10_50_len (G : Gh) (a : Nat) : (ml10_50 G a).length = 14 := by unfold ml10_50; rw [List.length_set]; exact ml10_49_len G a
theorem ml10_50_0 (G : Gh) (a : Nat) : (ml10_50 G a)[0]? = some (.inr (10, fz10_15 a)) := st_same (by rw [ml10_49_len]; decide)
def ml10_51 (G : Gh) (a : Nat) : List va_E := ml10_50 G a ++ [.inl (gc G 1, (6, .inl (fun _ => 0)))]
theorem ml10_51_len (G : Gh) (a : Nat) : (ml10_51 G a).length = 15 := by unfold ml10_51; rw [List.length_append, ml10_50_len]; rfl
theorem ml10_51_0 (G : Gh) (a : Nat) : (ml10_51 G a)[0]? = some (.inr (10, fz10_15 a)) := ap_at (ml10_50_0 G a)
theorem ml10_51_14 (G : Gh) (a : Nat) : (ml10_51 G a)[14]? = some (.inl (gc G 1, (6, .inl (fun _ => 0)))) := ap_last (ml10_50_len G a)
def fz10_16 (a : Nat) : List Value := (fz10_15 a).set 28 (.ref (a + 14))
theorem fz10_16_len (a : Nat) : (fz10_16 a).length = 62 := by unfold fz10_16; rw [List.length_set]; exact fz10_15_len a
def ml10_52 (G : Gh) (a : Nat) : List va_E := (ml10_51 G a).set 0 (.inr (10, fz10_16 a))
theorem ml10_52_len (G : Gh) (a : Nat) : (ml10_52 G a).length = 15 := by unfold ml10_52; rw [List.length_set]; exact ml10_51_len G a
theorem ml10_52_0 (G : Gh) (a : Nat) : (ml10_52 G a)[0]? = some (.inr (10, fz10_16 a)) := st_same (by rw [ml10_51_len]; decide)
def ml10_53 (G : Gh) (a : Nat) : List va_E := ml10_52 G a ++ [.inl (gc G 1, (6, .inl (fun _ => 0)))]
theorem ml10_53_len (G : Gh) (a : Nat) : (ml10_53 G a).length = 16 := by unfold ml10_53; rw [List.length_append, ml10_52_len]; rfl
theorem ml10_53_0 (G : Gh) (a : Nat) : (ml10_53 G a)[0]? = some (.inr (10, fz10_16 a)) := ap_at (ml10_52_0 G a)
theorem ml10_53_15 (G : Gh) (a : Nat) : (ml10_53 G a)[15]? = some (.inl (gc G 1, (6, .inl (fun _ => 0)))) := ap_last (ml10_52_len G a)
def fz10_17 (a : Nat) : List Value := (fz10_16 a).set 29 (.ref (a + 15))
theorem fz10_17_len (a : Nat) : (fz10_17 a).length = 62 := by unfold fz10_17; rw [List.length_set]; exact fz10_16_len a
def ml10_54 (G : Gh) (a : Nat) : List va_E := (ml10_53 G a).set 0 (.inr (10, fz10_17 a))
theorem ml10_54_len (G : Gh) (a : Nat) : (ml10_54 G a).length = 16 := by unfold ml10_54; rw [List.length_set]; exact ml10_53_len G a
theorem ml10_54_0 (G : Gh) (a : Nat) : (ml10_54 G a)[0]? = some (.inr (10, fz10_17 a)) := st_same (by rw [ml10_53_len]; decide)
def ml10_55 (G : Gh) (a : Nat) : List va_E := ml10_54 G a ++ [.inl (gc G 1, (6, .inl (fun _ => 0)))]
theorem ml10_55_len (G : Gh) (a : Nat) : (ml10_55 G a).length = 17 := by unfold ml10_55; rw [List.length_append, ml10_54_len]; rfl
theorem ml10_55_0 (G : Gh) (a : Nat) : (ml10_55 G a)[0]? = some (.inr (10, fz10_17 a)) := ap_at (ml10_54_0 G a)
theorem ml10_55_16 (G : Gh) (a : Nat) : (ml10_55 G a)[16]? = some (.inl (gc G 1, (6, .inl (fun _ => 0)))) := ap_last (ml10_54_len G a)
def fz10_18 (a : Nat) : List Value := (fz10_17 a).set 30 (.ref (a + 16))
theorem fz10_18_len (a : Nat) : (fz10_18 a).length = 62 := by unfold fz10_18; rw [List.length_set]; exact fz10_17_len a
def ml10_56 (G : Gh) (a : Nat) : List va_E := (ml10_55 G a).set 0 (.inr (10, fz10_18 a))
theorem ml10_56_len (G : Gh) (a : Nat) : (ml10_56 G a).length = 17 := by unfold ml10_56; rw [List.length_set]; exact ml10_55_len G a
theorem ml10_56_0 (G : Gh) (a : Nat) : (ml10_56 G a)[0]? = some (.inr (10, fz10_18 a)) := st_same (by rw [ml10_55_len]; decide)
def ml10_57 (G : Gh) (a : Nat) : List va_E := ml10_56 G a ++ [.inl (gc G 1, (6, .inl (fun _ => 0)))]
theorem ml10_57_len (G : Gh) (a : Nat) : (ml10_57 G a).length = 18 := by unfold ml10_57; rw [List.length_append, ml10_56_len]; rfl
theorem ml10_57_0 (G : Gh) (a : Nat) : (ml10_57 G a)[0]? = some (.inr (10, fz10_18 a)) := ap_at (ml10_56_0 G a)
theorem ml10_57_17 (G : Gh) (a : Nat) : (ml10_57 G a)[17]? = some (.inl (gc G 1, (6, .inl (fun _ => 0)))) := ap_last (ml10_56_len G a)
def fz10_19 (a : Nat) : List Value := (fz10_18 a).set 31 (.ref (a + 17))
theorem fz10_19_len (a : Nat) : (fz10_19 a).length = 62 := by unfold fz10_19; rw [List.length_set]; exact fz10_18_len a
def ml10_58 (G : Gh) (a : Nat) : List va_E := (ml10_57 G a).set 0 (.inr (10, fz10_19 a))
theorem ml10_58_len (G : Gh) (a : Nat) : (ml10_58 G a).length = 18 := by unfold ml10_58; rw [List.length_set]; exact ml10_57_len G a
theorem ml10_58_0 (G : Gh) (a : Nat) : (ml10_58 G a)[0]? = some (.inr (10, fz10_19 a)) := st_same (by rw [ml10_57_len]; decide)
def ml10_59 (G : Gh) (a : Nat) : List va_E := ml10_58 G a ++ [.inl (gc G 1, (12, .inl (fun _ => 0)))]
theorem ml10_59_len (G : Gh) (a : Nat) : (ml10_59 G a).length = 19 := by unfold ml10_59; rw [List.length_append, ml10_58_len]; rfl
theorem ml10_59_0 (G : Gh) (a : Nat) : (ml10_59 G a)[0]? = some (.inr (10, fz10_19 a)) := ap_at (ml10_58_0 G a)
theorem ml10_59_18 (G : Gh) (a : Nat) : (ml10_59 G a)[18]? = some (.inl (gc G 1, (12, .inl (fun _ => 0)))) := ap_last (ml10_58_len G a)
def fz10_20 (a : Nat) : List Value := (fz10_19 a).set 32 (.ref (a + 18))
theorem fz10_20_len (a : Nat) : (fz10_20 a).length = 62 := by unfold fz10_20; rw [List.length_set]; exact fz10_19_len a
def ml10_60 (G : Gh) (a : Nat) : List va_E := (ml10_59 G a).set 0 (.inr (10, fz10_20 a))
theorem ml10_60_len (G : Gh) (a : Nat) : (ml10_60 G a).length = 19 := by unfold ml10_60; rw [List.length_set]; exact ml10_59_len G a
theorem ml10_60_0 (G : Gh) (a : Nat) : (ml10_60 G a)[0]? = some (.inr (10, fz10_20 a)) := st_same (by rw [ml10_59_len]; decide)
def fz10_21 (a : Nat) : List Value := (fz10_20 a).set 33 (.int (-1 : Int32))
theorem fz10_21_len (a : Nat) : (fz10_21 a).length = 62 := by unfold fz10_21; rw [List.length_set]; exact fz10_20_len a
def ml10_61 (G : Gh) (a : Nat) : List va_E := (ml10_60 G a).set 0 (.inr (10, fz10_21 a))
theorem ml10_61_len (G : Gh) (a : Nat) : (ml10_61 G a).length = 19 := by unfold ml10_61; rw [List.length_set]; exact ml10_60_len G a
theorem ml10_61_0 (G : Gh) (a : Nat) : (ml10_61 G a)[0]? = some (.inr (10, fz10_21 a)) := st_same (by rw [ml10_60_len]; decide)
def ml10_62 (G : Gh) (a : Nat) : List va_E := ml10_61 G a ++ [.inl (gc G 1, (60, .inl (fun _ => 0)))]
theorem ml10_62_len (G : Gh) (a : Nat) : (ml10_62 G a).length = 20 := by unfold ml10_62; rw [List.length_append, ml10_61_len]; rfl
theorem ml10_62_0 (G : Gh) (a : Nat) : (ml10_62 G a)[0]? = some (.inr (10, fz10_21 a)) := ap_at (ml10_61_0 G a)
theorem ml10_62_19 (G : Gh) (a : Nat) : (ml10_62 G a)[19]? = some (.inl (gc G 1, (60, .inl (fun _ => 0)))) := ap_last (ml10_61_len G a)
def fz10_22 (a : Nat) : List Value := (fz10_21 a).set 34 (.ref (a + 19))
theorem fz10_22_len (a : Nat) : (fz10_22 a).length = 62 := by unfold fz10_22; rw [List.length_set]; exact fz10_21_len a
def ml10_63 (G : Gh) (a : Nat) : List va_E := (ml10_62 G a).set 0 (.inr (10, fz10_22 a))
theorem ml10_63_len (G : Gh) (a : Nat) : (ml10_63 G a).length = 20 := by unfold ml10_63; rw [List.length_set]; exact ml10_62_len G a
theorem ml10_63_0 (G : Gh) (a : Nat) : (ml10_63 G a)[0]? = some (.inr (10, fz10_22 a)) := st_same (by rw [ml10_62_len]; decide)
def ml10_64 (G : Gh) (a : Nat) : List va_E := ml10_63 G a ++ [.inl (gc G 1, (5, .inl (fun _ => 0)))]
theorem ml10_64_len (G : Gh) (a : Nat) : (ml10_64 G a).length = 21 := by unfold ml10_64; rw [List.length_append, ml10_63_len]; rfl
theorem ml10_64_0 (G : Gh) (a : Nat) : (ml10_64 G a)[0]? = some (.inr (10, fz10_22 a)) := ap_at (ml10_63_0 G a)
theorem ml10_64_20 (G : Gh) (a : Nat) : (ml10_64 G a)[20]? = some (.inl (gc G 1, (5, .inl (fun _ => 0)))) := ap_last (ml10_63_len G a)
def fz10_23 (a : Nat) : List Value := (fz10_22 a).set 39 (.ref (a + 20))
theorem fz10_23_len (a : Nat) : (fz10_23 a).length = 62 := by unfold fz10_23; rw [List.length_set]; exact fz10_22_len a
def ml10_65 (G : Gh) (a : Nat) : List va_E := (ml10_64 G a).set 0 (.inr (10, fz10_23 a))
theorem ml10_65_len (G : Gh) (a : Nat) : (ml10_65 G a).length = 21 := by unfold ml10_65; rw [List.length_set]; exact ml10_64_len G a
theorem ml10_65_0 (G : Gh) (a : Nat) : (ml10_65 G a)[0]? = some (.inr (10, fz10_23 a)) := st_same (by rw [ml10_64_len]; decide)
def ml10_66 (G : Gh) (a : Nat) : List va_E := ml10_65 G a ++ [.inl (gc G 1, (5, .inl (fun _ => 0)))]
theorem ml10_66_len (G : Gh) (a : Nat) : (ml10_66 G a).length = 22 := by unfold ml10_66; rw [List.length_append, ml10_65_len]; rfl
theorem ml10_66_0 (G : Gh) (a : Nat) : (ml10_66 G a)[0]? = some (.inr (10, fz10_23 a)) := ap_at (ml10_65_0 G a)
theorem ml10_66_21 (G : Gh) (a : Nat) : (ml10_66 G a)[21]? = some (.inl (gc G 1, (5, .inl (fun _ => 0)))) := ap_last (ml10_65_len G a)
def fz10_24 (a : Nat) : List Value := (fz10_23 a).set 40 (.ref (a + 21))
theorem fz10_24_len (a : Nat) : (fz10_24 a).length = 62 := by unfold fz10_24; rw [List.length_set]; exact fz10_23_len a
def ml10_67 (G : Gh) (a : Nat) : List va_E := (ml10_66 G a).set 0 (.inr (10, fz10_24 a))
theorem ml10_67_len (G : Gh) (a : Nat) : (ml10_67 G a).length = 22 := by unfold ml10_67; rw [List.length_set]; exact ml10_66_len G a
theorem ml10_67_0 (G : Gh) (a : Nat) : (ml10_67 G a)[0]? = some (.inr (10, fz10_24 a)) := st_same (by rw [ml10_66_len]; decide)
def ml10_68 (G : Gh) (a : Nat) : List va_E := ml10_67 G a ++ [.inl (gc G 1, (5, .inl (fun _ => 0)))]
theorem ml10_68_len (G : Gh) (a : Nat) : (ml10_68 G a).length = 23 := by unfold ml10_68; rw [List.length_append, ml10_67_len]; rfl
theorem ml10_68_0 (G : Gh) (a : Nat) : (ml10_68 G a)[0]? = some (.inr (10, fz10_24 a)) := ap_at (ml10_67_0 G a)
theorem ml10_68_22 (G : Gh) (a : Nat) : (ml10_68 G a)[22]? = some (.inl (gc G 1, (5, .inl (fun _ => 0)))) := ap_last (ml10_67_len G a)
def fz10_25 (a : Nat) : List Value := (fz10_24 a).set 41 (.ref (a + 22))
theorem fz10_25_len (a : Nat) : (fz10_25 a).length = 62 := by unfold fz10_25; rw [List.length_set]; exact fz10_24_len a
def ml10_69 (G : Gh) (a : Nat) : List va_E := (ml10_68 G a).set 0 (.inr (10, fz10_25 a))
theorem ml10_69_len (G : Gh) (a : Nat) : (ml10_69 G a).length = 23 := by unfold ml10_69; rw [List.length_set]; exact ml10_68_len G a
theorem ml10_69_0 (G : Gh) (a : Nat) : (ml10_69 G a)[0]? = some (.inr (10, fz10_25 a)) := st_same (by rw [ml10_68_len]; decide)
def ml10_70 (G : Gh) (a : Nat) : List va_E := ml10_69 G a ++ [.inl (gc G 1, (60, .inl (fun _ => 0)))]
theorem ml10_70_len (G : Gh) (a : Nat) : (ml10_70 G a).length = 24 := by unfold ml10_70; rw [List.length_append, ml10_69_len]; rfl
theorem ml10_70_0 (G : Gh) (a : Nat) : (ml10_70 G a)[0]? = some (.inr (10, fz10_25 a)) := ap_at (ml10_69_0 G a)
theorem ml10_70_23 (G : Gh) (a : Nat) : (ml10_70 G a)[23]? = some (.inl (gc G 1, (60, .inl (fun _ => 0)))) := ap_last (ml10_69_len G a)
def fz10_26 (a : Nat) : List Value := (fz10_25 a).set 44 (.ref (a + 23))
theorem fz10_26_len (a : Nat) : (fz10_26 a).length = 62 := by unfold fz10_26; rw [List.length_set]; exact fz10_25_len a
def ml10_71 (G : Gh) (a : Nat) : List va_E := (ml10_70 G a).set 0 (.inr (10, fz10_26 a))
theorem ml10_71_len (G : Gh) (a : Nat) : (ml10_71 G a).length = 24 := by unfold ml10_71; rw [List.length_set]; exact ml10_70_len G a
theorem ml10_71_0 (G : Gh) (a : Nat) : (ml10_71 G a)[0]? = some (.inr (10, fz10_26 a)) := st_same (by rw [ml10_70_len]; decide)
def ml10_72 (G : Gh) (a : Nat) : List va_E := ml10_71 G a ++ [.inl (gc G 1, (4, .inl (fun _ => 0)))]
theorem ml10_72_len (G : Gh) (a : Nat) : (ml10_72 G a).length = 25 := by unfold ml10_72; rw [List.length_append, ml10_71_len]; rfl
theorem ml10_72_0 (G : Gh) (a : Nat) : (ml10_72 G a)[0]? = some (.inr (10, fz10_26 a)) := ap_at (ml10_71_0 G a)
theorem ml10_72_24 (G : Gh) (a : Nat) : (ml10_72 G a)[24]? = some (.inl (gc G 1, (4, .inl (fun _ => 0)))) := ap_last (ml10_71_len G a)
def ml10_73 (G : Gh) (a : Nat) : List va_E := (ml10_72 G a).set 24 (.inl (gc G 1, 4, .inl (upd (fun _ => 0) ((0 : Int32)).toNatClampNeg (-1 : Int32))))
theorem ml10_73_len (G : Gh) (a : Nat) : (ml10_73 G a).length = 25 := by unfold ml10_73; rw [List.length_set]; exact ml10_72_len G a
theorem ml10_73_0 (G : Gh) (a : Nat) : (ml10_73 G a)[0]? = some (.inr (10, fz10_26 a)) := st_ne (by decide) (ml10_72_0 G a)
theorem ml10_73_24 (G : Gh) (a : Nat) : (ml10_73 G a)[24]? = some (.inl (gc G 1, 4, .inl (upd (fun _ => 0) ((0 : Int32)).toNatClampNeg (-1 : Int32)))) := st_same (by rw [ml10_72_len]; decide)
def ml10_74 (G : Gh) (a : Nat) : List va_E := (ml10_73 G a).set 24 (.inl (gc G 1, 4, .inl (upd (upd (fun _ => 0) ((0 : Int32)).toNatClampNeg (-1 : Int32)) ((1 : Int32)).toNatClampNeg (-1 : Int32))))
theorem ml10_74_len (G : Gh) (a : Nat) : (ml10_74 G a).length = 25 := by unfold ml10_74; rw [List.length_set]; exact ml10_73_len G a
theorem ml10_74_0 (G : Gh) (a : Nat) : (ml10_74 G a)[0]? = some (.inr (10, fz10_26 a)) := st_ne (by decide) (ml10_73_0 G a)
theorem ml10_74_24 (G : Gh) (a : Nat) : (ml10_74 G a)[24]? = some (.inl (gc G 1, 4, .inl (upd (upd (fun _ => 0) ((0 : Int32)).toNatClampNeg (-1 : Int32)) ((1 : Int32)).toNatClampNeg (-1 : Int32)))) := st_same (by rw [ml10_73_len]; decide)
def ml10_75 (G : Gh) (a : Nat) : List va_E := (ml10_74 G a).set 24 (.inl (gc G 1, 4, .inl (upd (upd (upd (fun _ => 0) ((0 : Int32)).toNatClampNeg (-1 : Int32)) ((1 : Int32)).toNatClampNeg (-1 : Int32)) ((2 : Int32)).toNatClampNeg (-1 : Int32))))
theorem ml10_75_len (G : Gh) (a : Nat) : (ml10_75 G a).length = 25 := by unfold ml10_75; rw [List.length_set]; exact ml10_74_len G a
theorem ml10_75_0 (G : Gh) (a : Nat) : (ml10_75 G a)[0]? = some (.inr (10, fz10_26 a)) := st_ne (by decide) (ml10_74_0 G a)
theorem ml10_75_24 (G : Gh) (a : Nat) : (ml10_75 G a)[24]? = some (.inl (gc G 1, 4, .inl (upd (upd (upd (fun _ => 0) ((0 : Int32)).toNatClampNeg (-1 : Int32)) ((1 : Int32)).toNatClampNeg (-1 : Int32)) ((2 : Int32)).toNatClampNeg (-1 : Int32)))) := st_same (by rw [ml10_74_len]; decide)
def ml10_76 (G : Gh) (a : Nat) : List va_E := (ml10_75 G a).set 24 (.inl (gc G 1, 4, .inl (upd (upd (upd (upd (fun _ => 0) ((0 : Int32)).toNatClampNeg (-1 : Int32)) ((1 : Int32)).toNatClampNeg (-1 : Int32)) ((2 : Int32)).toNatClampNeg (-1 : Int32)) ((3 : Int32)).toNatClampNeg (-1 : Int32))))
theorem ml10_76_len (G : Gh) (a : Nat) : (ml10_76 G a).length = 25 := by unfold ml10_76; rw [List.length_set]; exact ml10_75_len G a
theorem ml10_76_0 (G : Gh) (a : Nat) : (ml10_76 G a)[0]? = some (.inr (10, fz10_26 a)) := st_ne (by decide) (ml10_75_0 G a)
theorem ml10_76_24 (G : Gh) (a : Nat) : (ml10_76 G a)[24]? = some (.inl (gc G 1, 4, .inl (upd (upd (upd (upd (fun _ => 0) ((0 : Int32)).toNatClampNeg (-1 : Int32)) ((1 : Int32)).toNatClampNeg (-1 : Int32)) ((2 : Int32)).toNatClampNeg (-1 : Int32)) ((3 : Int32)).toNatClampNeg (-1 : Int32)))) := st_same (by rw [ml10_75_len]; decide)
def fz10_27 (a : Nat) : List Value := (fz10_26 a).set 46 (.ref (a + 24))
theorem fz10_27_len (a : Nat) : (fz10_27 a).length = 62 := by unfold fz10_27; rw [List.length_set]; exact fz10_26_len a
def ml10_77 (G : Gh) (a : Nat) : List va_E := (ml10_76 G a).set 0 (.inr (10, fz10_27 a))
theorem ml10_77_len (G : Gh) (a : Nat) : (ml10_77 G a).length = 25 := by unfold ml10_77; rw [List.length_set]; exact ml10_76_len G a
theorem ml10_77_0 (G : Gh) (a : Nat) : (ml10_77 G a)[0]? = some (.inr (10, fz10_27 a)) := st_same (by rw [ml10_76_len]; decide)
def ml10_78 (G : Gh) (a : Nat) : List va_E := ml10_77 G a ++ [.inl (gc G 1, (4, .inl (fun _ => 0)))]
theorem ml10_78_len (G : Gh) (a : Nat) : (ml10_78 G a).length = 26 := by unfold ml10_78; rw [List.length_append, ml10_77_len]; rfl
theorem ml10_78_0 (G : Gh) (a : Nat) : (ml10_78 G a)[0]? = some (.inr (10, fz10_27 a)) := ap_at (ml10_77_0 G a)
theorem ml10_78_25 (G : Gh) (a : Nat) : (ml10_78 G a)[25]? = some (.inl (gc G 1, (4, .inl (fun _ => 0)))) := ap_last (ml10_77_len G a)
def fz10_28 (a : Nat) : List Value := (fz10_27 a).set 47 (.ref (a + 25))
theorem fz10_28_len (a : Nat) : (fz10_28 a).length = 62 := by unfold fz10_28; rw [List.length_set]; exact fz10_27_len a
def ml10_79 (G : Gh) (a : Nat) : List va_E := (ml10_78 G a).set 0 (.inr (10, fz10_28 a))
theorem ml10_79_len (G : Gh) (a : Nat) : (ml10_79 G a).length = 26 := by unfold ml10_79; rw [List.length_set]; exact ml10_78_len G a
theorem ml10_79_0 (G : Gh) (a : Nat) : (ml10_79 G a)[0]? = some (.inr (10, fz10_28 a)) := st_same (by rw [ml10_78_len]; decide)
def ml10_80 (G : Gh) (a : Nat) : List va_E := ml10_79 G a ++ [.inl (gc G 2, (160, .inr (.inl (fun _ => 0))))]
theorem ml10_80_len (G : Gh) (a : Nat) : (ml10_80 G a).length = 27 := by unfold ml10_80; rw [List.length_append, ml10_79_len]; rfl
theorem ml10_80_0 (G : Gh) (a : Nat) : (ml10_80 G a)[0]? = some (.inr (10, fz10_28 a)) := ap_at (ml10_79_0 G a)
theorem ml10_80_26 (G : Gh) (a : Nat) : (ml10_80 G a)[26]? = some (.inl (gc G 2, (160, .inr (.inl (fun _ => 0))))) := ap_last (ml10_79_len G a)
def fz10_29 (a : Nat) : List Value := (fz10_28 a).set 48 (.ref (a + 26))
theorem fz10_29_len (a : Nat) : (fz10_29 a).length = 62 := by unfold fz10_29; rw [List.length_set]; exact fz10_28_len a
def ml10_81 (G : Gh) (a : Nat) : List va_E := (ml10_80 G a).set 0 (.inr (10, fz10_29 a))
theorem ml10_81_len (G : Gh) (a : Nat) : (ml10_81 G a).length = 27 := by unfold ml10_81; rw [List.length_set]; exact ml10_80_len G a
theorem ml10_81_0 (G : Gh) (a : Nat) : (ml10_81 G a)[0]? = some (.inr (10, fz10_29 a)) := st_same (by rw [ml10_80_len]; decide)
def ml10_82 (G : Gh) (a : Nat) : List va_E := ml10_81 G a ++ [.inl (gc G 1, (4, .inl (fun _ => 0)))]
theorem ml10_82_len (G : Gh) (a : Nat) : (ml10_82 G a).length = 28 := by unfold ml10_82; rw [List.length_append, ml10_81_len]; rfl
theorem ml10_82_0 (G : Gh) (a : Nat) : (ml10_82 G a)[0]? = some (.inr (10, fz10_29 a)) := ap_at (ml10_81_0 G a)
theorem ml10_82_27 (G : Gh) (a : Nat) : (ml10_82 G a)[27]? = some (.inl (gc G 1, (4, .inl (fun _ => 0)))) := ap_last (ml10_81_len G a)
def ml10_83 (G : Gh) (a : Nat) : List va_E := (ml10_82 G a).set 27 (.inl (gc G 1, 4, .inl (upd (fun _ => 0) ((0 : Int32)).toNatClampNeg (-1 : Int32))))
theorem ml10_83_len (G : Gh) (a : Nat) : (ml10_83 G a).length = 28 := by unfold ml10_83; rw [List.length_set]; exact ml10_82_len G a
theorem ml10_83_0 (G : Gh) (a : Nat) : (ml10_83 G a)[0]? = some (.inr (10, fz10_29 a)) := st_ne (by decide) (ml10_82_0 G a)
theorem ml10_83_27 (G : Gh) (a : Nat) : (ml10_83 G a)[27]? = some (.inl (gc G 1, 4, .inl (upd (fun _ => 0) ((0 : Int32)).toNatClampNeg (-1 : Int32)))) := st_same (by rw [ml10_82_len]; decide)
def ml10_84 (G : Gh) (a : Nat) : List va_E := (ml10_83 G a).set 27 (.inl (gc G 1, 4, .inl (upd (upd (fun _ => 0) ((0 : Int32)).toNatClampNeg (-1 : Int32)) ((1 : Int32)).toNatClampNeg (-1 : Int32))))
theorem ml10_84_len (G : Gh) (a : Nat) : (ml10_84 G a).length = 28 := by unfold ml10_84; rw [List.length_set]; exact ml10_83_len G a
theorem ml10_84_0 (G : Gh) (a : Nat) : (ml10_84 G a)[0]? = some (.inr (10, fz10_29 a)) := st_ne (by decide) (ml10_83_0 G a)
theorem ml10_84_27 (G : Gh) (a : Nat) : (ml10_84 G a)[27]? = some (.inl (gc G 1, 4, .inl (upd (upd (fun _ => 0) ((0 : Int32)).toNatClampNeg (-1 : Int32)) ((1 : Int32)).toNatClampNeg (-1 : Int32)))) := st_same (by rw [ml10_83_len]; decide)
def ml10_85 (G : Gh) (a : Nat) : List va_E := (ml10_84 G a).set 27 (.inl (gc G 1, 4, .inl (upd (upd (upd (fun _ => 0) ((0 : Int32)).toNatClampNeg (-1 : Int32)) ((1 : Int32)).toNatClampNeg (-1 : Int32)) ((2 : Int32)).toNatClampNeg (-1 : Int32))))
theorem ml10_85_len (G : Gh) (a : Nat) : (ml10_85 G a).length = 28 := by unfold ml10_85; rw [List.length_set]; exact ml10_84_len G a
theorem ml10_85_0 (G : Gh) (a : Nat) : (ml10_85 G a)[0]? = some (.inr (10, fz10_29 a)) := st_ne (by decide) (ml10_84_0 G a)
theorem ml10_85_27 (G : Gh) (a : Nat) : (ml10_85 G a)[27]? = some (.inl (gc G 1, 4, .inl (upd (upd (upd (fun _ => 0) ((0 : Int32)).toNatClampNeg (-1 : Int32)) ((1 : Int32)).toNatClampNeg (-1 : Int32)) ((2 : Int32)).toNatClampNeg (-1 : Int32)))) := st_same (by rw [ml10_84_len]; decide)
def ml10_86 (G : Gh) (a : Nat) : List va_E := (ml10_85 G a).set 27 (.inl (gc G 1, 4, .inl (upd (upd (upd (upd (fun _ => 0) ((0 : Int32)).toNatClampNeg (-1 : Int32)) ((1 : Int32)).toNatClampNeg (-1 : Int32)) ((2 : Int32)).toNatClampNeg (-1 : Int32)) ((3 : Int32)).toNatClampNeg (-1 : Int32))))
theorem ml10_86_len (G : Gh) (a : Nat) : (ml10_86 G a).length = 28 := by unfold ml10_86; rw [List.length_set]; exact ml10_85_len G a
theorem ml10_86_0 (G : Gh) (a : Nat) : (ml10_86 G a)[0]? = some (.inr (10, fz10_29 a)) := st_ne (by decide) (ml10_85_0 G a)
theorem ml10_86_27 (G : Gh) (a : Nat) : (ml10_86 G a)[27]? = some (.inl (gc G 1, 4, .inl (upd (upd (upd (upd (fun _ => 0) ((0 : Int32)).toNatClampNeg (-1 : Int32)) ((1 : Int32)).toNatClampNeg (-1 : Int32)) ((2 : Int32)).toNatClampNeg (-1 : Int32)) ((3 : Int32)).toNatClampNeg (-1 : Int32)))) := st_same (by rw [ml10_85_len]; decide)
def fz10_30 (a : Nat) : List Value := (fz10_29 a).set 49 (.ref (a + 27))
theorem fz10_30_len (a : Nat) : (fz10_30 a).length = 62 := by unfold fz10_30; rw [List.length_set]; exact fz10_29_len a
def ml10_87 (G : Gh) (a : Nat) : List va_E := (ml10_86 G a).set 0 (.inr (10, fz10_30 a))
theorem ml10_87_len (G : Gh) (a : Nat) : (ml10_87 G a).length = 28 := by unfold ml10_87; rw [List.length_set]; exact ml10_86_len G a
theorem ml10_87_0 (G : Gh) (a : Nat) : (ml10_87 G a)[0]? = some (.inr (10, fz10_30 a)) := st_same (by rw [ml10_86_len]; decide)
def ml10_88 (G : Gh) (a : Nat) : List va_E := ml10_87 G a ++ [.inl (gc G 1, (4, .inl (fun _ => 0)))]
theorem ml10_88_len (G : Gh) (a : Nat) : (ml10_88 G a).length = 29 := by unfold ml10_88; rw [List.length_append, ml10_87_len]; rfl
theorem ml10_88_0 (G : Gh) (a : Nat) : (ml10_88 G a)[0]? = some (.inr (10, fz10_30 a)) := ap_at (ml10_87_0 G a)
theorem ml10_88_28 (G : Gh) (a : Nat) : (ml10_88 G a)[28]? = some (.inl (gc G 1, (4, .inl (fun _ => 0)))) := ap_last (ml10_87_len G a)
def fz10_31 (a : Nat) : List Value := (fz10_30 a).set 50 (.ref (a + 28))
theorem fz10_31_len (a : Nat) : (fz10_31 a).length = 62 := by unfold fz10_31; rw [List.length_set]; exact fz10_30_len a
def ml10_89 (G : Gh) (a : Nat) : List va_E := (ml10_88 G a).set 0 (.inr (10, fz10_31 a))
theorem ml10_89_len (G : Gh) (a : Nat) : (ml10_89 G a).length = 29 := by unfold ml10_89; rw [List.length_set]; exact ml10_88_len G a
theorem ml10_89_0 (G : Gh) (a : Nat) : (ml10_89 G a)[0]? = some (.inr (10, fz10_31 a)) := st_same (by rw [ml10_88_len]; decide)
def ml10_90 (G : Gh) (a : Nat) : List va_E := ml10_89 G a ++ [.inl (gc G 1, (4, .inl (fun _ => 0)))]
theorem ml10_90_len (G : Gh) (a : Nat) : (ml10_90 G a).length = 30 := by unfold ml10_90; rw [List.length_append, ml10_89_len]; rfl
theorem ml10_90_0 (G : Gh) (a : Nat) : (ml10_90 G a)[0]? = some (.inr (10, fz10_31 a)) := ap_at (ml10_89_0 G a)
theorem ml10_90_29 (G : Gh) (a : Nat) : (ml10_90 G a)[29]? = some (.inl (gc G 1, (4, .inl (fun _ => 0)))) := ap_last (ml10_89_len G a)
def fz10_32 (a : Nat) : List Value := (fz10_31 a).set 51 (.ref (a + 29))
theorem fz10_32_len (a : Nat) : (fz10_32 a).length = 62 := by unfold fz10_32; rw [List.length_set]; exact fz10_31_len a
def ml10_91 (G : Gh) (a : Nat) : List va_E := (ml10_90 G a).set 0 (.inr (10, fz10_32 a))
theorem ml10_91_len (G : Gh) (a : Nat) : (ml10_91 G a).length = 30 := by unfold ml10_91; rw [List.length_set]; exact ml10_90_len G a
theorem ml10_91_0 (G : Gh) (a : Nat) : (ml10_91 G a)[0]? = some (.inr (10, fz10_32 a)) := st_same (by rw [ml10_90_len]; decide)
def ml10_92 (G : Gh) (a : Nat) : List va_E := ml10_91 G a ++ [.inl (gc G 1, (30, .inl (fun _ => 0)))]
theorem ml10_92_len (G : Gh) (a : Nat) : (ml10_92 G a).length = 31 := by unfold ml10_92; rw [List.length_append, ml10_91_len]; rfl
theorem ml10_92_0 (G : Gh) (a : Nat) : (ml10_92 G a)[0]? = some (.inr (10, fz10_32 a)) := ap_at (ml10_91_0 G a)
theorem ml10_92_30 (G : Gh) (a : Nat) : (ml10_92 G a)[30]? = some (.inl (gc G 1, (30, .inl (fun _ => 0)))) := ap_last (ml10_91_len G a)
def fz10_33 (a : Nat) : List Value := (fz10_32 a).set 55 (.ref (a + 30))
theorem fz10_33_len (a : Nat) : (fz10_33 a).length = 62 := by unfold fz10_33; rw [List.length_set]; exact fz10_32_len a
def ml10_93 (G : Gh) (a : Nat) : List va_E := (ml10_92 G a).set 0 (.inr (10, fz10_33 a))
theorem ml10_93_len (G : Gh) (a : Nat) : (ml10_93 G a).length = 31 := by unfold ml10_93; rw [List.length_set]; exact ml10_92_len G a
theorem ml10_93_0 (G : Gh) (a : Nat) : (ml10_93 G a)[0]? = some (.inr (10, fz10_33 a)) := st_same (by rw [ml10_92_len]; decide)
def ml10_94 (G : Gh) (a : Nat) : List va_E := ml10_93 G a ++ [.inl (gc G 1, (80, .inl (fun _ => 0)))]
theorem ml10_94_len (G : Gh) (a : Nat) : (ml10_94 G a).length = 32 := by unfold ml10_94; rw [List.length_append, ml10_93_len]; rfl
theorem ml10_94_0 (G : Gh) (a : Nat) : (ml10_94 G a)[0]? = some (.inr (10, fz10_33 a)) := ap_at (ml10_93_0 G a)
theorem ml10_94_31 (G : Gh) (a : Nat) : (ml10_94 G a)[31]? = some (.inl (gc G 1, (80, .inl (fun _ => 0)))) := ap_last (ml10_93_len G a)
def fz10_34 (a : Nat) : List Value := (fz10_33 a).set 59 (.ref (a + 31))
theorem fz10_34_len (a : Nat) : (fz10_34 a).length = 62 := by unfold fz10_34; rw [List.length_set]; exact fz10_33_len a
def ml10_95 (G : Gh) (a : Nat) : List va_E := (ml10_94 G a).set 0 (.inr (10, fz10_34 a))
theorem ml10_95_len (G : Gh) (a : Nat) : (ml10_95 G a).length = 32 := by unfold ml10_95; rw [List.length_set]; exact ml10_94_len G a
theorem ml10_95_0 (G : Gh) (a : Nat) : (ml10_95 G a)[0]? = some (.inr (10, fz10_34 a)) := st_same (by rw [ml10_94_len]; decide)
def ml10_96 (G : Gh) (a : Nat) : List va_E := ml10_95 G a ++ [.inl (gc G 1, (4, .inl (fun _ => 0)))]
theorem ml10_96_len (G : Gh) (a : Nat) : (ml10_96 G a).length = 33 := by unfold ml10_96; rw [List.length_append, ml10_95_len]; rfl
theorem ml10_96_0 (G : Gh) (a : Nat) : (ml10_96 G a)[0]? = some (.inr (10, fz10_34 a)) := ap_at (ml10_95_0 G a)
theorem ml10_96_32 (G : Gh) (a : Nat) : (ml10_96 G a)[32]? = some (.inl (gc G 1, (4, .inl (fun _ => 0)))) := ap_last (ml10_95_len G a)
def fz10_35 (a : Nat) : List Value := (fz10_34 a).set 61 (.ref (a + 32))
theorem fz10_35_len (a : Nat) : (fz10_35 a).length = 62 := by unfold fz10_35; rw [List.length_set]; exact fz10_34_len a
def ml10_97 (G : Gh) (a : Nat) : List va_E := (ml10_96 G a).set 0 (.inr (10, fz10_35 a))
theorem ml10_97_len (G : Gh) (a : Nat) : (ml10_97 G a).length = 33 := by unfold ml10_97; rw [List.length_set]; exact ml10_96_len G a
theorem ml10_97_0 (G : Gh) (a : Nat) : (ml10_97 G a)[0]? = some (.inr (10, fz10_35 a)) := st_same (by rw [ml10_96_len]; decide)
def seg_X10 (G : Gh) (a : Nat) : List va_E := ml10_97 G a
abbrev RMI_X10 : Room := { frames := 1, cells := 32, slots := 752, locals := 12 }
set_option maxHeartbeats 8000000 in
set_option maxRecDepth 100000 in
theorem im_X10 (l : Launch) (G : Gh) : IM l G yX10_init prog_12_method_1_code 1 (.inr (10, [.int 0, .null, .null, .null, .null, .null, .null, .int 0, .int 0, .null, .null, .null, .null, .int 0, .int 0, .null, .int 0, .int 0, .int 0, .int 0, .long 0, .int 0, .int 0, .int 0, .int 0, .int 0, .null, .null, .null, .null, .null, .null, .null, .int 0, .null, .int 0, .int 0, .int 0, .int 0, .null, .null, .null, .int 0, .int 0, .null, .int 0, .null, .null, .null, .null, .null, .null, .int 0, .int 0, .int 0, .null, .int 0, .int 0, .int 0, .null, .int 0, .null])) (seg_X10 G) RMI_X10 32 752 := by
  refine im_of (by decide) rfl (fun base a P p e s m below meth c ha X hP hz => ?_)
  have hx := X.hx
  have hb := X.hb
  have hS : va_S (BA base) s.heap s.heap [] := va_S.rf
  have hl := lv_entry ([.ref a]) (n := 1) (Nat.le_of_ble_eq_true rfl)
  rw [lg_entry_eq]
  generalize (lg_sl ([.ref a]) ++ List.replicate (1 - (lg_sl ([.ref a])).length) Slot.unset).toArray = ls at hl ⊢
  have hl : lv_has ls 1 [(0, .ref a)] := hl
  refine lv_aload_n (pc := 0) hx hb dX10_init_0 rfl (lv_at hl 0 rfl) ?_
  refine n_obj (pc := 1) X (X.tb tw_983 rfl) (X.tb tw_24 rfl) (X.tb tw_25 rfl) hl.1 dX10_init_1 (Nat.le_of_ble_eq_true rfl) (Nat.le_of_ble_eq_true rfl) ?_
  refine lv_aload_n (pc := 4) hx hb dX10_init_4 rfl (lv_at hl 0 rfl) ?_
  refine lv_iconst (pc := 5) (v := (5)) hx hb dX10_init_5 (by decide) ?_
  refine n_arr (pc := 6) X hP hS ha (ty := .int) rfl (X.tb tw_70 rfl) (t0 := 1) rfl (fun C h => by cases h) (N := 5) (a0 := (5, .inl (fun _ => 0))) (fun _ => rfl) (by decide) (by decide) (Nat.le_of_ble_eq_true rfl) (n := 1) (ml10_0_len G a) (q := (a + 1)) rfl (L' := ml10_1 G a) rfl (Nat.le_of_ble_eq_true rfl) (Nat.le_of_ble_eq_true rfl) dX10_init_6 (fun H hP hS => ?_)
  refine n_putF (pc := 8) X hP hS (by rw [ml10_1_len]; omega) ha tyX10 tyX10_ok nmX10 (uw10 X.hT) rfl (by decide : 1 < 62) (X.tb tw_985 rfl) rfl rfl (ty := tyX10 1) (by decide +kernel) rfl rfl (i := 0) (ml10_1_0 G a) (q := a) rfl (by rw [fz10_0_len]; decide) (L' := ml10_2 G a) rfl dX10_init_8 (fun H locs hP hS => ?_)
  refine lv_aload_n (pc := 11) hx hb dX10_init_11 rfl (lv_at hl 0 rfl) ?_
  refine lv_iconst (pc := 12) (v := (5)) hx hb dX10_init_12 (by decide) ?_
  refine n_arr (pc := 13) X hP hS ha (ty := .int) rfl (X.tb tw_70 rfl) (t0 := 1) rfl (fun C h => by cases h) (N := 5) (a0 := (5, .inl (fun _ => 0))) (fun _ => rfl) (by decide) (by decide) (Nat.le_of_ble_eq_true rfl) (n := 2) (ml10_2_len G a) (q := (a + 2)) rfl (L' := ml10_3 G a) rfl (Nat.le_of_ble_eq_true rfl) (Nat.le_of_ble_eq_true rfl) dX10_init_13 (fun H hP hS => ?_)
  refine n_putF (pc := 15) X hP hS (by rw [ml10_3_len]; omega) ha tyX10 tyX10_ok nmX10 (uw10 X.hT) rfl (by decide : 2 < 62) (X.tb tw_986 rfl) rfl rfl (ty := tyX10 2) (by decide +kernel) rfl rfl (i := 0) (ml10_3_0 G a) (q := a) rfl (by rw [fz10_1_len]; decide) (L' := ml10_4 G a) rfl dX10_init_15 (fun H locs hP hS => ?_)
  refine lv_aload_n (pc := 18) hx hb dX10_init_18 rfl (lv_at hl 0 rfl) ?_
  refine lv_iconst (pc := 19) (v := (5)) hx hb dX10_init_19 (by decide) ?_
  refine n_arr (pc := 20) X hP hS ha (ty := .int) rfl (X.tb tw_70 rfl) (t0 := 1) rfl (fun C h => by cases h) (N := 5) (a0 := (5, .inl (fun _ => 0))) (fun _ => rfl) (by decide) (by decide) (Nat.le_of_ble_eq_true rfl) (n := 3) (ml10_4_len G a) (q := (a + 3)) rfl (L' := ml10_5 G a) rfl (Nat.le_of_ble_eq_true rfl) (Nat.le_of_ble_eq_true rfl) dX10_init_20 (fun H hP hS => ?_)
  refine n_putF (pc := 22) X hP hS (by rw [ml10_5_len]; omega) ha tyX10 tyX10_ok nmX10 (uw10 X.hT) rfl (by decide : 3 < 62) (X.tb tw_987 rfl) rfl rfl (ty := tyX10 3) (by decide +kernel) rfl rfl (i := 0) (ml10_5_0 G a) (q := a) rfl (by rw [fz10_2_len]; decide) (L' := ml10_6 G a) rfl dX10_init_22 (fun H locs hP hS => ?_)
  refine lv_aload_n (pc := 25) hx hb dX10_init_25 rfl (lv_at hl 0 rfl) ?_
  refine lv_iconst (pc := 26) (v := (5)) hx hb dX10_init_26 (by decide) ?_
  refine n_arr (pc := 27) X hP hS ha (ty := .int) rfl (X.tb tw_70 rfl) (t0 := 1) rfl (fun C h => by cases h) (N := 5) (a0 := (5, .inl (fun _ => 0))) (fun _ => rfl) (by decide) (by decide) (Nat.le_of_ble_eq_true rfl) (n := 4) (ml10_6_len G a) (q := (a + 4)) rfl (L' := ml10_7 G a) rfl (Nat.le_of_ble_eq_true rfl) (Nat.le_of_ble_eq_true rfl) dX10_init_27 (fun H hP hS => ?_)
  refine n_putF (pc := 29) X hP hS (by rw [ml10_7_len]; omega) ha tyX10 tyX10_ok nmX10 (uw10 X.hT) rfl (by decide : 4 < 62) (X.tb tw_988 rfl) rfl rfl (ty := tyX10 4) (by decide +kernel) rfl rfl (i := 0) (ml10_7_0 G a) (q := a) rfl (by rw [fz10_3_len]; decide) (L' := ml10_8 G a) rfl dX10_init_29 (fun H locs hP hS => ?_)
  refine lv_aload_n (pc := 32) hx hb dX10_init_32 rfl (lv_at hl 0 rfl) ?_
  refine lv_iconst (pc := 33) (v := (5)) hx hb dX10_init_33 (by decide) ?_
  refine n_arr (pc := 34) X hP hS ha (ty := .int) rfl (X.tb tw_70 rfl) (t0 := 1) rfl (fun C h => by cases h) (N := 5) (a0 := (5, .inl (fun _ => 0))) (fun _ => rfl) (by decide) (by decide) (Nat.le_of_ble_eq_true rfl) (n := 5) (ml10_8_len G a) (q := (a + 5)) rfl (L' := ml10_9 G a) rfl (Nat.le_of_ble_eq_true rfl) (Nat.le_of_ble_eq_true rfl) dX10_init_34 (fun H hP hS => ?_)
  refine n_putF (pc := 36) X hP hS (by rw [ml10_9_len]; omega) ha tyX10 tyX10_ok nmX10 (uw10 X.hT) rfl (by decide : 5 < 62) (X.tb tw_989 rfl) rfl rfl (ty := tyX10 5) (by decide +kernel) rfl rfl (i := 0) (ml10_9_0 G a) (q := a) rfl (by rw [fz10_4_len]; decide) (L' := ml10_10 G a) rfl dX10_init_36 (fun H locs hP hS => ?_)
  refine lv_aload_n (pc := 39) hx hb dX10_init_39 rfl (lv_at hl 0 rfl) ?_
  refine lv_bipush (pc := 40) (v := (12)) hx hb dX10_init_40 (by decide) ?_
  refine n_arr (pc := 42) X hP hS ha (ty := .int) rfl (X.tb tw_70 rfl) (t0 := 1) rfl (fun C h => by cases h) (N := 12) (a0 := (12, .inl (fun _ => 0))) (fun _ => rfl) (by decide) (by decide) (Nat.le_of_ble_eq_true rfl) (n := 6) (ml10_10_len G a) (q := (a + 6)) rfl (L' := ml10_11 G a) rfl (Nat.le_of_ble_eq_true rfl) (Nat.le_of_ble_eq_true rfl) dX10_init_42 (fun H hP hS => ?_)
  refine n_putF (pc := 44) X hP hS (by rw [ml10_11_len]; omega) ha tyX10 tyX10_ok nmX10 (uw10 X.hT) rfl (by decide : 6 < 62) (X.tb tw_990 rfl) rfl rfl (ty := tyX10 6) (by decide +kernel) rfl rfl (i := 0) (ml10_11_0 G a) (q := a) rfl (by rw [fz10_5_len]; decide) (L' := ml10_12 G a) rfl dX10_init_44 (fun H locs hP hS => ?_)
  refine lv_aload_n (pc := 47) hx hb dX10_init_47 rfl (lv_at hl 0 rfl) ?_
  refine lv_iconst (pc := 48) (v := (5)) hx hb dX10_init_48 (by decide) ?_
  refine n_put (pc := 49) X hP hS (by rw [ml10_12_len]; omega) ha tyX10 tyX10_ok nmX10 (uw10 X.hT) rfl (by decide : 7 < 62) (X.tb tw_991 rfl) rfl (ty := tyX10 7) (by decide +kernel) rfl rfl (i := 0) (ml10_12_0 G a) (q := a) rfl (by rw [fz10_6_len]; decide) (L' := ml10_13 G a) rfl dX10_init_49 (fun H locs hP hS => ?_)
  refine lv_aload_n (pc := 52) hx hb dX10_init_52 rfl (lv_at hl 0 rfl) ?_
  refine lv_bipush (pc := 53) (v := (6)) hx hb dX10_init_53 (by decide) ?_
  refine n_arr (pc := 55) X hP hS ha (ty := .int) rfl (X.tb tw_70 rfl) (t0 := 1) rfl (fun C h => by cases h) (N := 6) (a0 := (6, .inl (fun _ => 0))) (fun _ => rfl) (by decide) (by decide) (Nat.le_of_ble_eq_true rfl) (n := 7) (ml10_13_len G a) (q := (a + 7)) rfl (L' := ml10_14 G a) rfl (Nat.le_of_ble_eq_true rfl) (Nat.le_of_ble_eq_true rfl) dX10_init_55 (fun H hP hS => ?_)
  refine n_putF (pc := 57) X hP hS (by rw [ml10_14_len]; omega) ha tyX10 tyX10_ok nmX10 (uw10 X.hT) rfl (by decide : 9 < 62) (X.tb tw_993 rfl) rfl rfl (ty := tyX10 9) (by decide +kernel) rfl rfl (i := 0) (ml10_14_0 G a) (q := a) rfl (by rw [fz10_7_len]; decide) (L' := ml10_15 G a) rfl dX10_init_57 (fun H locs hP hS => ?_)
  refine lv_aload_n (pc := 60) hx hb dX10_init_60 rfl (lv_at hl 0 rfl) ?_
  refine lv_bipush (pc := 61) (v := (6)) hx hb dX10_init_61 (by decide) ?_
  refine n_arr (pc := 63) X hP hS ha (ty := .int) rfl (X.tb tw_70 rfl) (t0 := 1) rfl (fun C h => by cases h) (N := 6) (a0 := (6, .inl (fun _ => 0))) (fun _ => rfl) (by decide) (by decide) (Nat.le_of_ble_eq_true rfl) (n := 8) (ml10_15_len G a) (q := (a + 8)) rfl (L' := ml10_16 G a) rfl (Nat.le_of_ble_eq_true rfl) (Nat.le_of_ble_eq_true rfl) dX10_init_63 (fun H hP hS => ?_)
  refine n_putF (pc := 65) X hP hS (by rw [ml10_16_len]; omega) ha tyX10 tyX10_ok nmX10 (uw10 X.hT) rfl (by decide : 10 < 62) (X.tb tw_994 rfl) rfl rfl (ty := tyX10 10) (by decide +kernel) rfl rfl (i := 0) (ml10_16_0 G a) (q := a) rfl (by rw [fz10_8_len]; decide) (L' := ml10_17 G a) rfl dX10_init_65 (fun H locs hP hS => ?_)
  refine lv_aload_n (pc := 68) hx hb dX10_init_68 rfl (lv_at hl 0 rfl) ?_
  refine lv_bipush (pc := 69) (v := (6)) hx hb dX10_init_69 (by decide) ?_
  refine n_arr (pc := 71) X hP hS ha (ty := .int) rfl (X.tb tw_70 rfl) (t0 := 1) rfl (fun C h => by cases h) (N := 6) (a0 := (6, .inl (fun _ => 0))) (fun _ => rfl) (by decide) (by decide) (Nat.le_of_ble_eq_true rfl) (n := 9) (ml10_17_len G a) (q := (a + 9)) rfl (L' := ml10_18 G a) rfl (Nat.le_of_ble_eq_true rfl) (Nat.le_of_ble_eq_true rfl) dX10_init_71 (fun H hP hS => ?_)
  refine n_putF (pc := 73) X hP hS (by rw [ml10_18_len]; omega) ha tyX10 tyX10_ok nmX10 (uw10 X.hT) rfl (by decide : 11 < 62) (X.tb tw_995 rfl) rfl rfl (ty := tyX10 11) (by decide +kernel) rfl rfl (i := 0) (ml10_18_0 G a) (q := a) rfl (by rw [fz10_9_len]; decide) (L' := ml10_19 G a) rfl dX10_init_73 (fun H locs hP hS => ?_)
  refine lv_aload_n (pc := 76) hx hb dX10_init_76 rfl (lv_at hl 0 rfl) ?_
  refine lv_bipush (pc := 77) (v := (22)) hx hb dX10_init_77 (by decide) ?_
  refine n_arr (pc := 79) X hP hS ha (ty := .int) rfl (X.tb tw_70 rfl) (t0 := 1) rfl (fun C h => by cases h) (N := 22) (a0 := (22, .inl (fun _ => 0))) (fun _ => rfl) (by decide) (by decide) (Nat.le_of_ble_eq_true rfl) (n := 10) (ml10_19_len G a) (q := (a + 10)) rfl (L' := ml10_20 G a) rfl (Nat.le_of_ble_eq_true rfl) (Nat.le_of_ble_eq_true rfl) dX10_init_79 (fun H hP hS => ?_)
  refine lv_dup (pc := 81) hx hb dX10_init_81 rfl ?_
  refine lv_iconst (pc := 82) (v := (0)) hx hb dX10_init_82 (by decide) ?_
  refine lv_iconst (pc := 83) (v := (-1)) hx hb dX10_init_83 (by decide) ?_
  refine n_iast (pc := 84) X hP hS (by rw [ml10_20_len]; omega) ha (i := 10) (n := 22) (ml10_20_10 G a) (q := (a + 10)) rfl (by unfold vp_in; decide) (L' := ml10_21 G a) rfl dX10_init_84 (fun H locs hP hS => ?_)
  refine lv_dup (pc := 85) hx hb dX10_init_85 rfl ?_
  refine lv_iconst (pc := 86) (v := (1)) hx hb dX10_init_86 (by decide) ?_
  refine lv_iconst (pc := 87) (v := (0)) hx hb dX10_init_87 (by decide) ?_
  refine n_iast (pc := 88) X hP hS (by rw [ml10_21_len]; omega) ha (i := 10) (n := 22) (ml10_21_10 G a) (q := (a + 10)) rfl (by unfold vp_in; decide) (L' := ml10_22 G a) rfl dX10_init_88 (fun H locs hP hS => ?_)
  refine lv_dup (pc := 89) hx hb dX10_init_89 rfl ?_
  refine lv_iconst (pc := 90) (v := (2)) hx hb dX10_init_90 (by decide) ?_
  refine lv_iconst (pc := 91) (v := (0)) hx hb dX10_init_91 (by decide) ?_
  refine n_iast (pc := 92) X hP hS (by rw [ml10_22_len]; omega) ha (i := 10) (n := 22) (ml10_22_10 G a) (q := (a + 10)) rfl (by unfold vp_in; decide) (L' := ml10_23 G a) rfl dX10_init_92 (fun H locs hP hS => ?_)
  refine lv_dup (pc := 93) hx hb dX10_init_93 rfl ?_
  refine lv_iconst (pc := 94) (v := (3)) hx hb dX10_init_94 (by decide) ?_
  refine lv_iconst (pc := 95) (v := (0)) hx hb dX10_init_95 (by decide) ?_
  refine n_iast (pc := 96) X hP hS (by rw [ml10_23_len]; omega) ha (i := 10) (n := 22) (ml10_23_10 G a) (q := (a + 10)) rfl (by unfold vp_in; decide) (L' := ml10_24 G a) rfl dX10_init_96 (fun H locs hP hS => ?_)
  refine lv_dup (pc := 97) hx hb dX10_init_97 rfl ?_
  refine lv_iconst (pc := 98) (v := (4)) hx hb dX10_init_98 (by decide) ?_
  refine lv_iconst (pc := 99) (v := (-1)) hx hb dX10_init_99 (by decide) ?_
  refine n_iast (pc := 100) X hP hS (by rw [ml10_24_len]; omega) ha (i := 10) (n := 22) (ml10_24_10 G a) (q := (a + 10)) rfl (by unfold vp_in; decide) (L' := ml10_25 G a) rfl dX10_init_100 (fun H locs hP hS => ?_)
  refine lv_dup (pc := 101) hx hb dX10_init_101 rfl ?_
  refine lv_iconst (pc := 102) (v := (5)) hx hb dX10_init_102 (by decide) ?_
  refine lv_iconst (pc := 103) (v := (0)) hx hb dX10_init_103 (by decide) ?_
  refine n_iast (pc := 104) X hP hS (by rw [ml10_25_len]; omega) ha (i := 10) (n := 22) (ml10_25_10 G a) (q := (a + 10)) rfl (by unfold vp_in; decide) (L' := ml10_26 G a) rfl dX10_init_104 (fun H locs hP hS => ?_)
  refine lv_dup (pc := 105) hx hb dX10_init_105 rfl ?_
  refine lv_bipush (pc := 106) (v := (6)) hx hb dX10_init_106 (by decide) ?_
  refine lv_iconst (pc := 108) (v := (0)) hx hb dX10_init_108 (by decide) ?_
  refine n_iast (pc := 109) X hP hS (by rw [ml10_26_len]; omega) ha (i := 10) (n := 22) (ml10_26_10 G a) (q := (a + 10)) rfl (by unfold vp_in; decide) (L' := ml10_27 G a) rfl dX10_init_109 (fun H locs hP hS => ?_)
  refine lv_dup (pc := 110) hx hb dX10_init_110 rfl ?_
  refine lv_bipush (pc := 111) (v := (7)) hx hb dX10_init_111 (by decide) ?_
  refine lv_iconst (pc := 113) (v := (0)) hx hb dX10_init_113 (by decide) ?_
  refine n_iast (pc := 114) X hP hS (by rw [ml10_27_len]; omega) ha (i := 10) (n := 22) (ml10_27_10 G a) (q := (a + 10)) rfl (by unfold vp_in; decide) (L' := ml10_28 G a) rfl dX10_init_114 (fun H locs hP hS => ?_)
  refine lv_dup (pc := 115) hx hb dX10_init_115 rfl ?_
  refine lv_bipush (pc := 116) (v := (8)) hx hb dX10_init_116 (by decide) ?_
  refine lv_iconst (pc := 118) (v := (0)) hx hb dX10_init_118 (by decide) ?_
  refine n_iast (pc := 119) X hP hS (by rw [ml10_28_len]; omega) ha (i := 10) (n := 22) (ml10_28_10 G a) (q := (a + 10)) rfl (by unfold vp_in; decide) (L' := ml10_29 G a) rfl dX10_init_119 (fun H locs hP hS => ?_)
  refine lv_dup (pc := 120) hx hb dX10_init_120 rfl ?_
  refine lv_bipush (pc := 121) (v := (9)) hx hb dX10_init_121 (by decide) ?_
  refine lv_iconst (pc := 123) (v := (0)) hx hb dX10_init_123 (by decide) ?_
  refine n_iast (pc := 124) X hP hS (by rw [ml10_29_len]; omega) ha (i := 10) (n := 22) (ml10_29_10 G a) (q := (a + 10)) rfl (by unfold vp_in; decide) (L' := ml10_30 G a) rfl dX10_init_124 (fun H locs hP hS => ?_)
  refine lv_dup (pc := 125) hx hb dX10_init_125 rfl ?_
  refine lv_bipush (pc := 126) (v := (10)) hx hb dX10_init_126 (by decide) ?_
  refine lv_iconst (pc := 128) (v := (0)) hx hb dX10_init_128 (by decide) ?_
  refine n_iast (pc := 129) X hP hS (by rw [ml10_30_len]; omega) ha (i := 10) (n := 22) (ml10_30_10 G a) (q := (a + 10)) rfl (by unfold vp_in; decide) (L' := ml10_31 G a) rfl dX10_init_129 (fun H locs hP hS => ?_)
  refine lv_dup (pc := 130) hx hb dX10_init_130 rfl ?_
  refine lv_bipush (pc := 131) (v := (11)) hx hb dX10_init_131 (by decide) ?_
  refine lv_iconst (pc := 133) (v := (0)) hx hb dX10_init_133 (by decide) ?_
  refine n_iast (pc := 134) X hP hS (by rw [ml10_31_len]; omega) ha (i := 10) (n := 22) (ml10_31_10 G a) (q := (a + 10)) rfl (by unfold vp_in; decide) (L' := ml10_32 G a) rfl dX10_init_134 (fun H locs hP hS => ?_)
  refine lv_dup (pc := 135) hx hb dX10_init_135 rfl ?_
  refine lv_bipush (pc := 136) (v := (12)) hx hb dX10_init_136 (by decide) ?_
  refine lv_iconst (pc := 138) (v := (0)) hx hb dX10_init_138 (by decide) ?_
  refine n_iast (pc := 139) X hP hS (by rw [ml10_32_len]; omega) ha (i := 10) (n := 22) (ml10_32_10 G a) (q := (a + 10)) rfl (by unfold vp_in; decide) (L' := ml10_33 G a) rfl dX10_init_139 (fun H locs hP hS => ?_)
  refine lv_dup (pc := 140) hx hb dX10_init_140 rfl ?_
  refine lv_bipush (pc := 141) (v := (13)) hx hb dX10_init_141 (by decide) ?_
  refine lv_iconst (pc := 143) (v := (0)) hx hb dX10_init_143 (by decide) ?_
  refine n_iast (pc := 144) X hP hS (by rw [ml10_33_len]; omega) ha (i := 10) (n := 22) (ml10_33_10 G a) (q := (a + 10)) rfl (by unfold vp_in; decide) (L' := ml10_34 G a) rfl dX10_init_144 (fun H locs hP hS => ?_)
  refine lv_dup (pc := 145) hx hb dX10_init_145 rfl ?_
  refine lv_bipush (pc := 146) (v := (14)) hx hb dX10_init_146 (by decide) ?_
  refine lv_iconst (pc := 148) (v := (0)) hx hb dX10_init_148 (by decide) ?_
  refine n_iast (pc := 149) X hP hS (by rw [ml10_34_len]; omega) ha (i := 10) (n := 22) (ml10_34_10 G a) (q := (a + 10)) rfl (by unfold vp_in; decide) (L' := ml10_35 G a) rfl dX10_init_149 (fun H locs hP hS => ?_)
  refine lv_dup (pc := 150) hx hb dX10_init_150 rfl ?_
  refine lv_bipush (pc := 151) (v := (15)) hx hb dX10_init_151 (by decide) ?_
  refine lv_iconst (pc := 153) (v := (0)) hx hb dX10_init_153 (by decide) ?_
  refine n_iast (pc := 154) X hP hS (by rw [ml10_35_len]; omega) ha (i := 10) (n := 22) (ml10_35_10 G a) (q := (a + 10)) rfl (by unfold vp_in; decide) (L' := ml10_36 G a) rfl dX10_init_154 (fun H locs hP hS => ?_)
  refine lv_dup (pc := 155) hx hb dX10_init_155 rfl ?_
  refine lv_bipush (pc := 156) (v := (16)) hx hb dX10_init_156 (by decide) ?_
  refine lv_iconst (pc := 158) (v := (0)) hx hb dX10_init_158 (by decide) ?_
  refine n_iast (pc := 159) X hP hS (by rw [ml10_36_len]; omega) ha (i := 10) (n := 22) (ml10_36_10 G a) (q := (a + 10)) rfl (by unfold vp_in; decide) (L' := ml10_37 G a) rfl dX10_init_159 (fun H locs hP hS => ?_)
  refine lv_dup (pc := 160) hx hb dX10_init_160 rfl ?_
  refine lv_bipush (pc := 161) (v := (17)) hx hb dX10_init_161 (by decide) ?_
  refine lv_iconst (pc := 163) (v := (0)) hx hb dX10_init_163 (by decide) ?_
  refine n_iast (pc := 164) X hP hS (by rw [ml10_37_len]; omega) ha (i := 10) (n := 22) (ml10_37_10 G a) (q := (a + 10)) rfl (by unfold vp_in; decide) (L' := ml10_38 G a) rfl dX10_init_164 (fun H locs hP hS => ?_)
  refine lv_dup (pc := 165) hx hb dX10_init_165 rfl ?_
  refine lv_bipush (pc := 166) (v := (18)) hx hb dX10_init_166 (by decide) ?_
  refine lv_iconst (pc := 168) (v := (0)) hx hb dX10_init_168 (by decide) ?_
  refine n_iast (pc := 169) X hP hS (by rw [ml10_38_len]; omega) ha (i := 10) (n := 22) (ml10_38_10 G a) (q := (a + 10)) rfl (by unfold vp_in; decide) (L' := ml10_39 G a) rfl dX10_init_169 (fun H locs hP hS => ?_)
  refine lv_dup (pc := 170) hx hb dX10_init_170 rfl ?_
  refine lv_bipush (pc := 171) (v := (19)) hx hb dX10_init_171 (by decide) ?_
  refine lv_iconst (pc := 173) (v := (0)) hx hb dX10_init_173 (by decide) ?_
  refine n_iast (pc := 174) X hP hS (by rw [ml10_39_len]; omega) ha (i := 10) (n := 22) (ml10_39_10 G a) (q := (a + 10)) rfl (by unfold vp_in; decide) (L' := ml10_40 G a) rfl dX10_init_174 (fun H locs hP hS => ?_)
  refine lv_dup (pc := 175) hx hb dX10_init_175 rfl ?_
  refine lv_bipush (pc := 176) (v := (20)) hx hb dX10_init_176 (by decide) ?_
  refine lv_iconst (pc := 178) (v := (0)) hx hb dX10_init_178 (by decide) ?_
  refine n_iast (pc := 179) X hP hS (by rw [ml10_40_len]; omega) ha (i := 10) (n := 22) (ml10_40_10 G a) (q := (a + 10)) rfl (by unfold vp_in; decide) (L' := ml10_41 G a) rfl dX10_init_179 (fun H locs hP hS => ?_)
  refine lv_dup (pc := 180) hx hb dX10_init_180 rfl ?_
  refine lv_bipush (pc := 181) (v := (21)) hx hb dX10_init_181 (by decide) ?_
  refine lv_iconst (pc := 183) (v := (0)) hx hb dX10_init_183 (by decide) ?_
  refine n_iast (pc := 184) X hP hS (by rw [ml10_41_len]; omega) ha (i := 10) (n := 22) (ml10_41_10 G a) (q := (a + 10)) rfl (by unfold vp_in; decide) (L' := ml10_42 G a) rfl dX10_init_184 (fun H locs hP hS => ?_)
  refine n_putF (pc := 185) X hP hS (by rw [ml10_42_len]; omega) ha tyX10 tyX10_ok nmX10 (uw10 X.hT) rfl (by decide : 12 < 62) (X.tb tw_996 rfl) rfl rfl (ty := tyX10 12) (by decide +kernel) rfl rfl (i := 0) (ml10_42_0 G a) (q := a) rfl (by rw [fz10_10_len]; decide) (L' := ml10_43 G a) rfl dX10_init_185 (fun H locs hP hS => ?_)
  refine lv_aload_n (pc := 188) hx hb dX10_init_188 rfl (lv_at hl 0 rfl) ?_
  refine lv_iconst (pc := 189) (v := (1)) hx hb dX10_init_189 (by decide) ?_
  refine n_put (pc := 190) X hP hS (by rw [ml10_43_len]; omega) ha tyX10 tyX10_ok nmX10 (uw10 X.hT) rfl (by decide : 14 < 62) (X.tb tw_998 rfl) rfl (ty := tyX10 14) (by decide +kernel) rfl rfl (i := 0) (ml10_43_0 G a) (q := a) rfl (by rw [fz10_11_len]; decide) (L' := ml10_44 G a) rfl dX10_init_190 (fun H locs hP hS => ?_)
  refine lv_aload_n (pc := 193) hx hb dX10_init_193 rfl (lv_at hl 0 rfl) ?_
  refine lv_sipush (pc := 194) (v := (200)) hx hb dX10_init_194 (by decide) ?_
  refine n_arr (pc := 197) X hP hS ha (ty := .int) rfl (X.tb tw_70 rfl) (t0 := 1) rfl (fun C h => by cases h) (N := 200) (a0 := (200, .inl (fun _ => 0))) (fun _ => rfl) (by decide) (by decide) (Nat.le_of_ble_eq_true rfl) (n := 11) (ml10_44_len G a) (q := (a + 11)) rfl (L' := ml10_45 G a) rfl (Nat.le_of_ble_eq_true rfl) (Nat.le_of_ble_eq_true rfl) dX10_init_197 (fun H hP hS => ?_)
  refine n_putF (pc := 199) X hP hS (by rw [ml10_45_len]; omega) ha tyX10 tyX10_ok nmX10 (uw10 X.hT) rfl (by decide : 15 < 62) (X.tb tw_999 rfl) rfl rfl (ty := tyX10 15) (by decide +kernel) rfl rfl (i := 0) (ml10_45_0 G a) (q := a) rfl (by rw [fz10_12_len]; decide) (L' := ml10_46 G a) rfl dX10_init_199 (fun H locs hP hS => ?_)
  refine lv_aload_n (pc := 202) hx hb dX10_init_202 rfl (lv_at hl 0 rfl) ?_
  refine lv_iconst (pc := 203) (v := (5)) hx hb dX10_init_203 (by decide) ?_
  refine n_arr (pc := 204) X hP hS ha (ty := .int) rfl (X.tb tw_70 rfl) (t0 := 1) rfl (fun C h => by cases h) (N := 5) (a0 := (5, .inl (fun _ => 0))) (fun _ => rfl) (by decide) (by decide) (Nat.le_of_ble_eq_true rfl) (n := 12) (ml10_46_len G a) (q := (a + 12)) rfl (L' := ml10_47 G a) rfl (Nat.le_of_ble_eq_true rfl) (Nat.le_of_ble_eq_true rfl) dX10_init_204 (fun H hP hS => ?_)
  refine n_putF (pc := 206) X hP hS (by rw [ml10_47_len]; omega) ha tyX10 tyX10_ok nmX10 (uw10 X.hT) rfl (by decide : 26 < 62) (X.tb tw_1010 rfl) rfl rfl (ty := tyX10 26) (by decide +kernel) rfl rfl (i := 0) (ml10_47_0 G a) (q := a) rfl (by rw [fz10_13_len]; decide) (L' := ml10_48 G a) rfl dX10_init_206 (fun H locs hP hS => ?_)
  refine lv_aload_n (pc := 209) hx hb dX10_init_209 rfl (lv_at hl 0 rfl) ?_
  refine lv_iconst (pc := 210) (v := (5)) hx hb dX10_init_210 (by decide) ?_
  refine n_arr (pc := 211) X hP hS ha (ty := .int) rfl (X.tb tw_70 rfl) (t0 := 1) rfl (fun C h => by cases h) (N := 5) (a0 := (5, .inl (fun _ => 0))) (fun _ => rfl) (by decide) (by decide) (Nat.le_of_ble_eq_true rfl) (n := 13) (ml10_48_len G a) (q := (a + 13)) rfl (L' := ml10_49 G a) rfl (Nat.le_of_ble_eq_true rfl) (Nat.le_of_ble_eq_true rfl) dX10_init_211 (fun H hP hS => ?_)
  refine n_putF (pc := 213) X hP hS (by rw [ml10_49_len]; omega) ha tyX10 tyX10_ok nmX10 (uw10 X.hT) rfl (by decide : 27 < 62) (X.tb tw_1011 rfl) rfl rfl (ty := tyX10 27) (by decide +kernel) rfl rfl (i := 0) (ml10_49_0 G a) (q := a) rfl (by rw [fz10_14_len]; decide) (L' := ml10_50 G a) rfl dX10_init_213 (fun H locs hP hS => ?_)
  refine lv_aload_n (pc := 216) hx hb dX10_init_216 rfl (lv_at hl 0 rfl) ?_
  refine lv_bipush (pc := 217) (v := (6)) hx hb dX10_init_217 (by decide) ?_
  refine n_arr (pc := 219) X hP hS ha (ty := .int) rfl (X.tb tw_70 rfl) (t0 := 1) rfl (fun C h => by cases h) (N := 6) (a0 := (6, .inl (fun _ => 0))) (fun _ => rfl) (by decide) (by decide) (Nat.le_of_ble_eq_true rfl) (n := 14) (ml10_50_len G a) (q := (a + 14)) rfl (L' := ml10_51 G a) rfl (Nat.le_of_ble_eq_true rfl) (Nat.le_of_ble_eq_true rfl) dX10_init_219 (fun H hP hS => ?_)
  refine n_putF (pc := 221) X hP hS (by rw [ml10_51_len]; omega) ha tyX10 tyX10_ok nmX10 (uw10 X.hT) rfl (by decide : 28 < 62) (X.tb tw_1012 rfl) rfl rfl (ty := tyX10 28) (by decide +kernel) rfl rfl (i := 0) (ml10_51_0 G a) (q := a) rfl (by rw [fz10_15_len]; decide) (L' := ml10_52 G a) rfl dX10_init_221 (fun H locs hP hS => ?_)
  refine lv_aload_n (pc := 224) hx hb dX10_init_224 rfl (lv_at hl 0 rfl) ?_
  refine lv_bipush (pc := 225) (v := (6)) hx hb dX10_init_225 (by decide) ?_
  refine n_arr (pc := 227) X hP hS ha (ty := .int) rfl (X.tb tw_70 rfl) (t0 := 1) rfl (fun C h => by cases h) (N := 6) (a0 := (6, .inl (fun _ => 0))) (fun _ => rfl) (by decide) (by decide) (Nat.le_of_ble_eq_true rfl) (n := 15) (ml10_52_len G a) (q := (a + 15)) rfl (L' := ml10_53 G a) rfl (Nat.le_of_ble_eq_true rfl) (Nat.le_of_ble_eq_true rfl) dX10_init_227 (fun H hP hS => ?_)
  refine n_putF (pc := 229) X hP hS (by rw [ml10_53_len]; omega) ha tyX10 tyX10_ok nmX10 (uw10 X.hT) rfl (by decide : 29 < 62) (X.tb tw_1013 rfl) rfl rfl (ty := tyX10 29) (by decide +kernel) rfl rfl (i := 0) (ml10_53_0 G a) (q := a) rfl (by rw [fz10_16_len]; decide) (L' := ml10_54 G a) rfl dX10_init_229 (fun H locs hP hS => ?_)
  refine lv_aload_n (pc := 232) hx hb dX10_init_232 rfl (lv_at hl 0 rfl) ?_
  refine lv_bipush (pc := 233) (v := (6)) hx hb dX10_init_233 (by decide) ?_
  refine n_arr (pc := 235) X hP hS ha (ty := .int) rfl (X.tb tw_70 rfl) (t0 := 1) rfl (fun C h => by cases h) (N := 6) (a0 := (6, .inl (fun _ => 0))) (fun _ => rfl) (by decide) (by decide) (Nat.le_of_ble_eq_true rfl) (n := 16) (ml10_54_len G a) (q := (a + 16)) rfl (L' := ml10_55 G a) rfl (Nat.le_of_ble_eq_true rfl) (Nat.le_of_ble_eq_true rfl) dX10_init_235 (fun H hP hS => ?_)
  refine n_putF (pc := 237) X hP hS (by rw [ml10_55_len]; omega) ha tyX10 tyX10_ok nmX10 (uw10 X.hT) rfl (by decide : 30 < 62) (X.tb tw_1014 rfl) rfl rfl (ty := tyX10 30) (by decide +kernel) rfl rfl (i := 0) (ml10_55_0 G a) (q := a) rfl (by rw [fz10_17_len]; decide) (L' := ml10_56 G a) rfl dX10_init_237 (fun H locs hP hS => ?_)
  refine lv_aload_n (pc := 240) hx hb dX10_init_240 rfl (lv_at hl 0 rfl) ?_
  refine lv_bipush (pc := 241) (v := (6)) hx hb dX10_init_241 (by decide) ?_
  refine n_arr (pc := 243) X hP hS ha (ty := .int) rfl (X.tb tw_70 rfl) (t0 := 1) rfl (fun C h => by cases h) (N := 6) (a0 := (6, .inl (fun _ => 0))) (fun _ => rfl) (by decide) (by decide) (Nat.le_of_ble_eq_true rfl) (n := 17) (ml10_56_len G a) (q := (a + 17)) rfl (L' := ml10_57 G a) rfl (Nat.le_of_ble_eq_true rfl) (Nat.le_of_ble_eq_true rfl) dX10_init_243 (fun H hP hS => ?_)
  refine n_putF (pc := 245) X hP hS (by rw [ml10_57_len]; omega) ha tyX10 tyX10_ok nmX10 (uw10 X.hT) rfl (by decide : 31 < 62) (X.tb tw_1015 rfl) rfl rfl (ty := tyX10 31) (by decide +kernel) rfl rfl (i := 0) (ml10_57_0 G a) (q := a) rfl (by rw [fz10_18_len]; decide) (L' := ml10_58 G a) rfl dX10_init_245 (fun H locs hP hS => ?_)
  refine lv_aload_n (pc := 248) hx hb dX10_init_248 rfl (lv_at hl 0 rfl) ?_
  refine lv_bipush (pc := 249) (v := (12)) hx hb dX10_init_249 (by decide) ?_
  refine n_arr (pc := 251) X hP hS ha (ty := .int) rfl (X.tb tw_70 rfl) (t0 := 1) rfl (fun C h => by cases h) (N := 12) (a0 := (12, .inl (fun _ => 0))) (fun _ => rfl) (by decide) (by decide) (Nat.le_of_ble_eq_true rfl) (n := 18) (ml10_58_len G a) (q := (a + 18)) rfl (L' := ml10_59 G a) rfl (Nat.le_of_ble_eq_true rfl) (Nat.le_of_ble_eq_true rfl) dX10_init_251 (fun H hP hS => ?_)
  refine n_putF (pc := 253) X hP hS (by rw [ml10_59_len]; omega) ha tyX10 tyX10_ok nmX10 (uw10 X.hT) rfl (by decide : 32 < 62) (X.tb tw_1016 rfl) rfl rfl (ty := tyX10 32) (by decide +kernel) rfl rfl (i := 0) (ml10_59_0 G a) (q := a) rfl (by rw [fz10_19_len]; decide) (L' := ml10_60 G a) rfl dX10_init_253 (fun H locs hP hS => ?_)
  refine lv_aload_n (pc := 256) hx hb dX10_init_256 rfl (lv_at hl 0 rfl) ?_
  refine lv_iconst (pc := 257) (v := (-1)) hx hb dX10_init_257 (by decide) ?_
  refine n_put (pc := 258) X hP hS (by rw [ml10_60_len]; omega) ha tyX10 tyX10_ok nmX10 (uw10 X.hT) rfl (by decide : 33 < 62) (X.tb tw_1017 rfl) rfl (ty := tyX10 33) (by decide +kernel) rfl rfl (i := 0) (ml10_60_0 G a) (q := a) rfl (by rw [fz10_20_len]; decide) (L' := ml10_61 G a) rfl dX10_init_258 (fun H locs hP hS => ?_)
  refine lv_aload_n (pc := 261) hx hb dX10_init_261 rfl (lv_at hl 0 rfl) ?_
  refine lv_bipush (pc := 262) (v := (60)) hx hb dX10_init_262 (by decide) ?_
  refine n_arr (pc := 264) X hP hS ha (ty := .int) rfl (X.tb tw_70 rfl) (t0 := 1) rfl (fun C h => by cases h) (N := 60) (a0 := (60, .inl (fun _ => 0))) (fun _ => rfl) (by decide) (by decide) (Nat.le_of_ble_eq_true rfl) (n := 19) (ml10_61_len G a) (q := (a + 19)) rfl (L' := ml10_62 G a) rfl (Nat.le_of_ble_eq_true rfl) (Nat.le_of_ble_eq_true rfl) dX10_init_264 (fun H hP hS => ?_)
  refine n_putF (pc := 266) X hP hS (by rw [ml10_62_len]; omega) ha tyX10 tyX10_ok nmX10 (uw10 X.hT) rfl (by decide : 34 < 62) (X.tb tw_1018 rfl) rfl rfl (ty := tyX10 34) (by decide +kernel) rfl rfl (i := 0) (ml10_62_0 G a) (q := a) rfl (by rw [fz10_21_len]; decide) (L' := ml10_63 G a) rfl dX10_init_266 (fun H locs hP hS => ?_)
  refine lv_aload_n (pc := 269) hx hb dX10_init_269 rfl (lv_at hl 0 rfl) ?_
  refine lv_iconst (pc := 270) (v := (5)) hx hb dX10_init_270 (by decide) ?_
  refine n_arr (pc := 271) X hP hS ha (ty := .int) rfl (X.tb tw_70 rfl) (t0 := 1) rfl (fun C h => by cases h) (N := 5) (a0 := (5, .inl (fun _ => 0))) (fun _ => rfl) (by decide) (by decide) (Nat.le_of_ble_eq_true rfl) (n := 20) (ml10_63_len G a) (q := (a + 20)) rfl (L' := ml10_64 G a) rfl (Nat.le_of_ble_eq_true rfl) (Nat.le_of_ble_eq_true rfl) dX10_init_271 (fun H hP hS => ?_)
  refine n_putF (pc := 273) X hP hS (by rw [ml10_64_len]; omega) ha tyX10 tyX10_ok nmX10 (uw10 X.hT) rfl (by decide : 39 < 62) (X.tb tw_1023 rfl) rfl rfl (ty := tyX10 39) (by decide +kernel) rfl rfl (i := 0) (ml10_64_0 G a) (q := a) rfl (by rw [fz10_22_len]; decide) (L' := ml10_65 G a) rfl dX10_init_273 (fun H locs hP hS => ?_)
  refine lv_aload_n (pc := 276) hx hb dX10_init_276 rfl (lv_at hl 0 rfl) ?_
  refine lv_iconst (pc := 277) (v := (5)) hx hb dX10_init_277 (by decide) ?_
  refine n_arr (pc := 278) X hP hS ha (ty := .int) rfl (X.tb tw_70 rfl) (t0 := 1) rfl (fun C h => by cases h) (N := 5) (a0 := (5, .inl (fun _ => 0))) (fun _ => rfl) (by decide) (by decide) (Nat.le_of_ble_eq_true rfl) (n := 21) (ml10_65_len G a) (q := (a + 21)) rfl (L' := ml10_66 G a) rfl (Nat.le_of_ble_eq_true rfl) (Nat.le_of_ble_eq_true rfl) dX10_init_278 (fun H hP hS => ?_)
  refine n_putF (pc := 280) X hP hS (by rw [ml10_66_len]; omega) ha tyX10 tyX10_ok nmX10 (uw10 X.hT) rfl (by decide : 40 < 62) (X.tb tw_1024 rfl) rfl rfl (ty := tyX10 40) (by decide +kernel) rfl rfl (i := 0) (ml10_66_0 G a) (q := a) rfl (by rw [fz10_23_len]; decide) (L' := ml10_67 G a) rfl dX10_init_280 (fun H locs hP hS => ?_)
  refine lv_aload_n (pc := 283) hx hb dX10_init_283 rfl (lv_at hl 0 rfl) ?_
  refine lv_iconst (pc := 284) (v := (5)) hx hb dX10_init_284 (by decide) ?_
  refine n_arr (pc := 285) X hP hS ha (ty := .int) rfl (X.tb tw_70 rfl) (t0 := 1) rfl (fun C h => by cases h) (N := 5) (a0 := (5, .inl (fun _ => 0))) (fun _ => rfl) (by decide) (by decide) (Nat.le_of_ble_eq_true rfl) (n := 22) (ml10_67_len G a) (q := (a + 22)) rfl (L' := ml10_68 G a) rfl (Nat.le_of_ble_eq_true rfl) (Nat.le_of_ble_eq_true rfl) dX10_init_285 (fun H hP hS => ?_)
  refine n_putF (pc := 287) X hP hS (by rw [ml10_68_len]; omega) ha tyX10 tyX10_ok nmX10 (uw10 X.hT) rfl (by decide : 41 < 62) (X.tb tw_1025 rfl) rfl rfl (ty := tyX10 41) (by decide +kernel) rfl rfl (i := 0) (ml10_68_0 G a) (q := a) rfl (by rw [fz10_24_len]; decide) (L' := ml10_69 G a) rfl dX10_init_287 (fun H locs hP hS => ?_)
  refine lv_aload_n (pc := 290) hx hb dX10_init_290 rfl (lv_at hl 0 rfl) ?_
  refine lv_bipush (pc := 291) (v := (60)) hx hb dX10_init_291 (by decide) ?_
  refine n_arr (pc := 293) X hP hS ha (ty := .int) rfl (X.tb tw_70 rfl) (t0 := 1) rfl (fun C h => by cases h) (N := 60) (a0 := (60, .inl (fun _ => 0))) (fun _ => rfl) (by decide) (by decide) (Nat.le_of_ble_eq_true rfl) (n := 23) (ml10_69_len G a) (q := (a + 23)) rfl (L' := ml10_70 G a) rfl (Nat.le_of_ble_eq_true rfl) (Nat.le_of_ble_eq_true rfl) dX10_init_293 (fun H hP hS => ?_)
  refine n_putF (pc := 295) X hP hS (by rw [ml10_70_len]; omega) ha tyX10 tyX10_ok nmX10 (uw10 X.hT) rfl (by decide : 44 < 62) (X.tb tw_1028 rfl) rfl rfl (ty := tyX10 44) (by decide +kernel) rfl rfl (i := 0) (ml10_70_0 G a) (q := a) rfl (by rw [fz10_25_len]; decide) (L' := ml10_71 G a) rfl dX10_init_295 (fun H locs hP hS => ?_)
  refine lv_aload_n (pc := 298) hx hb dX10_init_298 rfl (lv_at hl 0 rfl) ?_
  refine lv_iconst (pc := 299) (v := (4)) hx hb dX10_init_299 (by decide) ?_
  refine n_arr (pc := 300) X hP hS ha (ty := .int) rfl (X.tb tw_70 rfl) (t0 := 1) rfl (fun C h => by cases h) (N := 4) (a0 := (4, .inl (fun _ => 0))) (fun _ => rfl) (by decide) (by decide) (Nat.le_of_ble_eq_true rfl) (n := 24) (ml10_71_len G a) (q := (a + 24)) rfl (L' := ml10_72 G a) rfl (Nat.le_of_ble_eq_true rfl) (Nat.le_of_ble_eq_true rfl) dX10_init_300 (fun H hP hS => ?_)
  refine lv_dup (pc := 302) hx hb dX10_init_302 rfl ?_
  refine lv_iconst (pc := 303) (v := (0)) hx hb dX10_init_303 (by decide) ?_
  refine lv_iconst (pc := 304) (v := (-1)) hx hb dX10_init_304 (by decide) ?_
  refine n_iast (pc := 305) X hP hS (by rw [ml10_72_len]; omega) ha (i := 24) (n := 4) (ml10_72_24 G a) (q := (a + 24)) rfl (by unfold vp_in; decide) (L' := ml10_73 G a) rfl dX10_init_305 (fun H locs hP hS => ?_)
  refine lv_dup (pc := 306) hx hb dX10_init_306 rfl ?_
  refine lv_iconst (pc := 307) (v := (1)) hx hb dX10_init_307 (by decide) ?_
  refine lv_iconst (pc := 308) (v := (-1)) hx hb dX10_init_308 (by decide) ?_
  refine n_iast (pc := 309) X hP hS (by rw [ml10_73_len]; omega) ha (i := 24) (n := 4) (ml10_73_24 G a) (q := (a + 24)) rfl (by unfold vp_in; decide) (L' := ml10_74 G a) rfl dX10_init_309 (fun H locs hP hS => ?_)
  refine lv_dup (pc := 310) hx hb dX10_init_310 rfl ?_
  refine lv_iconst (pc := 311) (v := (2)) hx hb dX10_init_311 (by decide) ?_
  refine lv_iconst (pc := 312) (v := (-1)) hx hb dX10_init_312 (by decide) ?_
  refine n_iast (pc := 313) X hP hS (by rw [ml10_74_len]; omega) ha (i := 24) (n := 4) (ml10_74_24 G a) (q := (a + 24)) rfl (by unfold vp_in; decide) (L' := ml10_75 G a) rfl dX10_init_313 (fun H locs hP hS => ?_)
  refine lv_dup (pc := 314) hx hb dX10_init_314 rfl ?_
  refine lv_iconst (pc := 315) (v := (3)) hx hb dX10_init_315 (by decide) ?_
  refine lv_iconst (pc := 316) (v := (-1)) hx hb dX10_init_316 (by decide) ?_
  refine n_iast (pc := 317) X hP hS (by rw [ml10_75_len]; omega) ha (i := 24) (n := 4) (ml10_75_24 G a) (q := (a + 24)) rfl (by unfold vp_in; decide) (L' := ml10_76 G a) rfl dX10_init_317 (fun H locs hP hS => ?_)
  refine n_putF (pc := 318) X hP hS (by rw [ml10_76_len]; omega) ha tyX10 tyX10_ok nmX10 (uw10 X.hT) rfl (by decide : 46 < 62) (X.tb tw_1030 rfl) rfl rfl (ty := tyX10 46) (by decide +kernel) rfl rfl (i := 0) (ml10_76_0 G a) (q := a) rfl (by rw [fz10_26_len]; decide) (L' := ml10_77 G a) rfl dX10_init_318 (fun H locs hP hS => ?_)
  refine lv_aload_n (pc := 321) hx hb dX10_init_321 rfl (lv_at hl 0 rfl) ?_
  refine lv_iconst (pc := 322) (v := (4)) hx hb dX10_init_322 (by decide) ?_
  refine n_arr (pc := 323) X hP hS ha (ty := .int) rfl (X.tb tw_70 rfl) (t0 := 1) rfl (fun C h => by cases h) (N := 4) (a0 := (4, .inl (fun _ => 0))) (fun _ => rfl) (by decide) (by decide) (Nat.le_of_ble_eq_true rfl) (n := 25) (ml10_77_len G a) (q := (a + 25)) rfl (L' := ml10_78 G a) rfl (Nat.le_of_ble_eq_true rfl) (Nat.le_of_ble_eq_true rfl) dX10_init_323 (fun H hP hS => ?_)
  refine n_putF (pc := 325) X hP hS (by rw [ml10_78_len]; omega) ha tyX10 tyX10_ok nmX10 (uw10 X.hT) rfl (by decide : 47 < 62) (X.tb tw_1031 rfl) rfl rfl (ty := tyX10 47) (by decide +kernel) rfl rfl (i := 0) (ml10_78_0 G a) (q := a) rfl (by rw [fz10_27_len]; decide) (L' := ml10_79 G a) rfl dX10_init_325 (fun H locs hP hS => ?_)
  refine lv_aload_n (pc := 328) hx hb dX10_init_328 rfl (lv_at hl 0 rfl) ?_
  refine lv_sipush (pc := 329) (v := (160)) hx hb dX10_init_329 (by decide) ?_
  refine n_arr (pc := 332) X hP hS ha (ty := .long) rfl (X.tb tw_1171 rfl) (t0 := 2) rfl (fun C h => by cases h) (N := 160) (a0 := (160, .inr (.inl (fun _ => 0)))) (fun _ => rfl) (by decide) (by decide) (Nat.le_of_ble_eq_true rfl) (n := 26) (ml10_79_len G a) (q := (a + 26)) rfl (L' := ml10_80 G a) rfl (Nat.le_of_ble_eq_true rfl) (Nat.le_of_ble_eq_true rfl) dX10_init_332 (fun H hP hS => ?_)
  refine n_putF (pc := 334) X hP hS (by rw [ml10_80_len]; omega) ha tyX10 tyX10_ok nmX10 (uw10 X.hT) rfl (by decide : 48 < 62) (X.tb tw_1032 rfl) rfl rfl (ty := tyX10 48) (by decide +kernel) rfl rfl (i := 0) (ml10_80_0 G a) (q := a) rfl (by rw [fz10_28_len]; decide) (L' := ml10_81 G a) rfl dX10_init_334 (fun H locs hP hS => ?_)
  refine lv_aload_n (pc := 337) hx hb dX10_init_337 rfl (lv_at hl 0 rfl) ?_
  refine lv_iconst (pc := 338) (v := (4)) hx hb dX10_init_338 (by decide) ?_
  refine n_arr (pc := 339) X hP hS ha (ty := .int) rfl (X.tb tw_70 rfl) (t0 := 1) rfl (fun C h => by cases h) (N := 4) (a0 := (4, .inl (fun _ => 0))) (fun _ => rfl) (by decide) (by decide) (Nat.le_of_ble_eq_true rfl) (n := 27) (ml10_81_len G a) (q := (a + 27)) rfl (L' := ml10_82 G a) rfl (Nat.le_of_ble_eq_true rfl) (Nat.le_of_ble_eq_true rfl) dX10_init_339 (fun H hP hS => ?_)
  refine lv_dup (pc := 341) hx hb dX10_init_341 rfl ?_
  refine lv_iconst (pc := 342) (v := (0)) hx hb dX10_init_342 (by decide) ?_
  refine lv_iconst (pc := 343) (v := (-1)) hx hb dX10_init_343 (by decide) ?_
  refine n_iast (pc := 344) X hP hS (by rw [ml10_82_len]; omega) ha (i := 27) (n := 4) (ml10_82_27 G a) (q := (a + 27)) rfl (by unfold vp_in; decide) (L' := ml10_83 G a) rfl dX10_init_344 (fun H locs hP hS => ?_)
  refine lv_dup (pc := 345) hx hb dX10_init_345 rfl ?_
  refine lv_iconst (pc := 346) (v := (1)) hx hb dX10_init_346 (by decide) ?_
  refine lv_iconst (pc := 347) (v := (-1)) hx hb dX10_init_347 (by decide) ?_
  refine n_iast (pc := 348) X hP hS (by rw [ml10_83_len]; omega) ha (i := 27) (n := 4) (ml10_83_27 G a) (q := (a + 27)) rfl (by unfold vp_in; decide) (L' := ml10_84 G a) rfl dX10_init_348 (fun H locs hP hS => ?_)
  refine lv_dup (pc := 349) hx hb dX10_init_349 rfl ?_
  refine lv_iconst (pc := 350) (v := (2)) hx hb dX10_init_350 (by decide) ?_
  refine lv_iconst (pc := 351) (v := (-1)) hx hb dX10_init_351 (by decide) ?_
  refine n_iast (pc := 352) X hP hS (by rw [ml10_84_len]; omega) ha (i := 27) (n := 4) (ml10_84_27 G a) (q := (a + 27)) rfl (by unfold vp_in; decide) (L' := ml10_85 G a) rfl dX10_init_352 (fun H locs hP hS => ?_)
  refine lv_dup (pc := 353) hx hb dX10_init_353 rfl ?_
  refine lv_iconst (pc := 354) (v := (3)) hx hb dX10_init_354 (by decide) ?_
  refine lv_iconst (pc := 355) (v := (-1)) hx hb dX10_init_355 (by decide) ?_
  refine n_iast (pc := 356) X hP hS (by rw [ml10_85_len]; omega) ha (i := 27) (n := 4) (ml10_85_27 G a) (q := (a + 27)) rfl (by unfold vp_in; decide) (L' := ml10_86 G a) rfl dX10_init_356 (fun H locs hP hS => ?_)
  refine n_putF (pc := 357) X hP hS (by rw [ml10_86_len]; omega) ha tyX10 tyX10_ok nmX10 (uw10 X.hT) rfl (by decide : 49 < 62) (X.tb tw_1033 rfl) rfl rfl (ty := tyX10 49) (by decide +kernel) rfl rfl (i := 0) (ml10_86_0 G a) (q := a) rfl (by rw [fz10_29_len]; decide) (L' := ml10_87 G a) rfl dX10_init_357 (fun H locs hP hS => ?_)
  refine lv_aload_n (pc := 360) hx hb dX10_init_360 rfl (lv_at hl 0 rfl) ?_
  refine lv_iconst (pc := 361) (v := (4)) hx hb dX10_init_361 (by decide) ?_
  refine n_arr (pc := 362) X hP hS ha (ty := .int) rfl (X.tb tw_70 rfl) (t0 := 1) rfl (fun C h => by cases h) (N := 4) (a0 := (4, .inl (fun _ => 0))) (fun _ => rfl) (by decide) (by decide) (Nat.le_of_ble_eq_true rfl) (n := 28) (ml10_87_len G a) (q := (a + 28)) rfl (L' := ml10_88 G a) rfl (Nat.le_of_ble_eq_true rfl) (Nat.le_of_ble_eq_true rfl) dX10_init_362 (fun H hP hS => ?_)
  refine n_putF (pc := 364) X hP hS (by rw [ml10_88_len]; omega) ha tyX10 tyX10_ok nmX10 (uw10 X.hT) rfl (by decide : 50 < 62) (X.tb tw_1034 rfl) rfl rfl (ty := tyX10 50) (by decide +kernel) rfl rfl (i := 0) (ml10_88_0 G a) (q := a) rfl (by rw [fz10_30_len]; decide) (L' := ml10_89 G a) rfl dX10_init_364 (fun H locs hP hS => ?_)
  refine lv_aload_n (pc := 367) hx hb dX10_init_367 rfl (lv_at hl 0 rfl) ?_
  refine lv_iconst (pc := 368) (v := (4)) hx hb dX10_init_368 (by decide) ?_
  refine n_arr (pc := 369) X hP hS ha (ty := .int) rfl (X.tb tw_70 rfl) (t0 := 1) rfl (fun C h => by cases h) (N := 4) (a0 := (4, .inl (fun _ => 0))) (fun _ => rfl) (by decide) (by decide) (Nat.le_of_ble_eq_true rfl) (n := 29) (ml10_89_len G a) (q := (a + 29)) rfl (L' := ml10_90 G a) rfl (Nat.le_of_ble_eq_true rfl) (Nat.le_of_ble_eq_true rfl) dX10_init_369 (fun H hP hS => ?_)
  refine n_putF (pc := 371) X hP hS (by rw [ml10_90_len]; omega) ha tyX10 tyX10_ok nmX10 (uw10 X.hT) rfl (by decide : 51 < 62) (X.tb tw_1035 rfl) rfl rfl (ty := tyX10 51) (by decide +kernel) rfl rfl (i := 0) (ml10_90_0 G a) (q := a) rfl (by rw [fz10_31_len]; decide) (L' := ml10_91 G a) rfl dX10_init_371 (fun H locs hP hS => ?_)
  refine lv_aload_n (pc := 374) hx hb dX10_init_374 rfl (lv_at hl 0 rfl) ?_
  refine lv_bipush (pc := 375) (v := (30)) hx hb dX10_init_375 (by decide) ?_
  refine n_arr (pc := 377) X hP hS ha (ty := .int) rfl (X.tb tw_70 rfl) (t0 := 1) rfl (fun C h => by cases h) (N := 30) (a0 := (30, .inl (fun _ => 0))) (fun _ => rfl) (by decide) (by decide) (Nat.le_of_ble_eq_true rfl) (n := 30) (ml10_91_len G a) (q := (a + 30)) rfl (L' := ml10_92 G a) rfl (Nat.le_of_ble_eq_true rfl) (Nat.le_of_ble_eq_true rfl) dX10_init_377 (fun H hP hS => ?_)
  refine n_putF (pc := 379) X hP hS (by rw [ml10_92_len]; omega) ha tyX10 tyX10_ok nmX10 (uw10 X.hT) rfl (by decide : 55 < 62) (X.tb tw_1039 rfl) rfl rfl (ty := tyX10 55) (by decide +kernel) rfl rfl (i := 0) (ml10_92_0 G a) (q := a) rfl (by rw [fz10_32_len]; decide) (L' := ml10_93 G a) rfl dX10_init_379 (fun H locs hP hS => ?_)
  refine lv_aload_n (pc := 382) hx hb dX10_init_382 rfl (lv_at hl 0 rfl) ?_
  refine lv_bipush (pc := 383) (v := (80)) hx hb dX10_init_383 (by decide) ?_
  refine n_arr (pc := 385) X hP hS ha (ty := .int) rfl (X.tb tw_70 rfl) (t0 := 1) rfl (fun C h => by cases h) (N := 80) (a0 := (80, .inl (fun _ => 0))) (fun _ => rfl) (by decide) (by decide) (Nat.le_of_ble_eq_true rfl) (n := 31) (ml10_93_len G a) (q := (a + 31)) rfl (L' := ml10_94 G a) rfl (Nat.le_of_ble_eq_true rfl) (Nat.le_of_ble_eq_true rfl) dX10_init_385 (fun H hP hS => ?_)
  refine n_putF (pc := 387) X hP hS (by rw [ml10_94_len]; omega) ha tyX10 tyX10_ok nmX10 (uw10 X.hT) rfl (by decide : 59 < 62) (X.tb tw_1043 rfl) rfl rfl (ty := tyX10 59) (by decide +kernel) rfl rfl (i := 0) (ml10_94_0 G a) (q := a) rfl (by rw [fz10_33_len]; decide) (L' := ml10_95 G a) rfl dX10_init_387 (fun H locs hP hS => ?_)
  refine lv_aload_n (pc := 390) hx hb dX10_init_390 rfl (lv_at hl 0 rfl) ?_
  refine lv_iconst (pc := 391) (v := (4)) hx hb dX10_init_391 (by decide) ?_
  refine n_arr (pc := 392) X hP hS ha (ty := .int) rfl (X.tb tw_70 rfl) (t0 := 1) rfl (fun C h => by cases h) (N := 4) (a0 := (4, .inl (fun _ => 0))) (fun _ => rfl) (by decide) (by decide) (Nat.le_of_ble_eq_true rfl) (n := 32) (ml10_95_len G a) (q := (a + 32)) rfl (L' := ml10_96 G a) rfl (Nat.le_of_ble_eq_true rfl) (Nat.le_of_ble_eq_true rfl) dX10_init_392 (fun H hP hS => ?_)
  refine n_putF (pc := 394) X hP hS (by rw [ml10_96_len]; omega) ha tyX10 tyX10_ok nmX10 (uw10 X.hT) rfl (by decide : 61 < 62) (X.tb tw_1045 rfl) rfl rfl (ty := tyX10 61) (by decide +kernel) rfl rfl (i := 0) (ml10_96_0 G a) (q := a) rfl (by rw [fz10_34_len]; decide) (L' := ml10_97 G a) rfl dX10_init_394 (fun H locs hP hS => ?_)
  exact n_ret X hP hS rfl rfl rfl dX10_init_397
