theorem vr_outer (c : ClassId) (N h0 : Nat) : ∀ i : Nat, Jvm.Free.Multi.outerC c N h0 i = arrV c N (fun j => va_rf (if j < i then some (h0 + 1 + j) else none))
  | 0 => by
    show ({ cls := c, slots := Array.replicate N .null, vm := .none } : Cell) = _
    rw [arrV_new]
    refine congrArg (arrV c N) (funext fun j => ?_)
    simp [va_rf]
  | i + 1 => by
    show (Jvm.Free.Multi.outerC c N h0 i).setSlot i (.ref (h0 + 1 + i)) = _
    rw [vr_outer c N h0 i, arrV_store]
    refine congrArg (arrV c N) (funext fun j => ?_)
    by_cases e : j = i
    · subst e
      simp [updV, va_rf]
    · by_cases h : j < i
      · simp [updV, e, h, Nat.lt_succ_of_lt h]
      · simp [updV, e, h, show ¬ j < i + 1 by omega]
def sgMA (G : Gh) (a : Nat) : List va_E := .inl (gc G 7, 6, .inr (.inr (.inr (.inr (fun i => if i < 6 then some (a + 1 + i) else none))))) :: List.replicate 6 (.inl (gc G 1, 6, .inl (fun _ => 0)))
section NM
variable {p : Program} {l : Launch} {e : Env} {R : Room} {s : State} {m : MethodId} {args : Array Value} {below : List Frame} {meth : Method} {c : Code} {H : Heap} {locs : List Loc} {cells slots : Nat} {Q : State → Prop}
variable {cc : ByteArray} {pc : Nat} {ls : Array Slot} {rest st0 : List Value} {G : Gh} {own : String} {nL base a : Nat} {P L : List va_E} {ret : Option FieldType} {nm : String}
theorem SW.app (hP : SW G base P L H) {H1 : Heap} {L2 : List va_E} (he : ∀ (j : Nat) (e : va_E), L2[j]? = some e → va_at G.1 vwCl (base + (P.length + L.length) + j, e) H1) (hz : H1.size = H.size + L2.length) (ho : ∀ q, q < H.size → H1[q]? = H[q]?) : SW G base P (L ++ L2) H1 := by
  refine ⟨?_, by rw [hz, hP.2, List.length_append]; omega⟩
  intro k x hx
  rw [cwl_at] at hx
  obtain ⟨e0, h0, rfl⟩ := Option.map_eq_some_iff.mp hx
  rw [← List.append_assoc] at h0
  by_cases hk : k < (P ++ L).length
  · rw [List.getElem?_append_left hk] at h0
    have h1 := hP.1 k _ (cwl_some h0)
    exact h1.kept (ho _ h1.lt)
  · rw [List.getElem?_append_right (by omega)] at h0
    have h1 := he _ _ h0
    rw [List.length_append] at h1 hk
    have h2 : base + (P.length + L.length) + (k - (P.length + L.length)) = base + k := by omega
    rw [h2] at h1
    exact h1
theorem n_mna (X : CxN G p s m args meth c cc own nL ret nm) (hP : SW G base P L H) (hS : va_S (BA base) s.heap H locs) (ha : a = base + P.length) {index n q : Nat} (hcl : (Cond.classLink own index "[[I").before args s = true) (hover : (Cond.arrayOver (.array .int)).before args s = true) (harr : (Cond.arrayClass .int).before args s = true)
    (hn : L.length = n) (hq : a + n = q) {L' : List va_E} (hL' : L ++ sgMA G q = L') (hcells : cells + 7 ≤ R.cells) (hslots : slots + 42 ≤ R.slots) (hdg : decode cc pc = .ok (.multianewarray index 2, 4))
    (kk : ∀ (H : Heap), SW G base P L' H → va_S (BA base) s.heap H locs → W p l e R s m args below meth c H locs (cells + 7) (slots + 42) Q (F0 m (pc + 4) ls (.ref q :: rest))) : W p l e R s m args below meth c H locs cells slots Q (F0 m pc ls (.int (6 : Int32) :: .int (6 : Int32) :: rest)) := by
  subst ha
  subst hn
  subst hq
  subst hL'
  have h6 : (6 : Int32).toNatClampNeg = 6 := by decide
  intro T hT Xs
  obtain ⟨vm₁, cA, comp, -, fA, fC, hO, -, X', step⟩ := Xs.multianewarray2F X.hx (ty := .int) X.hown hcl hover harr (g := F0 m pc ls (.int (6 : Int32) :: .int (6 : Int32) :: rest)) rfl (by rw [X.hb]; exact hdg) rfl (n := 6) (k := 6) (by decide) (by decide) (by decide) (by decide) (by decide) (by decide) (by decide) (by rw [h6]; exact hcells) (by rw [h6]; exact hslots)
  rw [h6] at X' step
  have e7 : cA = gc G 7 := Option.some.inj (fA.symm.trans (X.hK.2 7 (gc G 7, .array .int) rfl).2)
  have e1 : comp = gc G 1 := Option.some.inj (fC.symm.trans (X.hK.2 1 (gc G 1, .int) rfl).2)
  subst e7
  subst e1
  have hTh : (T.setVm vm₁).heap = H := hT
  have hz0 : H.size = base + (P.length + L.length) := hP.2
  generalize hF : Jvm.Free.Multi.fill (T.setVm vm₁) (gc G 7) (gc G 1) 6 6 (defaultValue .int) 6 = F at X' step
  obtain ⟨f1, f2, -, -⟩ := Jvm.Free.Multi.fill_facts (T.setVm vm₁) (gc G 7) (gc G 1) 6 6 (defaultValue .int) 6
  rw [hF, hTh] at f1 f2
  have hold : ∀ x : Nat, x < H.size → F.heap[x]? = H[x]? := fun x hx => by
    have := Jvm.Free.Multi.fill_old (T.setVm vm₁) (gc G 7) (gc G 1) 6 6 (defaultValue .int) (a := x) (by rw [hTh]; exact hx) 6
    rw [hF, hTh] at this
    exact this
  have hrow : ∀ j : Nat, j < 6 → F.heap[H.size + 1 + j]? = some (vp_cell (gc G 1) (6, .inl (fun _ => 0))) := fun j hj => by
    have := Jvm.Free.Multi.fill_inner (T.setVm vm₁) (gc G 7) (gc G 1) 6 6 (defaultValue .int) 6 j hj
    rw [hF, hTh] at this
    rw [this]
    rw [vp_cell_i, ← arrV_new]
    rfl
  rw [vr_outer] at f2
  have hW : SW G base P (L ++ sgMA G (base + P.length + L.length)) F.heap := by
    refine hP.app (fun j e he => ?_) (by rw [f1]; show H.size + 1 + 6 = H.size + 7; omega) hold
    match j, he with
    | 0, he =>
      cases he
      show F.heap[base + (P.length + L.length) + 0]? = some (vp_cell _ _)
      rw [Nat.add_zero, ← hz0, f2, vp_cell_q, show base + P.length + L.length = H.size by omega]
    | j + 1, he =>
      have hj : j < 6 := by
        have := (List.getElem?_eq_some_iff.mp he).1
        simp [sgMA] at this
        omega
      have he2 : e = .inl (gc G 1, 6, .inl (fun _ => 0)) := by
        have h3 : (List.replicate 6 (Sum.inl (gc G 1, 6, Sum.inl (fun _ => 0)) : va_E))[j]? = some e := he
        rw [List.getElem?_replicate, if_pos hj] at h3
        exact (Option.some.inj h3).symm
      subst he2
      show F.heap[base + (P.length + L.length) + (j + 1)]? = some (vp_cell _ _)
      rw [← hz0, show H.size + (j + 1) = H.size + 1 + j by omega]
      exact hrow j hj
  obtain ⟨t, a1, b1⟩ := kk F.heap hW ⟨by rw [f1]; have := hS.1; omega, fun x h1 h2 => (hold x (Nat.lt_of_lt_of_le h1 hS.1)).trans (hS.2.1 x h1 h2), hS.2.2⟩ F rfl X'
  refine ⟨t, step t ?_, b1⟩
  have e : T.heap.size = base + P.length + L.length := by rw [hT, hz0, Nat.add_assoc]
  rw [e]
  exact a1
end NM
theorem seg_X0_len (G : Gh) (a : Nat) : (seg_X0 G a).length = 1 := rfl
theorem seg_X3_len (G : Gh) (a : Nat) : (seg_X3 G a).length = 1 := rfl
theorem seg_X5_len (G : Gh) (a : Nat) : (seg_X5 G a).length = 2 := rfl
theorem seg_X6_len (G : Gh) (a : Nat) : (seg_X6 G a).length = 1 := rfl
theorem seg_X4_len (G : Gh) (a : Nat) : (seg_X4 G a).length = 2 := rfl
theorem seg_X1_len (G : Gh) (a : Nat) : (seg_X1 G a).length = 2 := rfl
theorem seg_X7_len (G : Gh) (a : Nat) : (seg_X7 G a).length = 2 := rfl
theorem seg_X2_len (G : Gh) (a : Nat) : (seg_X2 G a).length = 15 := rfl
def fz8_0 (a : Nat) : List Value := [.null, .int 0, .int 0, .null, .null, .null, .null]
theorem fz8_0_len (a : Nat) : (fz8_0 a).length = 7 := rfl
def ml8_0 (G : Gh) (a : Nat) : List va_E := [.inr (8, [.null, .int 0, .int 0, .null, .null, .null, .null])]
theorem ml8_0_len (G : Gh) (a : Nat) : (ml8_0 G a).length = 1 := rfl
theorem ml8_0_0 (G : Gh) (a : Nat) : (ml8_0 G a)[0]? = some (.inr (8, fz8_0 a)) := rfl
def ml8_1 (G : Gh) (a : Nat) : List va_E := ml8_0 G a ++ [.inr (2, [.null, .int 0, .null, .int 0, .null, .int 0, .int 0, .int 0, .int 0, .int 0, .int 0, .int 0])]
theorem ml8_1_len (G : Gh) (a : Nat) : (ml8_1 G a).length = 2 := by unfold ml8_1; rw [List.length_append, ml8_0_len]; rfl
theorem ml8_1_0 (G : Gh) (a : Nat) : (ml8_1 G a)[0]? = some (.inr (8, fz8_0 a)) := ap_at (ml8_0_0 G a)
theorem ml8_1_1 (G : Gh) (a : Nat) : (ml8_1 G a)[1]? = some (.inr (2, [.null, .int 0, .null, .int 0, .null, .int 0, .int 0, .int 0, .int 0, .int 0, .int 0, .int 0])) := ap_last (ml8_0_len G a)
def ml8_2 (G : Gh) (a : Nat) : List va_E := ml8_0 G a ++ seg_X2 G (a + 1)
theorem ml8_2_len (G : Gh) (a : Nat) : (ml8_2 G a).length = 16 := by unfold ml8_2; rw [List.length_append, ml8_0_len, seg_X2_len]
theorem ml8_2_0 (G : Gh) (a : Nat) : (ml8_2 G a)[0]? = some (.inr (8, fz8_0 a)) := apx_at (ml8_0_0 G a)
theorem ml8_2_1 (G : Gh) (a : Nat) : (ml8_2 G a)[1]? = (seg_X2 G (a + 1))[0]? := ap_hd (ml8_0_len G a)
def fz8_1 (a : Nat) : List Value := (fz8_0 a).set 0 (.ref (a + 1))
theorem fz8_1_len (a : Nat) : (fz8_1 a).length = 7 := by unfold fz8_1; rw [List.length_set]; exact fz8_0_len a
def ml8_3 (G : Gh) (a : Nat) : List va_E := (ml8_2 G a).set 0 (.inr (8, fz8_1 a))
theorem ml8_3_len (G : Gh) (a : Nat) : (ml8_3 G a).length = 16 := by unfold ml8_3; rw [List.length_set]; exact ml8_2_len G a
theorem ml8_3_0 (G : Gh) (a : Nat) : (ml8_3 G a)[0]? = some (.inr (8, fz8_1 a)) := st_same (by rw [ml8_2_len]; decide)
def fz8_2 (a : Nat) : List Value := (fz8_1 a).set 1 (.int (-3 : Int32))
theorem fz8_2_len (a : Nat) : (fz8_2 a).length = 7 := by unfold fz8_2; rw [List.length_set]; exact fz8_1_len a
def ml8_4 (G : Gh) (a : Nat) : List va_E := (ml8_3 G a).set 0 (.inr (8, fz8_2 a))
theorem ml8_4_len (G : Gh) (a : Nat) : (ml8_4 G a).length = 16 := by unfold ml8_4; rw [List.length_set]; exact ml8_3_len G a
theorem ml8_4_0 (G : Gh) (a : Nat) : (ml8_4 G a)[0]? = some (.inr (8, fz8_2 a)) := st_same (by rw [ml8_3_len]; decide)
def fz8_3 (a : Nat) : List Value := (fz8_2 a).set 2 (.int (0 : Int32))
theorem fz8_3_len (a : Nat) : (fz8_3 a).length = 7 := by unfold fz8_3; rw [List.length_set]; exact fz8_2_len a
def ml8_5 (G : Gh) (a : Nat) : List va_E := (ml8_4 G a).set 0 (.inr (8, fz8_3 a))
theorem ml8_5_len (G : Gh) (a : Nat) : (ml8_5 G a).length = 16 := by unfold ml8_5; rw [List.length_set]; exact ml8_4_len G a
theorem ml8_5_0 (G : Gh) (a : Nat) : (ml8_5 G a)[0]? = some (.inr (8, fz8_3 a)) := st_same (by rw [ml8_4_len]; decide)
def ml8_6 (G : Gh) (a : Nat) : List va_E := ml8_5 G a ++ [.inl (gc G 1, (5, .inl (fun _ => 0)))]
theorem ml8_6_len (G : Gh) (a : Nat) : (ml8_6 G a).length = 17 := by unfold ml8_6; rw [List.length_append, ml8_5_len]; rfl
theorem ml8_6_0 (G : Gh) (a : Nat) : (ml8_6 G a)[0]? = some (.inr (8, fz8_3 a)) := ap_at (ml8_5_0 G a)
theorem ml8_6_16 (G : Gh) (a : Nat) : (ml8_6 G a)[16]? = some (.inl (gc G 1, (5, .inl (fun _ => 0)))) := ap_last (ml8_5_len G a)
def fz8_4 (a : Nat) : List Value := (fz8_3 a).set 3 (.ref (a + 16))
theorem fz8_4_len (a : Nat) : (fz8_4 a).length = 7 := by unfold fz8_4; rw [List.length_set]; exact fz8_3_len a
def ml8_7 (G : Gh) (a : Nat) : List va_E := (ml8_6 G a).set 0 (.inr (8, fz8_4 a))
theorem ml8_7_len (G : Gh) (a : Nat) : (ml8_7 G a).length = 17 := by unfold ml8_7; rw [List.length_set]; exact ml8_6_len G a
theorem ml8_7_0 (G : Gh) (a : Nat) : (ml8_7 G a)[0]? = some (.inr (8, fz8_4 a)) := st_same (by rw [ml8_6_len]; decide)
def ml8_8 (G : Gh) (a : Nat) : List va_E := ml8_7 G a ++ [.inl (gc G 1, (5, .inl (fun _ => 0)))]
theorem ml8_8_len (G : Gh) (a : Nat) : (ml8_8 G a).length = 18 := by unfold ml8_8; rw [List.length_append, ml8_7_len]; rfl
theorem ml8_8_0 (G : Gh) (a : Nat) : (ml8_8 G a)[0]? = some (.inr (8, fz8_4 a)) := ap_at (ml8_7_0 G a)
theorem ml8_8_17 (G : Gh) (a : Nat) : (ml8_8 G a)[17]? = some (.inl (gc G 1, (5, .inl (fun _ => 0)))) := ap_last (ml8_7_len G a)
def fz8_5 (a : Nat) : List Value := (fz8_4 a).set 4 (.ref (a + 17))
theorem fz8_5_len (a : Nat) : (fz8_5 a).length = 7 := by unfold fz8_5; rw [List.length_set]; exact fz8_4_len a
def ml8_9 (G : Gh) (a : Nat) : List va_E := (ml8_8 G a).set 0 (.inr (8, fz8_5 a))
theorem ml8_9_len (G : Gh) (a : Nat) : (ml8_9 G a).length = 18 := by unfold ml8_9; rw [List.length_set]; exact ml8_8_len G a
theorem ml8_9_0 (G : Gh) (a : Nat) : (ml8_9 G a)[0]? = some (.inr (8, fz8_5 a)) := st_same (by rw [ml8_8_len]; decide)
def ml8_10 (G : Gh) (a : Nat) : List va_E := ml8_9 G a ++ sgMA G (a + 18)
theorem ml8_10_len (G : Gh) (a : Nat) : (ml8_10 G a).length = 25 := by unfold ml8_10; rw [List.length_append, ml8_9_len]; rfl
theorem ml8_10_0 (G : Gh) (a : Nat) : (ml8_10 G a)[0]? = some (.inr (8, fz8_5 a)) := apx_at (ml8_9_0 G a)
def fz8_6 (a : Nat) : List Value := (fz8_5 a).set 5 (.ref (a + 18))
theorem fz8_6_len (a : Nat) : (fz8_6 a).length = 7 := by unfold fz8_6; rw [List.length_set]; exact fz8_5_len a
def ml8_11 (G : Gh) (a : Nat) : List va_E := (ml8_10 G a).set 0 (.inr (8, fz8_6 a))
theorem ml8_11_len (G : Gh) (a : Nat) : (ml8_11 G a).length = 25 := by unfold ml8_11; rw [List.length_set]; exact ml8_10_len G a
theorem ml8_11_0 (G : Gh) (a : Nat) : (ml8_11 G a)[0]? = some (.inr (8, fz8_6 a)) := st_same (by rw [ml8_10_len]; decide)
def ml8_12 (G : Gh) (a : Nat) : List va_E := ml8_11 G a ++ [.inl (gc G 1, (6, .inl (fun _ => 0)))]
theorem ml8_12_len (G : Gh) (a : Nat) : (ml8_12 G a).length = 26 := by unfold ml8_12; rw [List.length_append, ml8_11_len]; rfl
theorem ml8_12_0 (G : Gh) (a : Nat) : (ml8_12 G a)[0]? = some (.inr (8, fz8_6 a)) := ap_at (ml8_11_0 G a)
theorem ml8_12_25 (G : Gh) (a : Nat) : (ml8_12 G a)[25]? = some (.inl (gc G 1, (6, .inl (fun _ => 0)))) := ap_last (ml8_11_len G a)
def fz8_7 (a : Nat) : List Value := (fz8_6 a).set 6 (.ref (a + 25))
theorem fz8_7_len (a : Nat) : (fz8_7 a).length = 7 := by unfold fz8_7; rw [List.length_set]; exact fz8_6_len a
def ml8_13 (G : Gh) (a : Nat) : List va_E := (ml8_12 G a).set 0 (.inr (8, fz8_7 a))
theorem ml8_13_len (G : Gh) (a : Nat) : (ml8_13 G a).length = 26 := by unfold ml8_13; rw [List.length_set]; exact ml8_12_len G a
theorem ml8_13_0 (G : Gh) (a : Nat) : (ml8_13 G a)[0]? = some (.inr (8, fz8_7 a)) := st_same (by rw [ml8_12_len]; decide)
def seg_X8 (G : Gh) (a : Nat) : List va_E := ml8_13 G a
abbrev RMI_X8 : Room := { frames := 3, cells := 25, slots := 142, locals := 53 }
set_option maxHeartbeats 8000000 in
set_option maxRecDepth 100000 in
theorem im_X8 (l : Launch) (G : Gh) : IM l G yX8_init prog_10_method_1_code 1 (.inr (8, [.null, .int 0, .int 0, .null, .null, .null, .null])) (seg_X8 G) RMI_X8 25 142 := by
  refine im_of (by decide) rfl (fun base a P p e s m below meth c ha X hP hz => ?_)
  have hx := X.hx
  have hb := X.hb
  have hS : va_S (BA base) s.heap s.heap [] := va_S.rf
  have hl := lv_entry ([.ref a]) (n := 1) (Nat.le_of_ble_eq_true rfl)
  rw [lg_entry_eq]
  generalize (lg_sl ([.ref a]) ++ List.replicate (1 - (lg_sl ([.ref a])).length) Slot.unset).toArray = ls at hl ⊢
  have hl : lv_has ls 1 [(0, .ref a)] := hl
  refine lv_aload_n (pc := 0) hx hb dX8_init_0 rfl (lv_at hl 0 rfl) ?_
  refine n_obj (pc := 1) X (X.tb tw_179 rfl) (X.tb tw_24 rfl) (X.tb tw_25 rfl) hl.1 dX8_init_1 (Nat.le_of_ble_eq_true rfl) (Nat.le_of_ble_eq_true rfl) ?_
  refine lv_aload_n (pc := 4) hx hb dX8_init_4 rfl (lv_at hl 0 rfl) ?_
  refine n_new (pc := 5) X hP hS ha tyX2 tyX2_ok (uw2 X.hT) (X.tb tw_180 rfl) (X.tb tw_27 rfl) (X.tb tw_2 rfl) rfl (fs := [.null, .int 0, .null, .int 0, .null, .int 0, .int 0, .int 0, .int 0, .int 0, .int 0, .int 0]) (fun j hj => by rcases (show j = 0 ∨ j = 1 ∨ j = 2 ∨ j = 3 ∨ j = 4 ∨ j = 5 ∨ j = 6 ∨ j = 7 ∨ j = 8 ∨ j = 9 ∨ j = 10 ∨ j = 11 by omega) with rfl | rfl | rfl | rfl | rfl | rfl | rfl | rfl | rfl | rfl | rfl | rfl <;> rfl) (n := 1) (ml8_0_len G a) (q := (a + 1)) rfl (L' := ml8_1 G a) rfl (Nat.le_of_ble_eq_true rfl) (Nat.le_of_ble_eq_true rfl) dX8_init_5 (fun H hP hS => ?_)
  refine lv_dup (pc := 8) hx hb dX8_init_8 rfl ?_
  refine n_init (pc := 9) X hS ha (L := ml8_0 G a) (e0 := .inr (2, [.null, .int 0, .null, .int 0, .null, .int 0, .int 0, .int 0, .int 0, .int 0, .int 0, .int 0])) (seg := seg_X2 G) (im_X2 l G) hP (X.tb tw_30 rfl) (X.tb tw_2 rfl) (X.tb tw_181 rfl) (X.tb tw_29 rfl) rfl ⟨by decide, by decide, by decide +kernel⟩ ⟨rfl, rfl, Nat.le_of_ble_eq_true rfl, Nat.le_of_ble_eq_true rfl⟩ hl.1 (Nat.le_of_ble_eq_true rfl) ⟨Nat.le_of_ble_eq_true rfl, Nat.le_of_ble_eq_true rfl⟩ (n := 1) (ml8_0_len G a) (q := (a + 1)) rfl dX8_init_9 (fun H locs hP hS => ?_)
  change SW G base P (ml8_2 G a) H at hP
  refine n_putF (pc := 12) X hP hS (by rw [ml8_2_len]; omega) ha tyX8 tyX8_ok nmX8 (uw8 X.hT) rfl (by decide : 0 < 7) (X.tb tw_184 rfl) rfl rfl (ty := tyX8 0) (by decide +kernel) rfl rfl (i := 0) (ml8_2_0 G a) (q := a) rfl (by rw [fz8_0_len]; decide) (L' := ml8_3 G a) rfl dX8_init_12 (fun H locs hP hS => ?_)
  refine lv_aload_n (pc := 15) hx hb dX8_init_15 rfl (lv_at hl 0 rfl) ?_
  refine lv_bipush (pc := 16) (v := (-3)) hx hb dX8_init_16 (by decide) ?_
  refine n_put (pc := 18) X hP hS (by rw [ml8_3_len]; omega) ha tyX8 tyX8_ok nmX8 (uw8 X.hT) rfl (by decide : 1 < 7) (X.tb tw_185 rfl) rfl (ty := tyX8 1) (by decide +kernel) rfl rfl (i := 0) (ml8_3_0 G a) (q := a) rfl (by rw [fz8_1_len]; decide) (L' := ml8_4 G a) rfl dX8_init_18 (fun H locs hP hS => ?_)
  refine lv_aload_n (pc := 21) hx hb dX8_init_21 rfl (lv_at hl 0 rfl) ?_
  refine lv_iconst (pc := 22) (v := (0)) hx hb dX8_init_22 (by decide) ?_
  refine n_put (pc := 23) X hP hS (by rw [ml8_4_len]; omega) ha tyX8 tyX8_ok nmX8 (uw8 X.hT) rfl (by decide : 2 < 7) (X.tb tw_186 rfl) rfl (ty := tyX8 2) (by decide +kernel) rfl rfl (i := 0) (ml8_4_0 G a) (q := a) rfl (by rw [fz8_2_len]; decide) (L' := ml8_5 G a) rfl dX8_init_23 (fun H locs hP hS => ?_)
  refine lv_aload_n (pc := 26) hx hb dX8_init_26 rfl (lv_at hl 0 rfl) ?_
  refine lv_iconst (pc := 27) (v := (5)) hx hb dX8_init_27 (by decide) ?_
  refine n_arr (pc := 28) X hP hS ha (ty := .int) rfl (X.tb tw_70 rfl) (t0 := 1) rfl (fun C h => by cases h) (N := 5) (a0 := (5, .inl (fun _ => 0))) (fun _ => rfl) (by decide) (by decide) (Nat.le_of_ble_eq_true rfl) (n := 16) (ml8_5_len G a) (q := (a + 16)) rfl (L' := ml8_6 G a) rfl (Nat.le_of_ble_eq_true rfl) (Nat.le_of_ble_eq_true rfl) dX8_init_28 (fun H hP hS => ?_)
  refine n_putF (pc := 30) X hP hS (by rw [ml8_6_len]; omega) ha tyX8 tyX8_ok nmX8 (uw8 X.hT) rfl (by decide : 3 < 7) (X.tb tw_188 rfl) rfl rfl (ty := tyX8 3) (by decide +kernel) rfl rfl (i := 0) (ml8_6_0 G a) (q := a) rfl (by rw [fz8_3_len]; decide) (L' := ml8_7 G a) rfl dX8_init_30 (fun H locs hP hS => ?_)
  refine lv_aload_n (pc := 33) hx hb dX8_init_33 rfl (lv_at hl 0 rfl) ?_
  refine lv_iconst (pc := 34) (v := (5)) hx hb dX8_init_34 (by decide) ?_
  refine n_arr (pc := 35) X hP hS ha (ty := .int) rfl (X.tb tw_70 rfl) (t0 := 1) rfl (fun C h => by cases h) (N := 5) (a0 := (5, .inl (fun _ => 0))) (fun _ => rfl) (by decide) (by decide) (Nat.le_of_ble_eq_true rfl) (n := 17) (ml8_7_len G a) (q := (a + 17)) rfl (L' := ml8_8 G a) rfl (Nat.le_of_ble_eq_true rfl) (Nat.le_of_ble_eq_true rfl) dX8_init_35 (fun H hP hS => ?_)
  refine n_putF (pc := 37) X hP hS (by rw [ml8_8_len]; omega) ha tyX8 tyX8_ok nmX8 (uw8 X.hT) rfl (by decide : 4 < 7) (X.tb tw_189 rfl) rfl rfl (ty := tyX8 4) (by decide +kernel) rfl rfl (i := 0) (ml8_8_0 G a) (q := a) rfl (by rw [fz8_4_len]; decide) (L' := ml8_9 G a) rfl dX8_init_37 (fun H locs hP hS => ?_)
  refine lv_aload_n (pc := 40) hx hb dX8_init_40 rfl (lv_at hl 0 rfl) ?_
  refine lv_bipush (pc := 41) (v := (6)) hx hb dX8_init_41 (by decide) ?_
  refine lv_bipush (pc := 43) (v := (6)) hx hb dX8_init_43 (by decide) ?_
  refine n_mna (pc := 45) X hP hS ha (X.tb tw_182 rfl) X.hao.w7 (X.tb tw_70 rfl) (n := 18) (ml8_9_len G a) (q := (a + 18)) rfl (L' := ml8_10 G a) rfl (Nat.le_of_ble_eq_true rfl) (Nat.le_of_ble_eq_true rfl) dX8_init_45 (fun H hP hS => ?_)
  refine n_putF (pc := 49) X hP hS (by rw [ml8_10_len]; omega) ha tyX8 tyX8_ok nmX8 (uw8 X.hT) rfl (by decide : 5 < 7) (X.tb tw_190 rfl) rfl rfl (ty := tyX8 5) (by decide +kernel) rfl rfl (i := 0) (ml8_10_0 G a) (q := a) rfl (by rw [fz8_5_len]; decide) (L' := ml8_11 G a) rfl dX8_init_49 (fun H locs hP hS => ?_)
  refine lv_aload_n (pc := 52) hx hb dX8_init_52 rfl (lv_at hl 0 rfl) ?_
  refine lv_bipush (pc := 53) (v := (6)) hx hb dX8_init_53 (by decide) ?_
  refine n_arr (pc := 55) X hP hS ha (ty := .int) rfl (X.tb tw_70 rfl) (t0 := 1) rfl (fun C h => by cases h) (N := 6) (a0 := (6, .inl (fun _ => 0))) (fun _ => rfl) (by decide) (by decide) (Nat.le_of_ble_eq_true rfl) (n := 25) (ml8_11_len G a) (q := (a + 25)) rfl (L' := ml8_12 G a) rfl (Nat.le_of_ble_eq_true rfl) (Nat.le_of_ble_eq_true rfl) dX8_init_55 (fun H hP hS => ?_)
  refine n_putF (pc := 57) X hP hS (by rw [ml8_12_len]; omega) ha tyX8 tyX8_ok nmX8 (uw8 X.hT) rfl (by decide : 6 < 7) (X.tb tw_191 rfl) rfl rfl (ty := tyX8 6) (by decide +kernel) rfl rfl (i := 0) (ml8_12_0 G a) (q := a) rfl (by rw [fz8_6_len]; decide) (L' := ml8_13 G a) rfl dX8_init_57 (fun H locs hP hS => ?_)
  exact n_ret X hP hS rfl rfl rfl dX8_init_60
theorem seg_X8_len (G : Gh) (a : Nat) : (seg_X8 G a).length = 26 := ml8_13_len G a
