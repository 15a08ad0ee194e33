theorem tw_33 : (Cond.arrayOver (FieldType.object "InchCandle$Lot")) ∈ lw_tbl := List.mem_append_right _ (List.mem_of_getElem? (i := 33) (by decide +kernel))
theorem tw_35 : (Cond.arrayOver (FieldType.object "InchCandle$Bidder")) ∈ lw_tbl := List.mem_append_right _ (List.mem_of_getElem? (i := 35) (by decide +kernel))
theorem tw_222 : (Cond.arrayOver (FieldType.object "InchCandle$Sheet")) ∈ lw_tbl := List.mem_append_right _ (List.mem_of_getElem? (i := 222) (by decide +kernel))
theorem tw_224 : (Cond.arrayOver (FieldType.object "InchCandle$Shelf")) ∈ lw_tbl := List.mem_append_right _ (List.mem_of_getElem? (i := 224) (by decide +kernel))
theorem tw_183 : (Cond.arrayOver (FieldType.array FieldType.int)) ∈ lw_tbl := List.mem_append_right _ (List.mem_of_getElem? (i := 183) (by decide +kernel))
theorem tab_of {A : Array Value} {s : State} (h : ∀ w ∈ lw_tbl, w.before A s = true) : Tab s := by
  intro w hm hg
  have h0 := h w hm
  unfold tw_ok at hg
  rw [Bool.or_eq_true] at hg
  rcases hg with q | q
  · exact word_at (State.WarmedH.refl s) (good_of_word q) h0
  · cases w <;> first | exact va_Nw.of (w := Cond.fieldLinkNest _ _ _ _ _ _) rfl h0 | exact va_Nw.of (w := Cond.methodLinkNest _ _ _ _) rfl h0 | (exact absurd q (by simp [tw_nest]))
theorem cls_known {s : State} (hT : Tab s) : ∃ (dC : Nat → ClassId) (dI : Nat → Nat → Nat), ∀ (k : Nat) (q : vw_C), vwCl[k]? = some q → u_Kn s q.1 q.2.1 q.2.2 (dC k) (dI k) := by
  obtain ⟨c0, i0, h0⟩ := u_known (C := RX0) (T := TX0) (N := 4) (n := 4) (uw0 hT (A := #[])) (fun _ h => h) (hT.at tw_71 rfl)
  obtain ⟨c1, i1, h1⟩ := u_known (C := RX1) (T := TX1) (N := 6) (n := 6) (uw1 hT (A := #[])) (fun _ h => h) (hT.at tw_226 rfl)
  obtain ⟨c2, i2, h2⟩ := u_known (C := RX2) (T := TX2) (N := 12) (n := 12) (uw2 hT (A := #[])) (fun _ h => h) (hT.at tw_27 rfl)
  obtain ⟨c3, i3, h3⟩ := u_known (C := RX3) (T := TX3) (N := 5) (n := 5) (uw3 hT (A := #[])) (fun _ h => h) (hT.at tw_36 rfl)
  obtain ⟨c4, i4, h4⟩ := u_known (C := RX4) (T := TX4) (N := 2) (n := 2) (uw4 hT (A := #[])) (fun _ h => h) (hT.at tw_208 rfl)
  obtain ⟨c5, i5, h5⟩ := u_known (C := RX5) (T := TX5) (N := 3) (n := 3) (uw5 hT (A := #[])) (fun _ h => h) (hT.at tw_251 rfl)
  obtain ⟨c6, i6, h6⟩ := u_known (C := RX6) (T := TX6) (N := 3) (n := 3) (uw6 hT (A := #[])) (fun _ h => h) (hT.at tw_270 rfl)
  obtain ⟨c7, i7, h7⟩ := u_known (C := RX7) (T := TX7) (N := 4) (n := 4) (uw7 hT (A := #[])) (fun _ h => h) (hT.at tw_154 rfl)
  obtain ⟨c8, i8, h8⟩ := u_known (C := RX8) (T := TX8) (N := 7) (n := 7) (uw8 hT (A := #[])) (fun _ h => h) (hT.at tw_175 rfl)
  obtain ⟨c9, i9, h9⟩ := u_known (C := RX9) (T := TX9) (N := 11) (n := 11) (uw9 hT (A := #[])) (fun _ h => h) (hT.at tw_19 rfl)
  obtain ⟨c10, i10, h10⟩ := u_known (C := RX10) (T := TX10) (N := 62) (n := 62) (uw10 hT (A := #[])) (fun _ h => h) (hT.at tw_979 rfl)
  refine ⟨fun k => match k with
    | 0 => c0
    | 1 => c1
    | 2 => c2
    | 3 => c3
    | 4 => c4
    | 5 => c5
    | 6 => c6
    | 7 => c7
    | 8 => c8
    | 9 => c9
    | _ => c10, fun k => match k with
    | 0 => i0
    | 1 => i1
    | 2 => i2
    | 3 => i3
    | 4 => i4
    | 5 => i5
    | 6 => i6
    | 7 => i7
    | 8 => i8
    | 9 => i9
    | _ => i10, ?_⟩
  intro k q hq
  match k, hq with
  | 0, hq => cases hq; exact h0
  | 1, hq => cases hq; exact h1
  | 2, hq => cases hq; exact h2
  | 3, hq => cases hq; exact h3
  | 4, hq => cases hq; exact h4
  | 5, hq => cases hq; exact h5
  | 6, hq => cases hq; exact h6
  | 7, hq => cases hq; exact h7
  | 8, hq => cases hq; exact h8
  | 9, hq => cases hq; exact h9
  | 10, hq => cases hq; exact h10
  | k + 11, hq => simp [vwCl] at hq
theorem arr_known {A : Array Value} {s : State} {ty : FieldType} (h : (Cond.arrayClass ty).before A s = true) (hn : ∀ C, ty ≠ .object C) : ∃ cA, ArrOfT s cA ty ∧ va_RA s cA ty := by
  obtain ⟨c, k, comp, h1, h2, h3⟩ := Cond.arrayClass_spec h
  refine ⟨c, fun n z => ⟨fun k h => (by cases h), k, h2, comp, h3⟩, ?_⟩
  cases ty with
  | object C => exact absurd rfl (hn C)
  | _ => exact h1
theorem arq_known {C : String} {A : Array Value} {s : State} (h : (Cond.arrayOver (.object C)).before A s = true) : ∃ cA, ArrOfT s cA (.object C) ∧ va_RA s cA (.object C) := by
  obtain ⟨comp, c, k, h1, h2, h3, h4, h5⟩ := Cond.arrayOver_spec h
  exact ⟨c, fun n z => ⟨fun k h => (by cases h), k, h3, comp, h4⟩, k, comp, h3, h4, h1, h5⟩
theorem ara_known {t : FieldType} {A : Array Value} {s : State} (h : (Cond.arrayOver (.array t)).before A s = true) : ∃ cA, ArrOfT s cA (.array t) ∧ va_RA s cA (.array t) := by
  obtain ⟨comp, c, k, h1, h2, h3, h4, h5⟩ := arrayOverA_spec h
  exact ⟨c, fun n z => ⟨fun k h => (by cases h), k, h3, comp, h4⟩, h5⟩
theorem ao_known {A : Array Value} {s : State} (h : ∀ w ∈ lw_tbl, w.before A s = true) : AOw s := ⟨va_AO.of (h _ tw_33), va_AO.of (h _ tw_35), va_AO.of (h _ tw_222), va_AO.of (h _ tw_224), h _ tw_183⟩
theorem kg_known {A : Array Value} {s : State} (h : ∀ w ∈ lw_tbl, w.before A s = true) : ∃ (D : va_G) (gcf : Nat → ClassId), ∀ (ad adK adV : Nat → Nat) (fo : Option Nat), KG (D, ad, gcf, adK, adV, fo) s := by
  obtain ⟨dC, dI, hC⟩ := cls_known (tab_of h)
  obtain ⟨a0, p0, q0⟩ := arr_known (h _ tw_173) (fun C e => by cases e)
  obtain ⟨a1, p1, q1⟩ := arr_known (h _ tw_70) (fun C e => by cases e)
  obtain ⟨a2, p2, q2⟩ := arr_known (h _ tw_1171) (fun C e => by cases e)
  obtain ⟨a3, p3, q3⟩ := arq_known (h _ tw_35)
  obtain ⟨a4, p4, q4⟩ := arq_known (h _ tw_33)
  obtain ⟨a5, p5, q5⟩ := arq_known (h _ tw_222)
  obtain ⟨a6, p6, q6⟩ := arq_known (h _ tw_224)
  obtain ⟨a7, p7, q7⟩ := ara_known (h _ tw_183)
  refine ⟨(dC, dI), (fun k => match k with
    | 0 => a0
    | 1 => a1
    | 2 => a2
    | 3 => a3
    | 4 => a4
    | 5 => a5
    | 6 => a6
    | _ => a7), fun ad adK adV fo => ⟨hC, ?_⟩⟩
  intro k q hq
  match k, hq with
  | 0, hq => cases hq; exact ⟨p0, q0⟩
  | 1, hq => cases hq; exact ⟨p1, q1⟩
  | 2, hq => cases hq; exact ⟨p2, q2⟩
  | 3, hq => cases hq; exact ⟨p3, q3⟩
  | 4, hq => cases hq; exact ⟨p4, q4⟩
  | 5, hq => cases hq; exact ⟨p5, q5⟩
  | 6, hq => cases hq; exact ⟨p6, q6⟩
  | 7, hq => cases hq; exact ⟨p7, q7⟩
  | k + 8, hq => simp [tysG] at hq
abbrev strTm (i : Nat) : Term := Term.string "InchCandle$Tape" (strIx.getD i 0)
abbrev gv : Cond := Jvm.Cond.and given_1 narrow_1
set_option maxRecDepth 100000 in
theorem sk_ex : ∀ i, i < 12 → Cond.exactly (strTm i) "java/lang/String" ∈ flatC gv := by decide +kernel
set_option maxRecDepth 100000 in
theorem sk_co : ∀ i, i < 12 → Cond.eq (.field (strTm i) "java/lang/String" "coder" "B") (.int 0) ∈ flatC gv := by decide +kernel
set_option maxRecDepth 100000 in
theorem sk_ar : ∀ i, i < 12 → Cond.arrayOf (.field (strTm i) "java/lang/String" "value" "[B") .byte ∈ flatC gv := by decide +kernel
set_option maxRecDepth 100000 in
theorem sk_le : ∀ i, i < 12 → Cond.eq (.length (.field (strTm i) "java/lang/String" "value" "[B")) (.int (Int32.ofNat (strLen.getD i 0))) ∈ flatC gv := by decide +kernel
set_option maxRecDepth 100000 in
theorem sk_em : ∀ i, i < 12 → ∀ j, j < strLen.getD i 0 → (flatC gv)[[57, 65, 76, 88, 101, 114, 129, 142, 158, 175, 193, 214].getD i 0 + j]? = some (Cond.eq (.elem (.field (strTm i) "java/lang/String" "value" "[B") (.int (Int32.ofNat j))) (.int ((strByt.getD i []).getD j 0))) := by decide +kernel
theorem sk_el (i : Nat) (hi : i < 12) (j : Nat) (hj : j < strLen.getD i 0) : Cond.eq (.elem (.field (strTm i) "java/lang/String" "value" "[B") (.int (Int32.ofNat j))) (.int ((strByt.getD i []).getD j 0)) ∈ flatC gv := List.mem_of_getElem? (sk_em i hi j hj)
set_option maxRecDepth 100000 in
theorem sk_nl : ∀ j, j < 12 → ∀ i, i < j → (flatC gv)[[0, 71, 82, 94, 106, 120, 132, 147, 163, 180, 200, 218].getD j 0 + i]? = some (Cond.not (Cond.eq (strTm i) (strTm j))) := by decide +kernel
theorem sk_ne (i : Nat) (hi : i < 12) (j : Nat) (hj : j < 12) (hij : i ≠ j) : Cond.not (Cond.eq (strTm i) (strTm j)) ∈ flatC gv ∨ Cond.not (Cond.eq (strTm j) (strTm i)) ∈ flatC gv := by
  rcases Nat.lt_or_gt_of_ne hij with h | h
  · exact Or.inl (List.mem_of_getElem? (sk_nl j hj i h))
  · exact Or.inr (List.mem_of_getElem? (sk_nl i hi j h))
set_option maxRecDepth 100000 in
theorem sk_cs : Cond.eq (.static "java/lang/String" "COMPACT_STRINGS" "Z") (.int 1) ∈ flatC gv := by decide +kernel
set_option maxRecDepth 100000 in
theorem sk_fm : Cond.isRef (.static "jdk/internal/util/Preconditions" "SIOOBE_FORMATTER" "Ljava/util/function/BiFunction;") ∈ flatC gv := by decide +kernel
theorem sk_ln : ∀ i, i < 12 → strLen.getD i 0 < 2 ^ 31 := by decide +kernel
theorem str_known {A : Array Value} {s : State} (h : ∀ w ∈ lw_tbl, w.before A s = true) (hg : gv.before A s = true) : ∃ (adK adV : Nat → Nat) (fo : Option Nat), ∀ (D : va_G) (gcf : Nat → ClassId), StrG (D, (fun k => s.heap.size + k), gcf, adK, adV, fo) s s.heap := by
  have hs := flat_of_before _ hg
  have hA : ∀ a : Nat, a < s.heap.size → ¬ (fun q : Nat => s.heap.size ≤ q) a := fun a h1 h2 => Nat.not_lt.mpr h2 h1
  obtain ⟨adK, adV, h1, h2⟩ := vk_Sof (N := 12) (tm := strTm) (len := strLen) (byt := strByt) (A := fun q : Nat => s.heap.size ≤ q) sk_ln (fun i hi => hs _ (sk_ex i hi)) (fun i hi => hs _ (sk_co i hi)) (fun i hi => hs _ (sk_ar i hi)) (fun i hi => hs _ (sk_le i hi)) (fun i hi j hj => hs _ (sk_el i hi j hj)) (fun i j hi hj e => (sk_ne i hi j hj e).elim (fun q => Or.inl (hs _ q)) (fun q => Or.inr (hs _ q))) hA
  have hcs := va_Zof (A := fun q : Nat => s.heap.size ≤ q) (h _ tw_383) (h _ tw_12) (va_eqi (hs _ sk_cs)) hA
  obtain ⟨v, hv1, hv2⟩ := Cond.isRef_spec (hs _ sk_fm)
  obtain ⟨fo, rfl⟩ : ∃ fo : Option Nat, v = va_rf fo := by
    cases v with
    | ref a => exact ⟨some a, rfl⟩
    | null => exact ⟨none, rfl⟩
    | _ => exact absurd hv2 (by simp [Value.isRef])
  have hfm := va_Zof (A := fun q : Nat => s.heap.size ≤ q) (h _ tw_399) (h _ tw_14) hv1 hA
  refine ⟨adK, adV, fo, fun D gcf => ?_⟩
  have hAB : ∀ q : Nat, AA (D, (fun k => s.heap.size + k), gcf, adK, adV, fo) q → s.heap.size ≤ q := by
    rintro q ⟨k, -, rfl⟩
    exact Nat.le_add_right _ _
  refine ⟨vk_S.narrow h1 hAB, fun i hi => ?_, va_Z.narrow hcs hAB, va_Z.narrow hfm hAB⟩
  refine vk_R.of (A := A) ?_ (h2 i hi)
  match i, hi with
  | 0, _ => exact h _ tw_364
  | 1, _ => exact h _ tw_365
  | 2, _ => exact h _ tw_366
  | 3, _ => exact h _ tw_367
  | 4, _ => exact h _ tw_368
  | 5, _ => exact h _ tw_369
  | 6, _ => exact h _ tw_422
  | 7, _ => exact h _ tw_432
  | 8, _ => exact h _ tw_457
  | 9, _ => exact h _ tw_458
  | 10, _ => exact h _ tw_467
  | 11, _ => exact h _ tw_472
  | k + 12, hi => exact absurd hi (by omega)
set_option maxHeartbeats 8000000 in
set_option maxRecDepth 100000 in
/-- from the law's entry: by a pure fact of the law's loop -/
theorem whole_start_open {p : Program} {e : Env} {s : State} {m : MethodId} {below : List Frame} {meth : Method} {c : Code} (l : Launch) {b L : Nat} {xs : Nat → Int32} (hlaw : ∃ σr, iterF (F_L_law_18 L xs 0 94) (fun _ _ => none) FU 0 sig0 = some ((1 : Int32), σr)) (C0 : lw_At p s m meth c b L xs) : W p l e room_1 s m #[Value.ref b] below meth c s.heap [] 0 0 (lw_Z below #[Value.ref b] s) (entryFrame m ([Value.ref b] : List Value).toArray 4) := by
  obtain ⟨hx, hb, hr, hml, hown, hts, hX, hbl, hlocks, hgv⟩ := id C0
  obtain ⟨σr, hlaw⟩ := hlaw
  obtain ⟨D, gcf, hKG⟩ := kg_known hts
  obtain ⟨adK, adV, fo, hSt⟩ := str_known hts hgv
  generalize hG : G0 D s.heap.size gcf adK adV fo = G
  have hT : Tab s := tab_of hts
  have hK : KG G s := by rw [← hG]; exact hKG _ _ _ _
  have hstr : StrG G s s.heap := by rw [← hG]; exact hSt _ _
  have hga : ∀ k, ga G k = s.heap.size + k := fun k => by rw [← hG]; rfl
  have hI : Inj G := fun i j _ _ h => by rw [hga, hga] at h; omega
  have hAA : ∀ q, AA G q → s.heap.size ≤ q := by
    rintro q ⟨k, -, rfl⟩
    rw [hga]
    exact Nat.le_add_right _ _
  have X : CxN G p s m #[Value.ref b] meth c code RL 4 (some .boolean) meth.name := ⟨hx, hb, hml, hown, hr, hlocks, hT, hK, rfl, ao_known hts⟩
  have ha : s.heap.size = s.heap.size + ([] : List va_E).length := rfl
  have hP : SW G s.heap.size [] [] s.heap := ⟨fun k q h => by simp [cwl] at h, rfl⟩
  have hS : va_S (BA s.heap.size) s.heap s.heap [] := va_S.rf
  have hl := lv_entry ([.ref b]) (n := 4) (Nat.le_of_ble_eq_true rfl)
  rw [lg_entry_eq]
  generalize (lg_sl ([.ref b]) ++ List.replicate (4 - (lg_sl ([.ref b])).length) Slot.unset).toArray = ls at hl ⊢
  have hl : lv_has ls 4 [(0, .ref b)] := hl
  refine n_new (pc := 0) X hP hS ha tyX9 tyX9_ok (uw9 X.hT) (X.tb tw_18 rfl) (X.tb tw_19 rfl) (X.tb tw_1 rfl) rfl (fs := [.null, .null, .int 0, .null, .null, .null, .null, .null, .null, .null, .null]) (fun j hj => by rcases (show j = 0 ∨ j = 1 ∨ j = 2 ∨ j = 3 ∨ j = 4 ∨ j = 5 ∨ j = 6 ∨ j = 7 ∨ j = 8 ∨ j = 9 ∨ j = 10 by omega) with rfl | rfl | rfl | rfl | rfl | rfl | rfl | rfl | rfl | rfl | rfl <;> rfl) (n := 0) rfl (q := s.heap.size + 0) rfl (L' := [.inr (9, [.null, .null, .int 0, .null, .null, .null, .null, .null, .null, .null, .null])]) rfl (Nat.le_of_ble_eq_true rfl) (Nat.le_of_ble_eq_true rfl) dL_law_0 (fun H hP hS => ?_)
  refine lv_dup (pc := 3) hx hb dL_law_3 rfl ?_
  refine n_init (pc := 4) X hS ha (L := []) (e0 := .inr (9, [.null, .null, .int 0, .null, .null, .null, .null, .null, .null, .null, .null])) (seg := seg_X9 G) (im_X9 l G) hP (X.tb tw_22 rfl) (X.tb tw_1 rfl) (X.tb tw_20 rfl) (X.tb tw_21 rfl) rfl ⟨by decide, by decide, by decide +kernel⟩ ⟨rfl, rfl, Nat.le_of_ble_eq_true rfl, Nat.le_of_ble_eq_true rfl⟩ hl.1 (Nat.le_of_ble_eq_true rfl) ⟨Nat.le_of_ble_eq_true rfl, Nat.le_of_ble_eq_true rfl⟩ (n := 0) rfl (q := s.heap.size + 0) rfl dL_law_4 (fun H locs hP hS => ?_)
  rw [List.nil_append] at hP
  refine lv_astore_n (pc := 7) (lv' := [(1, .ref (s.heap.size + 0)), (0, .ref b)]) hx hb dL_law_7 rfl hl (by decide) rfl (fun ls hl => ?_)
  refine n_new (pc := 8) (ci := 10) (L := seg_X9 G (s.heap.size + 0)) X hP hS ha tyX10 tyX10_ok (uw10 X.hT) (X.tb tw_978 rfl) (X.tb tw_979 rfl) (X.tb tw_11 rfl) rfl (fs := [.int 0, .null, .null, .null, .null, .null, .null, .int 0, .int 0, .null, .null, .null, .null, .int 0, .int 0, .null, .int 0, .int 0, .int 0, .int 0, .long 0, .int 0, .int 0, .int 0, .int 0, .int 0, .null, .null, .null, .null, .null, .null, .null, .int 0, .null, .int 0, .int 0, .int 0, .int 0, .null, .null, .null, .int 0, .int 0, .null, .int 0, .null, .null, .null, .null, .null, .null, .int 0, .int 0, .int 0, .null, .int 0, .int 0, .int 0, .null, .int 0, .null]) (fun j hj => by rcases (show j = 0 ∨ j = 1 ∨ j = 2 ∨ j = 3 ∨ j = 4 ∨ j = 5 ∨ j = 6 ∨ j = 7 ∨ j = 8 ∨ j = 9 ∨ j = 10 ∨ j = 11 ∨ j = 12 ∨ j = 13 ∨ j = 14 ∨ j = 15 ∨ j = 16 ∨ j = 17 ∨ j = 18 ∨ j = 19 ∨ j = 20 ∨ j = 21 ∨ j = 22 ∨ j = 23 ∨ j = 24 ∨ j = 25 ∨ j = 26 ∨ j = 27 ∨ j = 28 ∨ j = 29 ∨ j = 30 ∨ j = 31 ∨ j = 32 ∨ j = 33 ∨ j = 34 ∨ j = 35 ∨ j = 36 ∨ j = 37 ∨ j = 38 ∨ j = 39 ∨ j = 40 ∨ j = 41 ∨ j = 42 ∨ j = 43 ∨ j = 44 ∨ j = 45 ∨ j = 46 ∨ j = 47 ∨ j = 48 ∨ j = 49 ∨ j = 50 ∨ j = 51 ∨ j = 52 ∨ j = 53 ∨ j = 54 ∨ j = 55 ∨ j = 56 ∨ j = 57 ∨ j = 58 ∨ j = 59 ∨ j = 60 ∨ j = 61 by omega) with rfl | rfl | rfl | rfl | rfl | rfl | rfl | rfl | rfl | rfl | rfl | rfl | rfl | rfl | rfl | rfl | rfl | rfl | rfl | rfl | rfl | rfl | rfl | rfl | rfl | rfl | rfl | rfl | rfl | rfl | rfl | rfl | rfl | rfl | rfl | rfl | rfl | rfl | rfl | rfl | rfl | rfl | rfl | rfl | rfl | rfl | rfl | rfl | rfl | rfl | rfl | rfl | rfl | rfl | rfl | rfl | rfl | rfl | rfl | rfl | rfl | rfl <;> rfl) (n := 94) (seg_X9_len G _) (q := s.heap.size + 94) rfl rfl (Nat.le_of_ble_eq_true rfl) (Nat.le_of_ble_eq_true rfl) dL_law_8 (fun H hP hS => ?_)
  refine lv_dup (pc := 11) hx hb dL_law_11 rfl ?_
  refine n_init (pc := 12) X hS ha (L := seg_X9 G (s.heap.size + 0)) (seg := seg_X10 G) (im_X10 l G) hP (X.tb tw_982 rfl) (X.tb tw_11 rfl) (X.tb tw_980 rfl) (X.tb tw_981 rfl) rfl ⟨by decide, by decide, by decide +kernel⟩ ⟨rfl, rfl, Nat.le_of_ble_eq_true rfl, Nat.le_of_ble_eq_true rfl⟩ hl.1 (Nat.le_of_ble_eq_true rfl) ⟨Nat.le_of_ble_eq_true rfl, Nat.le_of_ble_eq_true rfl⟩ (n := 94) (seg_X9_len G _) (q := s.heap.size + 94) rfl dL_law_12 (fun H locs hP hS => ?_)
  refine lv_astore_n (pc := 15) (lv' := [(2, .ref (s.heap.size + 94)), (1, .ref (s.heap.size + 0)), (0, .ref b)]) hx hb dL_law_15 rfl hl (by decide) rfl (fun ls hl => ?_)
  have hPW : PW G sig0 H := by
    subst hG
    exact fin_world hP
  refine va_forget (fun q hq => hS.2.2 q hq) ?_
  have hS : va_S (AA G) s.heap H [] := ⟨hS.1, fun q h1 _ => hS.2.1 q h1 (Nat.not_le.mpr h1), fun q h => by cases h⟩
  refine lv_iconst (pc := 16) (v := 0) hx hb dL_law_16 (by decide) ?_
  refine lv_istore_n (pc := 17) (lv' := [(3, .int 0), (2, .ref (s.heap.size + 94)), (1, .ref (s.heap.size + 0)), (0, .ref b)]) hx hb dL_law_17 rfl hl (by decide) rfl (fun ls hl => ?_)
  have Xc : Cx G p s m #[Value.ref b] meth c code RL 4 (some .boolean) := ⟨hx, hb, hml, hown, hr, hlocks, hT, hK, hI, hstr⟩
  have XL : LawX G b L xs s := ⟨hX, hbl, fun h => Nat.not_lt.mpr (hAA b h) hbl, hAA⟩
  have hl : lv_has ls 4 [(3, .int 0), (2, .ref (ga G 94)), (1, .ref (ga G 0)), (0, .ref b)] := by rw [hga, hga]; exact hl
  exact w_L_law_18 Xc XL kd_x kd_m FU 0 sig0 H _ ls hPW hS (lv_sub hl [3, 2, 1, 0] rfl) hlaw
