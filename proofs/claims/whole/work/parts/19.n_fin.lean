def I0 : List (List Int32) := [[0, 0, 0, 0, 0, 0, 0, 0, 0, 0, 0], [0, 0, 0, 0, 0, 5, 1, -9, 0, 0, 0, -9], [], [], [0, 0, 0, 0, 0, 0, 0, 0, 0, 0, 0, 0], [1, 1, 0, -9, -9], [1, 1, 0, -9, -9], [1, 1, 0, -9, -9], [1, 1, 0, -9, -9], [1, 1, 0, -9, -9], [0, 0, 0, 0], [0, 0, 0, 0], [0, 0, 0, 0], [0, 0, 0, 0], [0, 0, 0, 0], [0, 0, 0, 0], [0, 0, 0, 0, 0, 5, 1, -9, 0, 0, 0, -9], [], [], [0, 0, 0, 0, 0, 0, 0, 0, 0, 0, 0, 0], [1, 1, 0, -9, -9], [1, 1, 0, -9, -9], [1, 1, 0, -9, -9], [1, 1, 0, -9, -9], [1, 1, 0, -9, -9], [0, 0, 0, 0], [0, 0, 0, 0], [0, 0, 0, 0], [0, 0, 0, 0], [0, 0, 0, 0], [0, 0, 0, 0], [0, 0, 0, 0, 0, 5, 1, -9, 0, 0, 0, -9], [], [], [0, 0, 0, 0, 0, 0, 0, 0, 0, 0, 0, 0], [1, 1, 0, -9, -9], [1, 1, 0, -9, -9], [1, 1, 0, -9, -9], [1, 1, 0, -9, -9], [1, 1, 0, -9, -9], [0, 0, 0, 0], [0, 0, 0, 0], [0, 0, 0, 0], [0, 0, 0, 0], [0, 0, 0, 0], [0, 0, 0, 0], [0, 0, 0, -3], [0, 0, 0, 0, 0, 0, 0, 0, 0, 0, 0, 0, 0, 0, 0, 0, 0, 0, 0, 0, 0, 0, 0, 0, 0, 0, 0, 0, 0, 0, 0, 0, 0, 0, 0, 0, 0, 0, 0, 0, 0, 0, 0, 0, 0, 0, 0, 0, 0, 0, 0, 0, 0, 0, 0, 0, 0, 0, 0, 0, 0, 0, 0, 0, 0, 0, 0, 0, 0, 0, 0, 0, 0, 0, 0, 0, 0, 0, 0, 0, 0, 0, 0, 0, 0, 0, 0, 0, 0, 0, 0, 0, 0, 0, 0, 0, 0, 0, 0, 0, 0, 0, 0, 0, 0, 0, 0, 0, 0, 0, 0, 0, 0, 0, 0, 0, 0, 0, 0, 0, 0, 0, 0, 0, 0, 0, 0, 0, 0, 0, 0, 0, 0, 0, 0, 0, 0, 0, 0, 0, 0, 0, 0, 0, 0, 0, 0, 0, 0, 0, 0, 0, 0, 0, 0, 0, 0, 0, 0, 0, 0, 0, 0, 0, 0, 0, 0, 0, 0, 0, 0, 0, 0, 0, 0, 0, 0, 0, 0, 0, 0, 0, 0, 0, 0, 0, 0, 0, 0, 0, 0, 0, 0, 0, 0, 0, 0, 0, 0, 0], [0, -3, 0, 0, 0, 0, 0], [0, 0, 0, 0, 0, 5, 1, -9, 0, 0, 0, -9], [], [], [0, 0, 0, 0, 0, 0, 0, 0, 0, 0, 0, 0], [1, 1, 0, -9, -9], [1, 1, 0, -9, -9], [1, 1, 0, -9, -9], [1, 1, 0, -9, -9], [1, 1, 0, -9, -9], [0, 0, 0, 0], [0, 0, 0, 0], [0, 0, 0, 0], [0, 0, 0, 0], [0, 0, 0, 0], [0, 0, 0, 0], [0, 0, 0, 0, 0], [0, 0, 0, 0, 0], [], [0, 0, 0, 0, 0, 0], [0, 0, 0, 0, 0, 0], [0, 0, 0, 0, 0, 0], [0, 0, 0, 0, 0, 0], [0, 0, 0, 0, 0, 0], [0, 0, 0, 0, 0, 0], [0, 0, 0, 0, 0, 0], [0, 0], [0, 0, 0, 0, 0, 0, 0, 0, 0, 0, 0, 0, 0, 0, 0, 0, 0, 0, 0, 0, 0, 0, 0, 0, 0, 0, 0, 0, 0, 0, 0, 0, 0, 0, 0, 0, 0, 0, 0, 0, 0, 0, 0, 0, 0, 0, 0, 0, 0, 0, 0, 0, 0, 0, 0, 0, 0, 0, 0, 0], [0, 0], [0, 0, 0, 0, 0, 0, 0, 0, 0, 0, 0, 0, 0, 0, 0, 0, 0, 0, 0, 0, 0, 0, 0, 0, 0, 0, 0, 0, 0, 0, 0, 0, 0, 0, 0, 0, 0, 0, 0, 0, 0, 0, 0, 0, 0, 0, 0, 0, 0, 0, 0, 0, 0, 0, 0, 0, 0, 0, 0, 0], [], [], [0, 0, 0, 0, 0, 0], [0, 0, 0, 0, 0, 0, 0, 0, 0, 0, 0, 0, 0, 0, 0, 0, 0, 0, 0, 0, 0, 0, 0, 0, 0, 0, 0, 0, 0, 0], [0, -1, 0], [0, 0, 0, 0, 0, 0, 0, 0, 0, 0, 0, 0, 0, 0, 0, 0, 0, 0, 0, 0, 0, 0, 0, 0, 0, 0, 0, 0, 0, 0, 0, 0, 0, 0, 0, 0, 0, 0, 0, 0], [0, -1, 0], [0, 0, 0, 0, 0, 0, 0, 0, 0, 0, 0, 0, 0, 0, 0, 0, 0, 0, 0, 0, 0, 0, 0, 0, 0, 0, 0, 0, 0, 0, 0, 0, 0, 0, 0, 0, 0, 0, 0, 0], [0, -1, 0], [0, 0, 0, 0, 0, 0, 0, 0, 0, 0, 0, 0, 0, 0, 0, 0, 0, 0, 0, 0, 0, 0, 0, 0, 0, 0, 0, 0, 0, 0, 0, 0, 0, 0, 0, 0, 0, 0, 0, 0], [0, -1, 0], [0, 0, 0, 0, 0, 0, 0, 0, 0, 0, 0, 0, 0, 0, 0, 0, 0, 0, 0, 0, 0, 0, 0, 0, 0, 0, 0, 0, 0, 0, 0, 0, 0, 0, 0, 0, 0, 0, 0, 0], [-9, -1, 0], [-9, -1, 0], [-9, -1, 0], [-9, -1, 0], [0, 0, 0, 0, 0, 0, 0, 5, 0, 0, 0, 0, 0, 0, 1, 0, 0, 0, 0, 0, 0, 0, 0, 0, 0, 0, 0, 0, 0, 0, 0, 0, 0, -1, 0, 0, 0, 0, 0, 0, 0, 0, 0, 0, 0, 0, 0, 0, 0, 0, 0, 0, 0, 0, 0, 0, 0, 0, 0, 0, 0, 0], [0, 0, 0, 0, 0], [0, 0, 0, 0, 0], [0, 0, 0, 0, 0], [0, 0, 0, 0, 0], [0, 0, 0, 0, 0], [0, 0, 0, 0, 0, 0, 0, 0, 0, 0, 0, 0], [0, 0, 0, 0, 0, 0], [0, 0, 0, 0, 0, 0], [0, 0, 0, 0, 0, 0], [-1, 0, 0, 0, -1, 0, 0, 0, 0, 0, 0, 0, 0, 0, 0, 0, 0, 0, 0, 0, 0, 0], [0, 0, 0, 0, 0, 0, 0, 0, 0, 0, 0, 0, 0, 0, 0, 0, 0, 0, 0, 0, 0, 0, 0, 0, 0, 0, 0, 0, 0, 0, 0, 0, 0, 0, 0, 0, 0, 0, 0, 0, 0, 0, 0, 0, 0, 0, 0, 0, 0, 0, 0, 0, 0, 0, 0, 0, 0, 0, 0, 0, 0, 0, 0, 0, 0, 0, 0, 0, 0, 0, 0, 0, 0, 0, 0, 0, 0, 0, 0, 0, 0, 0, 0, 0, 0, 0, 0, 0, 0, 0, 0, 0, 0, 0, 0, 0, 0, 0, 0, 0, 0, 0, 0, 0, 0, 0, 0, 0, 0, 0, 0, 0, 0, 0, 0, 0, 0, 0, 0, 0, 0, 0, 0, 0, 0, 0, 0, 0, 0, 0, 0, 0, 0, 0, 0, 0, 0, 0, 0, 0, 0, 0, 0, 0, 0, 0, 0, 0, 0, 0, 0, 0, 0, 0, 0, 0, 0, 0, 0, 0, 0, 0, 0, 0, 0, 0, 0, 0, 0, 0, 0, 0, 0, 0, 0, 0, 0, 0, 0, 0, 0, 0, 0, 0, 0, 0, 0, 0, 0, 0, 0, 0, 0, 0, 0, 0, 0, 0, 0, 0], [0, 0, 0, 0, 0], [0, 0, 0, 0, 0], [0, 0, 0, 0, 0, 0], [0, 0, 0, 0, 0, 0], [0, 0, 0, 0, 0, 0], [0, 0, 0, 0, 0, 0], [0, 0, 0, 0, 0, 0, 0, 0, 0, 0, 0, 0], [0, 0, 0, 0, 0, 0, 0, 0, 0, 0, 0, 0, 0, 0, 0, 0, 0, 0, 0, 0, 0, 0, 0, 0, 0, 0, 0, 0, 0, 0, 0, 0, 0, 0, 0, 0, 0, 0, 0, 0, 0, 0, 0, 0, 0, 0, 0, 0, 0, 0, 0, 0, 0, 0, 0, 0, 0, 0, 0, 0], [0, 0, 0, 0, 0], [0, 0, 0, 0, 0], [0, 0, 0, 0, 0], [0, 0, 0, 0, 0, 0, 0, 0, 0, 0, 0, 0, 0, 0, 0, 0, 0, 0, 0, 0, 0, 0, 0, 0, 0, 0, 0, 0, 0, 0, 0, 0, 0, 0, 0, 0, 0, 0, 0, 0, 0, 0, 0, 0, 0, 0, 0, 0, 0, 0, 0, 0, 0, 0, 0, 0, 0, 0, 0, 0], [-1, -1, -1, -1], [0, 0, 0, 0], [], [-1, -1, -1, -1], [0, 0, 0, 0], [0, 0, 0, 0], [0, 0, 0, 0, 0, 0, 0, 0, 0, 0, 0, 0, 0, 0, 0, 0, 0, 0, 0, 0, 0, 0, 0, 0, 0, 0, 0, 0, 0, 0], [0, 0, 0, 0, 0, 0, 0, 0, 0, 0, 0, 0, 0, 0, 0, 0, 0, 0, 0, 0, 0, 0, 0, 0, 0, 0, 0, 0, 0, 0, 0, 0, 0, 0, 0, 0, 0, 0, 0, 0, 0, 0, 0, 0, 0, 0, 0, 0, 0, 0, 0, 0, 0, 0, 0, 0, 0, 0, 0, 0, 0, 0, 0, 0, 0, 0, 0, 0, 0, 0, 0, 0, 0, 0, 0, 0, 0, 0, 0, 0], [0, 0, 0, 0]]
def sig0 : Mem := (fun k i => (I0.getD k []).getD i 0, fun _ _ => 0)
abbrev G0 (D : va_G) (base : Nat) (gcf : Nat → ClassId) (adK adV : Nat → Nat) (fo : Option Nat) : Gh := (D, (fun k => base + k), gcf, adK, adV, fo)
theorem arr_at {D : va_G} {cl : List vw_C} {q : Nat} {c : ClassId} {n : Nat} {f g : Nat → Int32} {H : Heap} (h : va_at D cl (q, .inl (c, n, .inl f)) H) (hfg : ∀ j, j < n → f j = g j) : va_at D cl (q, .inl (c, n, .inl g)) H := by
  have h1 : H[q]? = some (arrV c n (fun j => .int (f j))) := h
  show H[q]? = some (arrV c n (fun j => .int (g j)))
  rw [h1]
  unfold arrV
  congr 3
  funext j
  rw [hfg j.1 j.2]
theorem arq_at {D : va_G} {cl : List vw_C} {q : Nat} {c : ClassId} {n : Nat} {f g : Nat → Option Nat} {H : Heap} (h : va_at D cl (q, .inl (c, n, .inr (.inr (.inr (.inr f))))) H) (hfg : ∀ j, j < n → f j = g j) : va_at D cl (q, .inl (c, n, .inr (.inr (.inr (.inr g))))) H := by
  have h1 : H[q]? = some (arrV c n (fun j => va_rf (f j))) := h
  show H[q]? = some (arrV c n (fun j => va_rf (g j)))
  rw [h1]
  unfold arrV
  congr 3
  funext j
  rw [hfg j.1 j.2]
theorem SW.cell {G : Gh} {base : Nat} {L : List va_E} {H : Heap} (hP : SW G base [] L H) {k : Nat} {e : va_E} (h : L[k]? = some e) : va_at G.1 vwCl (base + k, e) H := by
  have h2 : ([] ++ L)[k]? = some e := h
  exact hP.1 k _ (cwl_some h2)
abbrev Lall (G : Gh) (a : Nat) : List va_E := seg_X9 G a ++ seg_X10 G (a + 94)
set_option maxRecDepth 100000 in
theorem fw_0 {D : va_G} {base : Nat} {gcf : Nat → ClassId} {adK adV : Nat → Nat} {fo : Option Nat} {H : Heap} (hP : SW (G0 D base gcf adK adV fo) base [] (Lall (G0 D base gcf adK adV fo) base) H) : va_at D vwCl (base + 0, ent (G0 D base gcf adK adV fo) sig0 0) H := hP.cell (k := 0) rfl
set_option maxRecDepth 100000 in
theorem fw_1 {D : va_G} {base : Nat} {gcf : Nat → ClassId} {adK adV : Nat → Nat} {fo : Option Nat} {H : Heap} (hP : SW (G0 D base gcf adK adV fo) base [] (Lall (G0 D base gcf adK adV fo) base) H) : va_at D vwCl (base + 1, ent (G0 D base gcf adK adV fo) sig0 1) H := hP.cell (k := 1) rfl
set_option maxRecDepth 100000 in
theorem fw_2 {D : va_G} {base : Nat} {gcf : Nat → ClassId} {adK adV : Nat → Nat} {fo : Option Nat} {H : Heap} (hP : SW (G0 D base gcf adK adV fo) base [] (Lall (G0 D base gcf adK adV fo) base) H) : va_at D vwCl (base + 2, ent (G0 D base gcf adK adV fo) sig0 2) H := arq_at (hP.cell (k := 2) rfl) (fun j hj => by rcases (show j = 0 ∨ j = 1 ∨ j = 2 ∨ j = 3 ∨ j = 4 by have : j < 5 := hj; omega) with rfl | rfl | rfl | rfl | rfl <;> rfl)
set_option maxRecDepth 100000 in
theorem fw_3 {D : va_G} {base : Nat} {gcf : Nat → ClassId} {adK adV : Nat → Nat} {fo : Option Nat} {H : Heap} (hP : SW (G0 D base gcf adK adV fo) base [] (Lall (G0 D base gcf adK adV fo) base) H) : va_at D vwCl (base + 3, ent (G0 D base gcf adK adV fo) sig0 3) H := arq_at (hP.cell (k := 3) rfl) (fun j hj => by rcases (show j = 0 ∨ j = 1 ∨ j = 2 ∨ j = 3 ∨ j = 4 ∨ j = 5 by have : j < 6 := hj; omega) with rfl | rfl | rfl | rfl | rfl | rfl <;> rfl)
set_option maxRecDepth 100000 in
theorem fw_4 {D : va_G} {base : Nat} {gcf : Nat → ClassId} {adK adV : Nat → Nat} {fo : Option Nat} {H : Heap} (hP : SW (G0 D base gcf adK adV fo) base [] (Lall (G0 D base gcf adK adV fo) base) H) : va_at D vwCl (base + 4, ent (G0 D base gcf adK adV fo) sig0 4) H := arr_at (g := sig0.1 4) (hP.cell (k := 4) rfl) (by decide +kernel)
set_option maxRecDepth 100000 in
theorem fw_5 {D : va_G} {base : Nat} {gcf : Nat → ClassId} {adK adV : Nat → Nat} {fo : Option Nat} {H : Heap} (hP : SW (G0 D base gcf adK adV fo) base [] (Lall (G0 D base gcf adK adV fo) base) H) : va_at D vwCl (base + 5, ent (G0 D base gcf adK adV fo) sig0 5) H := hP.cell (k := 5) rfl
set_option maxRecDepth 100000 in
theorem fw_6 {D : va_G} {base : Nat} {gcf : Nat → ClassId} {adK adV : Nat → Nat} {fo : Option Nat} {H : Heap} (hP : SW (G0 D base gcf adK adV fo) base [] (Lall (G0 D base gcf adK adV fo) base) H) : va_at D vwCl (base + 6, ent (G0 D base gcf adK adV fo) sig0 6) H := hP.cell (k := 6) rfl
set_option maxRecDepth 100000 in
theorem fw_7 {D : va_G} {base : Nat} {gcf : Nat → ClassId} {adK adV : Nat → Nat} {fo : Option Nat} {H : Heap} (hP : SW (G0 D base gcf adK adV fo) base [] (Lall (G0 D base gcf adK adV fo) base) H) : va_at D vwCl (base + 7, ent (G0 D base gcf adK adV fo) sig0 7) H := hP.cell (k := 7) rfl
set_option maxRecDepth 100000 in
theorem fw_8 {D : va_G} {base : Nat} {gcf : Nat → ClassId} {adK adV : Nat → Nat} {fo : Option Nat} {H : Heap} (hP : SW (G0 D base gcf adK adV fo) base [] (Lall (G0 D base gcf adK adV fo) base) H) : va_at D vwCl (base + 8, ent (G0 D base gcf adK adV fo) sig0 8) H := hP.cell (k := 8) rfl
set_option maxRecDepth 100000 in
theorem fw_9 {D : va_G} {base : Nat} {gcf : Nat → ClassId} {adK adV : Nat → Nat} {fo : Option Nat} {H : Heap} (hP : SW (G0 D base gcf adK adV fo) base [] (Lall (G0 D base gcf adK adV fo) base) H) : va_at D vwCl (base + 9, ent (G0 D base gcf adK adV fo) sig0 9) H := hP.cell (k := 9) rfl
set_option maxRecDepth 100000 in
theorem fw_10 {D : va_G} {base : Nat} {gcf : Nat → ClassId} {adK adV : Nat → Nat} {fo : Option Nat} {H : Heap} (hP : SW (G0 D base gcf adK adV fo) base [] (Lall (G0 D base gcf adK adV fo) base) H) : va_at D vwCl (base + 10, ent (G0 D base gcf adK adV fo) sig0 10) H := hP.cell (k := 10) rfl
set_option maxRecDepth 100000 in
theorem fw_11 {D : va_G} {base : Nat} {gcf : Nat → ClassId} {adK adV : Nat → Nat} {fo : Option Nat} {H : Heap} (hP : SW (G0 D base gcf adK adV fo) base [] (Lall (G0 D base gcf adK adV fo) base) H) : va_at D vwCl (base + 11, ent (G0 D base gcf adK adV fo) sig0 11) H := hP.cell (k := 11) rfl
set_option maxRecDepth 100000 in
theorem fw_12 {D : va_G} {base : Nat} {gcf : Nat → ClassId} {adK adV : Nat → Nat} {fo : Option Nat} {H : Heap} (hP : SW (G0 D base gcf adK adV fo) base [] (Lall (G0 D base gcf adK adV fo) base) H) : va_at D vwCl (base + 12, ent (G0 D base gcf adK adV fo) sig0 12) H := hP.cell (k := 12) rfl
set_option maxRecDepth 100000 in
theorem fw_13 {D : va_G} {base : Nat} {gcf : Nat → ClassId} {adK adV : Nat → Nat} {fo : Option Nat} {H : Heap} (hP : SW (G0 D base gcf adK adV fo) base [] (Lall (G0 D base gcf adK adV fo) base) H) : va_at D vwCl (base + 13, ent (G0 D base gcf adK adV fo) sig0 13) H := hP.cell (k := 13) rfl
set_option maxRecDepth 100000 in
theorem fw_14 {D : va_G} {base : Nat} {gcf : Nat → ClassId} {adK adV : Nat → Nat} {fo : Option Nat} {H : Heap} (hP : SW (G0 D base gcf adK adV fo) base [] (Lall (G0 D base gcf adK adV fo) base) H) : va_at D vwCl (base + 14, ent (G0 D base gcf adK adV fo) sig0 14) H := hP.cell (k := 14) rfl
set_option maxRecDepth 100000 in
theorem fw_15 {D : va_G} {base : Nat} {gcf : Nat → ClassId} {adK adV : Nat → Nat} {fo : Option Nat} {H : Heap} (hP : SW (G0 D base gcf adK adV fo) base [] (Lall (G0 D base gcf adK adV fo) base) H) : va_at D vwCl (base + 15, ent (G0 D base gcf adK adV fo) sig0 15) H := hP.cell (k := 15) rfl
set_option maxRecDepth 100000 in
theorem fw_16 {D : va_G} {base : Nat} {gcf : Nat → ClassId} {adK adV : Nat → Nat} {fo : Option Nat} {H : Heap} (hP : SW (G0 D base gcf adK adV fo) base [] (Lall (G0 D base gcf adK adV fo) base) H) : va_at D vwCl (base + 16, ent (G0 D base gcf adK adV fo) sig0 16) H := hP.cell (k := 16) rfl
set_option maxRecDepth 100000 in
theorem fw_17 {D : va_G} {base : Nat} {gcf : Nat → ClassId} {adK adV : Nat → Nat} {fo : Option Nat} {H : Heap} (hP : SW (G0 D base gcf adK adV fo) base [] (Lall (G0 D base gcf adK adV fo) base) H) : va_at D vwCl (base + 17, ent (G0 D base gcf adK adV fo) sig0 17) H := arq_at (hP.cell (k := 17) rfl) (fun j hj => by rcases (show j = 0 ∨ j = 1 ∨ j = 2 ∨ j = 3 ∨ j = 4 by have : j < 5 := hj; omega) with rfl | rfl | rfl | rfl | rfl <;> rfl)
set_option maxRecDepth 100000 in
theorem fw_18 {D : va_G} {base : Nat} {gcf : Nat → ClassId} {adK adV : Nat → Nat} {fo : Option Nat} {H : Heap} (hP : SW (G0 D base gcf adK adV fo) base [] (Lall (G0 D base gcf adK adV fo) base) H) : va_at D vwCl (base + 18, ent (G0 D base gcf adK adV fo) sig0 18) H := arq_at (hP.cell (k := 18) rfl) (fun j hj => by rcases (show j = 0 ∨ j = 1 ∨ j = 2 ∨ j = 3 ∨ j = 4 ∨ j = 5 by have : j < 6 := hj; omega) with rfl | rfl | rfl | rfl | rfl | rfl <;> rfl)
set_option maxRecDepth 100000 in
theorem fw_19 {D : va_G} {base : Nat} {gcf : Nat → ClassId} {adK adV : Nat → Nat} {fo : Option Nat} {H : Heap} (hP : SW (G0 D base gcf adK adV fo) base [] (Lall (G0 D base gcf adK adV fo) base) H) : va_at D vwCl (base + 19, ent (G0 D base gcf adK adV fo) sig0 19) H := arr_at (g := sig0.1 19) (hP.cell (k := 19) rfl) (by decide +kernel)
set_option maxRecDepth 100000 in
theorem fw_20 {D : va_G} {base : Nat} {gcf : Nat → ClassId} {adK adV : Nat → Nat} {fo : Option Nat} {H : Heap} (hP : SW (G0 D base gcf adK adV fo) base [] (Lall (G0 D base gcf adK adV fo) base) H) : va_at D vwCl (base + 20, ent (G0 D base gcf adK adV fo) sig0 20) H := hP.cell (k := 20) rfl
set_option maxRecDepth 100000 in
theorem fw_21 {D : va_G} {base : Nat} {gcf : Nat → ClassId} {adK adV : Nat → Nat} {fo : Option Nat} {H : Heap} (hP : SW (G0 D base gcf adK adV fo) base [] (Lall (G0 D base gcf adK adV fo) base) H) : va_at D vwCl (base + 21, ent (G0 D base gcf adK adV fo) sig0 21) H := hP.cell (k := 21) rfl
set_option maxRecDepth 100000 in
theorem fw_22 {D : va_G} {base : Nat} {gcf : Nat → ClassId} {adK adV : Nat → Nat} {fo : Option Nat} {H : Heap} (hP : SW (G0 D base gcf adK adV fo) base [] (Lall (G0 D base gcf adK adV fo) base) H) : va_at D vwCl (base + 22, ent (G0 D base gcf adK adV fo) sig0 22) H := hP.cell (k := 22) rfl
set_option maxRecDepth 100000 in
theorem fw_23 {D : va_G} {base : Nat} {gcf : Nat → ClassId} {adK adV : Nat → Nat} {fo : Option Nat} {H : Heap} (hP : SW (G0 D base gcf adK adV fo) base [] (Lall (G0 D base gcf adK adV fo) base) H) : va_at D vwCl (base + 23, ent (G0 D base gcf adK adV fo) sig0 23) H := hP.cell (k := 23) rfl
set_option maxRecDepth 100000 in
theorem fw_24 {D : va_G} {base : Nat} {gcf : Nat → ClassId} {adK adV : Nat → Nat} {fo : Option Nat} {H : Heap} (hP : SW (G0 D base gcf adK adV fo) base [] (Lall (G0 D base gcf adK adV fo) base) H) : va_at D vwCl (base + 24, ent (G0 D base gcf adK adV fo) sig0 24) H := hP.cell (k := 24) rfl
set_option maxRecDepth 100000 in
theorem fw_25 {D : va_G} {base : Nat} {gcf : Nat → ClassId} {adK adV : Nat → Nat} {fo : Option Nat} {H : Heap} (hP : SW (G0 D base gcf adK adV fo) base [] (Lall (G0 D base gcf adK adV fo) base) H) : va_at D vwCl (base + 25, ent (G0 D base gcf adK adV fo) sig0 25) H := hP.cell (k := 25) rfl
set_option maxRecDepth 100000 in
theorem fw_26 {D : va_G} {base : Nat} {gcf : Nat → ClassId} {adK adV : Nat → Nat} {fo : Option Nat} {H : Heap} (hP : SW (G0 D base gcf adK adV fo) base [] (Lall (G0 D base gcf adK adV fo) base) H) : va_at D vwCl (base + 26, ent (G0 D base gcf adK adV fo) sig0 26) H := hP.cell (k := 26) rfl
set_option maxRecDepth 100000 in
theorem fw_27 {D : va_G} {base : Nat} {gcf : Nat → ClassId} {adK adV : Nat → Nat} {fo : Option Nat} {H : Heap} (hP : SW (G0 D base gcf adK adV fo) base [] (Lall (G0 D base gcf adK adV fo) base) H) : va_at D vwCl (base + 27, ent (G0 D base gcf adK adV fo) sig0 27) H := hP.cell (k := 27) rfl
set_option maxRecDepth 100000 in
theorem fw_28 {D : va_G} {base : Nat} {gcf : Nat → ClassId} {adK adV : Nat → Nat} {fo : Option Nat} {H : Heap} (hP : SW (G0 D base gcf adK adV fo) base [] (Lall (G0 D base gcf adK adV fo) base) H) : va_at D vwCl (base + 28, ent (G0 D base gcf adK adV fo) sig0 28) H := hP.cell (k := 28) rfl
set_option maxRecDepth 100000 in
theorem fw_29 {D : va_G} {base : Nat} {gcf : Nat → ClassId} {adK adV : Nat → Nat} {fo : Option Nat} {H : Heap} (hP : SW (G0 D base gcf adK adV fo) base [] (Lall (G0 D base gcf adK adV fo) base) H) : va_at D vwCl (base + 29, ent (G0 D base gcf adK adV fo) sig0 29) H := hP.cell (k := 29) rfl
set_option maxRecDepth 100000 in
theorem fw_30 {D : va_G} {base : Nat} {gcf : Nat → ClassId} {adK adV : Nat → Nat} {fo : Option Nat} {H : Heap} (hP : SW (G0 D base gcf adK adV fo) base [] (Lall (G0 D base gcf adK adV fo) base) H) : va_at D vwCl (base + 30, ent (G0 D base gcf adK adV fo) sig0 30) H := hP.cell (k := 30) rfl
set_option maxRecDepth 100000 in
theorem fw_31 {D : va_G} {base : Nat} {gcf : Nat → ClassId} {adK adV : Nat → Nat} {fo : Option Nat} {H : Heap} (hP : SW (G0 D base gcf adK adV fo) base [] (Lall (G0 D base gcf adK adV fo) base) H) : va_at D vwCl (base + 31, ent (G0 D base gcf adK adV fo) sig0 31) H := hP.cell (k := 31) rfl
set_option maxRecDepth 100000 in
theorem fw_32 {D : va_G} {base : Nat} {gcf : Nat → ClassId} {adK adV : Nat → Nat} {fo : Option Nat} {H : Heap} (hP : SW (G0 D base gcf adK adV fo) base [] (Lall (G0 D base gcf adK adV fo) base) H) : va_at D vwCl (base + 32, ent (G0 D base gcf adK adV fo) sig0 32) H := arq_at (hP.cell (k := 32) rfl) (fun j hj => by rcases (show j = 0 ∨ j = 1 ∨ j = 2 ∨ j = 3 ∨ j = 4 by have : j < 5 := hj; omega) with rfl | rfl | rfl | rfl | rfl <;> rfl)
set_option maxRecDepth 100000 in
theorem fw_33 {D : va_G} {base : Nat} {gcf : Nat → ClassId} {adK adV : Nat → Nat} {fo : Option Nat} {H : Heap} (hP : SW (G0 D base gcf adK adV fo) base [] (Lall (G0 D base gcf adK adV fo) base) H) : va_at D vwCl (base + 33, ent (G0 D base gcf adK adV fo) sig0 33) H := arq_at (hP.cell (k := 33) rfl) (fun j hj => by rcases (show j = 0 ∨ j = 1 ∨ j = 2 ∨ j = 3 ∨ j = 4 ∨ j = 5 by have : j < 6 := hj; omega) with rfl | rfl | rfl | rfl | rfl | rfl <;> rfl)
set_option maxRecDepth 100000 in
theorem fw_34 {D : va_G} {base : Nat} {gcf : Nat → ClassId} {adK adV : Nat → Nat} {fo : Option Nat} {H : Heap} (hP : SW (G0 D base gcf adK adV fo) base [] (Lall (G0 D base gcf adK adV fo) base) H) : va_at D vwCl (base + 34, ent (G0 D base gcf adK adV fo) sig0 34) H := arr_at (g := sig0.1 34) (hP.cell (k := 34) rfl) (by decide +kernel)
set_option maxRecDepth 100000 in
theorem fw_35 {D : va_G} {base : Nat} {gcf : Nat → ClassId} {adK adV : Nat → Nat} {fo : Option Nat} {H : Heap} (hP : SW (G0 D base gcf adK adV fo) base [] (Lall (G0 D base gcf adK adV fo) base) H) : va_at D vwCl (base + 35, ent (G0 D base gcf adK adV fo) sig0 35) H := hP.cell (k := 35) rfl
set_option maxRecDepth 100000 in
theorem fw_36 {D : va_G} {base : Nat} {gcf : Nat → ClassId} {adK adV : Nat → Nat} {fo : Option Nat} {H : Heap} (hP : SW (G0 D base gcf adK adV fo) base [] (Lall (G0 D base gcf adK adV fo) base) H) : va_at D vwCl (base + 36, ent (G0 D base gcf adK adV fo) sig0 36) H := hP.cell (k := 36) rfl
set_option maxRecDepth 100000 in
theorem fw_37 {D : va_G} {base : Nat} {gcf : Nat → ClassId} {adK adV : Nat → Nat} {fo : Option Nat} {H : Heap} (hP : SW (G0 D base gcf adK adV fo) base [] (Lall (G0 D base gcf adK adV fo) base) H) : va_at D vwCl (base + 37, ent (G0 D base gcf adK adV fo) sig0 37) H := hP.cell (k := 37) rfl
set_option maxRecDepth 100000 in
theorem fw_38 {D : va_G} {base : Nat} {gcf : Nat → ClassId} {adK adV : Nat → Nat} {fo : Option Nat} {H : Heap} (hP : SW (G0 D base gcf adK adV fo) base [] (Lall (G0 D base gcf adK adV fo) base) H) : va_at D vwCl (base + 38, ent (G0 D base gcf adK adV fo) sig0 38) H := hP.cell (k := 38) rfl
set_option maxRecDepth 100000 in
theorem fw_39 {D : va_G} {base : Nat} {gcf : Nat → ClassId} {adK adV : Nat → Nat} {fo : Option Nat} {H : Heap} (hP : SW (G0 D base gcf adK adV fo) base [] (Lall (G0 D base gcf adK adV fo) base) H) : va_at D vwCl (base + 39, ent (G0 D base gcf adK adV fo) sig0 39) H := hP.cell (k := 39) rfl
set_option maxRecDepth 100000 in
theorem fw_40 {D : va_G} {base : Nat} {gcf : Nat → ClassId} {adK adV : Nat → Nat} {fo : Option Nat} {H : Heap} (hP : SW (G0 D base gcf adK adV fo) base [] (Lall (G0 D base gcf adK adV fo) base) H) : va_at D vwCl (base + 40, ent (G0 D base gcf adK adV fo) sig0 40) H := hP.cell (k := 40) rfl
set_option maxRecDepth 100000 in
theorem fw_41 {D : va_G} {base : Nat} {gcf : Nat → ClassId} {adK adV : Nat → Nat} {fo : Option Nat} {H : Heap} (hP : SW (G0 D base gcf adK adV fo) base [] (Lall (G0 D base gcf adK adV fo) base) H) : va_at D vwCl (base + 41, ent (G0 D base gcf adK adV fo) sig0 41) H := hP.cell (k := 41) rfl
set_option maxRecDepth 100000 in
theorem fw_42 {D : va_G} {base : Nat} {gcf : Nat → ClassId} {adK adV : Nat → Nat} {fo : Option Nat} {H : Heap} (hP : SW (G0 D base gcf adK adV fo) base [] (Lall (G0 D base gcf adK adV fo) base) H) : va_at D vwCl (base + 42, ent (G0 D base gcf adK adV fo) sig0 42) H := hP.cell (k := 42) rfl
set_option maxRecDepth 100000 in
theorem fw_43 {D : va_G} {base : Nat} {gcf : Nat → ClassId} {adK adV : Nat → Nat} {fo : Option Nat} {H : Heap} (hP : SW (G0 D base gcf adK adV fo) base [] (Lall (G0 D base gcf adK adV fo) base) H) : va_at D vwCl (base + 43, ent (G0 D base gcf adK adV fo) sig0 43) H := hP.cell (k := 43) rfl
set_option maxRecDepth 100000 in
theorem fw_44 {D : va_G} {base : Nat} {gcf : Nat → ClassId} {adK adV : Nat → Nat} {fo : Option Nat} {H : Heap} (hP : SW (G0 D base gcf adK adV fo) base [] (Lall (G0 D base gcf adK adV fo) base) H) : va_at D vwCl (base + 44, ent (G0 D base gcf adK adV fo) sig0 44) H := hP.cell (k := 44) rfl
set_option maxRecDepth 100000 in
theorem fw_45 {D : va_G} {base : Nat} {gcf : Nat → ClassId} {adK adV : Nat → Nat} {fo : Option Nat} {H : Heap} (hP : SW (G0 D base gcf adK adV fo) base [] (Lall (G0 D base gcf adK adV fo) base) H) : va_at D vwCl (base + 45, ent (G0 D base gcf adK adV fo) sig0 45) H := hP.cell (k := 45) rfl
set_option maxRecDepth 100000 in
theorem fw_46 {D : va_G} {base : Nat} {gcf : Nat → ClassId} {adK adV : Nat → Nat} {fo : Option Nat} {H : Heap} (hP : SW (G0 D base gcf adK adV fo) base [] (Lall (G0 D base gcf adK adV fo) base) H) : va_at D vwCl (base + 46, ent (G0 D base gcf adK adV fo) sig0 46) H := hP.cell (k := 46) rfl
set_option maxRecDepth 100000 in
theorem fw_47 {D : va_G} {base : Nat} {gcf : Nat → ClassId} {adK adV : Nat → Nat} {fo : Option Nat} {H : Heap} (hP : SW (G0 D base gcf adK adV fo) base [] (Lall (G0 D base gcf adK adV fo) base) H) : va_at D vwCl (base + 47, ent (G0 D base gcf adK adV fo) sig0 47) H := arr_at (g := sig0.1 47) (hP.cell (k := 47) rfl) (by decide +kernel)
set_option maxRecDepth 100000 in
theorem fw_48 {D : va_G} {base : Nat} {gcf : Nat → ClassId} {adK adV : Nat → Nat} {fo : Option Nat} {H : Heap} (hP : SW (G0 D base gcf adK adV fo) base [] (Lall (G0 D base gcf adK adV fo) base) H) : va_at D vwCl (base + 48, ent (G0 D base gcf adK adV fo) sig0 48) H := hP.cell (k := 48) rfl
set_option maxRecDepth 100000 in
theorem fw_49 {D : va_G} {base : Nat} {gcf : Nat → ClassId} {adK adV : Nat → Nat} {fo : Option Nat} {H : Heap} (hP : SW (G0 D base gcf adK adV fo) base [] (Lall (G0 D base gcf adK adV fo) base) H) : va_at D vwCl (base + 49, ent (G0 D base gcf adK adV fo) sig0 49) H := hP.cell (k := 49) rfl
set_option maxRecDepth 100000 in
theorem fw_50 {D : va_G} {base : Nat} {gcf : Nat → ClassId} {adK adV : Nat → Nat} {fo : Option Nat} {H : Heap} (hP : SW (G0 D base gcf adK adV fo) base [] (Lall (G0 D base gcf adK adV fo) base) H) : va_at D vwCl (base + 50, ent (G0 D base gcf adK adV fo) sig0 50) H := arq_at (hP.cell (k := 50) rfl) (fun j hj => by rcases (show j = 0 ∨ j = 1 ∨ j = 2 ∨ j = 3 ∨ j = 4 by have : j < 5 := hj; omega) with rfl | rfl | rfl | rfl | rfl <;> rfl)
set_option maxRecDepth 100000 in
theorem fw_51 {D : va_G} {base : Nat} {gcf : Nat → ClassId} {adK adV : Nat → Nat} {fo : Option Nat} {H : Heap} (hP : SW (G0 D base gcf adK adV fo) base [] (Lall (G0 D base gcf adK adV fo) base) H) : va_at D vwCl (base + 51, ent (G0 D base gcf adK adV fo) sig0 51) H := arq_at (hP.cell (k := 51) rfl) (fun j hj => by rcases (show j = 0 ∨ j = 1 ∨ j = 2 ∨ j = 3 ∨ j = 4 ∨ j = 5 by have : j < 6 := hj; omega) with rfl | rfl | rfl | rfl | rfl | rfl <;> rfl)
set_option maxRecDepth 100000 in
theorem fw_52 {D : va_G} {base : Nat} {gcf : Nat → ClassId} {adK adV : Nat → Nat} {fo : Option Nat} {H : Heap} (hP : SW (G0 D base gcf adK adV fo) base [] (Lall (G0 D base gcf adK adV fo) base) H) : va_at D vwCl (base + 52, ent (G0 D base gcf adK adV fo) sig0 52) H := arr_at (g := sig0.1 52) (hP.cell (k := 52) rfl) (by decide +kernel)
set_option maxRecDepth 100000 in
theorem fw_53 {D : va_G} {base : Nat} {gcf : Nat → ClassId} {adK adV : Nat → Nat} {fo : Option Nat} {H : Heap} (hP : SW (G0 D base gcf adK adV fo) base [] (Lall (G0 D base gcf adK adV fo) base) H) : va_at D vwCl (base + 53, ent (G0 D base gcf adK adV fo) sig0 53) H := hP.cell (k := 53) rfl
set_option maxRecDepth 100000 in
theorem fw_54 {D : va_G} {base : Nat} {gcf : Nat → ClassId} {adK adV : Nat → Nat} {fo : Option Nat} {H : Heap} (hP : SW (G0 D base gcf adK adV fo) base [] (Lall (G0 D base gcf adK adV fo) base) H) : va_at D vwCl (base + 54, ent (G0 D base gcf adK adV fo) sig0 54) H := hP.cell (k := 54) rfl
set_option maxRecDepth 100000 in
theorem fw_55 {D : va_G} {base : Nat} {gcf : Nat → ClassId} {adK adV : Nat → Nat} {fo : Option Nat} {H : Heap} (hP : SW (G0 D base gcf adK adV fo) base [] (Lall (G0 D base gcf adK adV fo) base) H) : va_at D vwCl (base + 55, ent (G0 D base gcf adK adV fo) sig0 55) H := hP.cell (k := 55) rfl
set_option maxRecDepth 100000 in
theorem fw_56 {D : va_G} {base : Nat} {gcf : Nat → ClassId} {adK adV : Nat → Nat} {fo : Option Nat} {H : Heap} (hP : SW (G0 D base gcf adK adV fo) base [] (Lall (G0 D base gcf adK adV fo) base) H) : va_at D vwCl (base + 56, ent (G0 D base gcf adK adV fo) sig0 56) H := hP.cell (k := 56) rfl
set_option maxRecDepth 100000 in
theorem fw_57 {D : va_G} {base : Nat} {gcf : Nat → ClassId} {adK adV : Nat → Nat} {fo : Option Nat} {H : Heap} (hP : SW (G0 D base gcf adK adV fo) base [] (Lall (G0 D base gcf adK adV fo) base) H) : va_at D vwCl (base + 57, ent (G0 D base gcf adK adV fo) sig0 57) H := hP.cell (k := 57) rfl
set_option maxRecDepth 100000 in
theorem fw_58 {D : va_G} {base : Nat} {gcf : Nat → ClassId} {adK adV : Nat → Nat} {fo : Option Nat} {H : Heap} (hP : SW (G0 D base gcf adK adV fo) base [] (Lall (G0 D base gcf adK adV fo) base) H) : va_at D vwCl (base + 58, ent (G0 D base gcf adK adV fo) sig0 58) H := hP.cell (k := 58) rfl
set_option maxRecDepth 100000 in
theorem fw_59 {D : va_G} {base : Nat} {gcf : Nat → ClassId} {adK adV : Nat → Nat} {fo : Option Nat} {H : Heap} (hP : SW (G0 D base gcf adK adV fo) base [] (Lall (G0 D base gcf adK adV fo) base) H) : va_at D vwCl (base + 59, ent (G0 D base gcf adK adV fo) sig0 59) H := hP.cell (k := 59) rfl
set_option maxRecDepth 100000 in
theorem fw_60 {D : va_G} {base : Nat} {gcf : Nat → ClassId} {adK adV : Nat → Nat} {fo : Option Nat} {H : Heap} (hP : SW (G0 D base gcf adK adV fo) base [] (Lall (G0 D base gcf adK adV fo) base) H) : va_at D vwCl (base + 60, ent (G0 D base gcf adK adV fo) sig0 60) H := hP.cell (k := 60) rfl
set_option maxRecDepth 100000 in
theorem fw_61 {D : va_G} {base : Nat} {gcf : Nat → ClassId} {adK adV : Nat → Nat} {fo : Option Nat} {H : Heap} (hP : SW (G0 D base gcf adK adV fo) base [] (Lall (G0 D base gcf adK adV fo) base) H) : va_at D vwCl (base + 61, ent (G0 D base gcf adK adV fo) sig0 61) H := hP.cell (k := 61) rfl
set_option maxRecDepth 100000 in
theorem fw_62 {D : va_G} {base : Nat} {gcf : Nat → ClassId} {adK adV : Nat → Nat} {fo : Option Nat} {H : Heap} (hP : SW (G0 D base gcf adK adV fo) base [] (Lall (G0 D base gcf adK adV fo) base) H) : va_at D vwCl (base + 62, ent (G0 D base gcf adK adV fo) sig0 62) H := hP.cell (k := 62) rfl
set_option maxRecDepth 100000 in
theorem fw_63 {D : va_G} {base : Nat} {gcf : Nat → ClassId} {adK adV : Nat → Nat} {fo : Option Nat} {H : Heap} (hP : SW (G0 D base gcf adK adV fo) base [] (Lall (G0 D base gcf adK adV fo) base) H) : va_at D vwCl (base + 63, ent (G0 D base gcf adK adV fo) sig0 63) H := hP.cell (k := 63) rfl
set_option maxRecDepth 100000 in
theorem fw_64 {D : va_G} {base : Nat} {gcf : Nat → ClassId} {adK adV : Nat → Nat} {fo : Option Nat} {H : Heap} (hP : SW (G0 D base gcf adK adV fo) base [] (Lall (G0 D base gcf adK adV fo) base) H) : va_at D vwCl (base + 64, ent (G0 D base gcf adK adV fo) sig0 64) H := arr_at (g := sig0.1 64) (hP.cell (k := 64) rfl) (by decide +kernel)
set_option maxRecDepth 100000 in
theorem fw_65 {D : va_G} {base : Nat} {gcf : Nat → ClassId} {adK adV : Nat → Nat} {fo : Option Nat} {H : Heap} (hP : SW (G0 D base gcf adK adV fo) base [] (Lall (G0 D base gcf adK adV fo) base) H) : va_at D vwCl (base + 65, ent (G0 D base gcf adK adV fo) sig0 65) H := arr_at (g := sig0.1 65) (hP.cell (k := 65) rfl) (by decide +kernel)
set_option maxRecDepth 100000 in
theorem fw_66 {D : va_G} {base : Nat} {gcf : Nat → ClassId} {adK adV : Nat → Nat} {fo : Option Nat} {H : Heap} (hP : SW (G0 D base gcf adK adV fo) base [] (Lall (G0 D base gcf adK adV fo) base) H) : va_at D vwCl (base + 66, ent (G0 D base gcf adK adV fo) sig0 66) H := arq_at (hP.cell (k := 66) rfl) (fun j hj => by rcases (show j = 0 ∨ j = 1 ∨ j = 2 ∨ j = 3 ∨ j = 4 ∨ j = 5 by have : j < 6 := hj; omega) with rfl | rfl | rfl | rfl | rfl | rfl <;> rfl)
set_option maxRecDepth 100000 in
theorem fw_67 {D : va_G} {base : Nat} {gcf : Nat → ClassId} {adK adV : Nat → Nat} {fo : Option Nat} {H : Heap} (hP : SW (G0 D base gcf adK adV fo) base [] (Lall (G0 D base gcf adK adV fo) base) H) : va_at D vwCl (base + 67, ent (G0 D base gcf adK adV fo) sig0 67) H := arr_at (g := sig0.1 67) (hP.cell (k := 67) rfl) (by decide +kernel)
set_option maxRecDepth 100000 in
theorem fw_68 {D : va_G} {base : Nat} {gcf : Nat → ClassId} {adK adV : Nat → Nat} {fo : Option Nat} {H : Heap} (hP : SW (G0 D base gcf adK adV fo) base [] (Lall (G0 D base gcf adK adV fo) base) H) : va_at D vwCl (base + 68, ent (G0 D base gcf adK adV fo) sig0 68) H := arr_at (g := sig0.1 68) (hP.cell (k := 68) rfl) (by decide +kernel)
set_option maxRecDepth 100000 in
theorem fw_69 {D : va_G} {base : Nat} {gcf : Nat → ClassId} {adK adV : Nat → Nat} {fo : Option Nat} {H : Heap} (hP : SW (G0 D base gcf adK adV fo) base [] (Lall (G0 D base gcf adK adV fo) base) H) : va_at D vwCl (base + 69, ent (G0 D base gcf adK adV fo) sig0 69) H := arr_at (g := sig0.1 69) (hP.cell (k := 69) rfl) (by decide +kernel)
set_option maxRecDepth 100000 in
theorem fw_70 {D : va_G} {base : Nat} {gcf : Nat → ClassId} {adK adV : Nat → Nat} {fo : Option Nat} {H : Heap} (hP : SW (G0 D base gcf adK adV fo) base [] (Lall (G0 D base gcf adK adV fo) base) H) : va_at D vwCl (base + 70, ent (G0 D base gcf adK adV fo) sig0 70) H := arr_at (g := sig0.1 70) (hP.cell (k := 70) rfl) (by decide +kernel)
set_option maxRecDepth 100000 in
theorem fw_71 {D : va_G} {base : Nat} {gcf : Nat → ClassId} {adK adV : Nat → Nat} {fo : Option Nat} {H : Heap} (hP : SW (G0 D base gcf adK adV fo) base [] (Lall (G0 D base gcf adK adV fo) base) H) : va_at D vwCl (base + 71, ent (G0 D base gcf adK adV fo) sig0 71) H := arr_at (g := sig0.1 71) (hP.cell (k := 71) rfl) (by decide +kernel)
set_option maxRecDepth 100000 in
theorem fw_72 {D : va_G} {base : Nat} {gcf : Nat → ClassId} {adK adV : Nat → Nat} {fo : Option Nat} {H : Heap} (hP : SW (G0 D base gcf adK adV fo) base [] (Lall (G0 D base gcf adK adV fo) base) H) : va_at D vwCl (base + 72, ent (G0 D base gcf adK adV fo) sig0 72) H := arr_at (g := sig0.1 72) (hP.cell (k := 72) rfl) (by decide +kernel)
set_option maxRecDepth 100000 in
theorem fw_73 {D : va_G} {base : Nat} {gcf : Nat → ClassId} {adK adV : Nat → Nat} {fo : Option Nat} {H : Heap} (hP : SW (G0 D base gcf adK adV fo) base [] (Lall (G0 D base gcf adK adV fo) base) H) : va_at D vwCl (base + 73, ent (G0 D base gcf adK adV fo) sig0 73) H := arr_at (g := sig0.1 73) (hP.cell (k := 73) rfl) (by decide +kernel)
set_option maxRecDepth 100000 in
theorem fw_74 {D : va_G} {base : Nat} {gcf : Nat → ClassId} {adK adV : Nat → Nat} {fo : Option Nat} {H : Heap} (hP : SW (G0 D base gcf adK adV fo) base [] (Lall (G0 D base gcf adK adV fo) base) H) : va_at D vwCl (base + 74, ent (G0 D base gcf adK adV fo) sig0 74) H := hP.cell (k := 74) rfl
set_option maxRecDepth 100000 in
theorem fw_75 {D : va_G} {base : Nat} {gcf : Nat → ClassId} {adK adV : Nat → Nat} {fo : Option Nat} {H : Heap} (hP : SW (G0 D base gcf adK adV fo) base [] (Lall (G0 D base gcf adK adV fo) base) H) : va_at D vwCl (base + 75, ent (G0 D base gcf adK adV fo) sig0 75) H := arr_at (g := sig0.1 75) (hP.cell (k := 75) rfl) (by decide +kernel)
set_option maxRecDepth 100000 in
theorem fw_76 {D : va_G} {base : Nat} {gcf : Nat → ClassId} {adK adV : Nat → Nat} {fo : Option Nat} {H : Heap} (hP : SW (G0 D base gcf adK adV fo) base [] (Lall (G0 D base gcf adK adV fo) base) H) : va_at D vwCl (base + 76, ent (G0 D base gcf adK adV fo) sig0 76) H := hP.cell (k := 76) rfl
set_option maxRecDepth 100000 in
theorem fw_77 {D : va_G} {base : Nat} {gcf : Nat → ClassId} {adK adV : Nat → Nat} {fo : Option Nat} {H : Heap} (hP : SW (G0 D base gcf adK adV fo) base [] (Lall (G0 D base gcf adK adV fo) base) H) : va_at D vwCl (base + 77, ent (G0 D base gcf adK adV fo) sig0 77) H := arr_at (g := sig0.1 77) (hP.cell (k := 77) rfl) (by decide +kernel)
set_option maxRecDepth 100000 in
theorem fw_78 {D : va_G} {base : Nat} {gcf : Nat → ClassId} {adK adV : Nat → Nat} {fo : Option Nat} {H : Heap} (hP : SW (G0 D base gcf adK adV fo) base [] (Lall (G0 D base gcf adK adV fo) base) H) : va_at D vwCl (base + 78, ent (G0 D base gcf adK adV fo) sig0 78) H := arq_at (hP.cell (k := 78) rfl) (fun j hj => by rcases (show j = 0 ∨ j = 1 ∨ j = 2 ∨ j = 3 by have : j < 4 := hj; omega) with rfl | rfl | rfl | rfl <;> rfl)
set_option maxRecDepth 100000 in
theorem fw_79 {D : va_G} {base : Nat} {gcf : Nat → ClassId} {adK adV : Nat → Nat} {fo : Option Nat} {H : Heap} (hP : SW (G0 D base gcf adK adV fo) base [] (Lall (G0 D base gcf adK adV fo) base) H) : va_at D vwCl (base + 79, ent (G0 D base gcf adK adV fo) sig0 79) H := arq_at (hP.cell (k := 79) rfl) (fun j hj => by rcases (show j = 0 ∨ j = 1 ∨ j = 2 ∨ j = 3 by have : j < 4 := hj; omega) with rfl | rfl | rfl | rfl <;> rfl)
set_option maxRecDepth 100000 in
theorem fw_80 {D : va_G} {base : Nat} {gcf : Nat → ClassId} {adK adV : Nat → Nat} {fo : Option Nat} {H : Heap} (hP : SW (G0 D base gcf adK adV fo) base [] (Lall (G0 D base gcf adK adV fo) base) H) : va_at D vwCl (base + 80, ent (G0 D base gcf adK adV fo) sig0 80) H := hP.cell (k := 80) rfl
set_option maxRecDepth 100000 in
theorem fw_81 {D : va_G} {base : Nat} {gcf : Nat → ClassId} {adK adV : Nat → Nat} {fo : Option Nat} {H : Heap} (hP : SW (G0 D base gcf adK adV fo) base [] (Lall (G0 D base gcf adK adV fo) base) H) : va_at D vwCl (base + 81, ent (G0 D base gcf adK adV fo) sig0 81) H := arr_at (g := sig0.1 81) (hP.cell (k := 81) rfl) (by decide +kernel)
set_option maxRecDepth 100000 in
theorem fw_82 {D : va_G} {base : Nat} {gcf : Nat → ClassId} {adK adV : Nat → Nat} {fo : Option Nat} {H : Heap} (hP : SW (G0 D base gcf adK adV fo) base [] (Lall (G0 D base gcf adK adV fo) base) H) : va_at D vwCl (base + 82, ent (G0 D base gcf adK adV fo) sig0 82) H := hP.cell (k := 82) rfl
set_option maxRecDepth 100000 in
theorem fw_83 {D : va_G} {base : Nat} {gcf : Nat → ClassId} {adK adV : Nat → Nat} {fo : Option Nat} {H : Heap} (hP : SW (G0 D base gcf adK adV fo) base [] (Lall (G0 D base gcf adK adV fo) base) H) : va_at D vwCl (base + 83, ent (G0 D base gcf adK adV fo) sig0 83) H := arr_at (g := sig0.1 83) (hP.cell (k := 83) rfl) (by decide +kernel)
set_option maxRecDepth 100000 in
theorem fw_84 {D : va_G} {base : Nat} {gcf : Nat → ClassId} {adK adV : Nat → Nat} {fo : Option Nat} {H : Heap} (hP : SW (G0 D base gcf adK adV fo) base [] (Lall (G0 D base gcf adK adV fo) base) H) : va_at D vwCl (base + 84, ent (G0 D base gcf adK adV fo) sig0 84) H := hP.cell (k := 84) rfl
set_option maxRecDepth 100000 in
theorem fw_85 {D : va_G} {base : Nat} {gcf : Nat → ClassId} {adK adV : Nat → Nat} {fo : Option Nat} {H : Heap} (hP : SW (G0 D base gcf adK adV fo) base [] (Lall (G0 D base gcf adK adV fo) base) H) : va_at D vwCl (base + 85, ent (G0 D base gcf adK adV fo) sig0 85) H := arr_at (g := sig0.1 85) (hP.cell (k := 85) rfl) (by decide +kernel)
set_option maxRecDepth 100000 in
theorem fw_86 {D : va_G} {base : Nat} {gcf : Nat → ClassId} {adK adV : Nat → Nat} {fo : Option Nat} {H : Heap} (hP : SW (G0 D base gcf adK adV fo) base [] (Lall (G0 D base gcf adK adV fo) base) H) : va_at D vwCl (base + 86, ent (G0 D base gcf adK adV fo) sig0 86) H := hP.cell (k := 86) rfl
set_option maxRecDepth 100000 in
theorem fw_87 {D : va_G} {base : Nat} {gcf : Nat → ClassId} {adK adV : Nat → Nat} {fo : Option Nat} {H : Heap} (hP : SW (G0 D base gcf adK adV fo) base [] (Lall (G0 D base gcf adK adV fo) base) H) : va_at D vwCl (base + 87, ent (G0 D base gcf adK adV fo) sig0 87) H := arr_at (g := sig0.1 87) (hP.cell (k := 87) rfl) (by decide +kernel)
set_option maxRecDepth 100000 in
theorem fw_88 {D : va_G} {base : Nat} {gcf : Nat → ClassId} {adK adV : Nat → Nat} {fo : Option Nat} {H : Heap} (hP : SW (G0 D base gcf adK adV fo) base [] (Lall (G0 D base gcf adK adV fo) base) H) : va_at D vwCl (base + 88, ent (G0 D base gcf adK adV fo) sig0 88) H := hP.cell (k := 88) rfl
set_option maxRecDepth 100000 in
theorem fw_89 {D : va_G} {base : Nat} {gcf : Nat → ClassId} {adK adV : Nat → Nat} {fo : Option Nat} {H : Heap} (hP : SW (G0 D base gcf adK adV fo) base [] (Lall (G0 D base gcf adK adV fo) base) H) : va_at D vwCl (base + 89, ent (G0 D base gcf adK adV fo) sig0 89) H := arr_at (g := sig0.1 89) (hP.cell (k := 89) rfl) (by decide +kernel)
set_option maxRecDepth 100000 in
theorem fw_90 {D : va_G} {base : Nat} {gcf : Nat → ClassId} {adK adV : Nat → Nat} {fo : Option Nat} {H : Heap} (hP : SW (G0 D base gcf adK adV fo) base [] (Lall (G0 D base gcf adK adV fo) base) H) : va_at D vwCl (base + 90, ent (G0 D base gcf adK adV fo) sig0 90) H := hP.cell (k := 90) rfl
set_option maxRecDepth 100000 in
theorem fw_91 {D : va_G} {base : Nat} {gcf : Nat → ClassId} {adK adV : Nat → Nat} {fo : Option Nat} {H : Heap} (hP : SW (G0 D base gcf adK adV fo) base [] (Lall (G0 D base gcf adK adV fo) base) H) : va_at D vwCl (base + 91, ent (G0 D base gcf adK adV fo) sig0 91) H := hP.cell (k := 91) rfl
set_option maxRecDepth 100000 in
theorem fw_92 {D : va_G} {base : Nat} {gcf : Nat → ClassId} {adK adV : Nat → Nat} {fo : Option Nat} {H : Heap} (hP : SW (G0 D base gcf adK adV fo) base [] (Lall (G0 D base gcf adK adV fo) base) H) : va_at D vwCl (base + 92, ent (G0 D base gcf adK adV fo) sig0 92) H := hP.cell (k := 92) rfl
set_option maxRecDepth 100000 in
theorem fw_93 {D : va_G} {base : Nat} {gcf : Nat → ClassId} {adK adV : Nat → Nat} {fo : Option Nat} {H : Heap} (hP : SW (G0 D base gcf adK adV fo) base [] (Lall (G0 D base gcf adK adV fo) base) H) : va_at D vwCl (base + 93, ent (G0 D base gcf adK adV fo) sig0 93) H := hP.cell (k := 93) rfl
set_option maxRecDepth 100000 in
theorem fw_94 {D : va_G} {base : Nat} {gcf : Nat → ClassId} {adK adV : Nat → Nat} {fo : Option Nat} {H : Heap} (hP : SW (G0 D base gcf adK adV fo) base [] (Lall (G0 D base gcf adK adV fo) base) H) : va_at D vwCl (base + 94, ent (G0 D base gcf adK adV fo) sig0 94) H := hP.cell (k := 94) rfl
set_option maxRecDepth 100000 in
theorem fw_95 {D : va_G} {base : Nat} {gcf : Nat → ClassId} {adK adV : Nat → Nat} {fo : Option Nat} {H : Heap} (hP : SW (G0 D base gcf adK adV fo) base [] (Lall (G0 D base gcf adK adV fo) base) H) : va_at D vwCl (base + 95, ent (G0 D base gcf adK adV fo) sig0 95) H := arr_at (g := sig0.1 95) (hP.cell (k := 95) rfl) (by decide +kernel)
set_option maxRecDepth 100000 in
theorem fw_96 {D : va_G} {base : Nat} {gcf : Nat → ClassId} {adK adV : Nat → Nat} {fo : Option Nat} {H : Heap} (hP : SW (G0 D base gcf adK adV fo) base [] (Lall (G0 D base gcf adK adV fo) base) H) : va_at D vwCl (base + 96, ent (G0 D base gcf adK adV fo) sig0 96) H := arr_at (g := sig0.1 96) (hP.cell (k := 96) rfl) (by decide +kernel)
set_option maxRecDepth 100000 in
theorem fw_97 {D : va_G} {base : Nat} {gcf : Nat → ClassId} {adK adV : Nat → Nat} {fo : Option Nat} {H : Heap} (hP : SW (G0 D base gcf adK adV fo) base [] (Lall (G0 D base gcf adK adV fo) base) H) : va_at D vwCl (base + 97, ent (G0 D base gcf adK adV fo) sig0 97) H := arr_at (g := sig0.1 97) (hP.cell (k := 97) rfl) (by decide +kernel)
set_option maxRecDepth 100000 in
theorem fw_98 {D : va_G} {base : Nat} {gcf : Nat → ClassId} {adK adV : Nat → Nat} {fo : Option Nat} {H : Heap} (hP : SW (G0 D base gcf adK adV fo) base [] (Lall (G0 D base gcf adK adV fo) base) H) : va_at D vwCl (base + 98, ent (G0 D base gcf adK adV fo) sig0 98) H := arr_at (g := sig0.1 98) (hP.cell (k := 98) rfl) (by decide +kernel)
set_option maxRecDepth 100000 in
theorem fw_99 {D : va_G} {base : Nat} {gcf : Nat → ClassId} {adK adV : Nat → Nat} {fo : Option Nat} {H : Heap} (hP : SW (G0 D base gcf adK adV fo) base [] (Lall (G0 D base gcf adK adV fo) base) H) : va_at D vwCl (base + 99, ent (G0 D base gcf adK adV fo) sig0 99) H := arr_at (g := sig0.1 99) (hP.cell (k := 99) rfl) (by decide +kernel)
set_option maxRecDepth 100000 in
theorem fw_100 {D : va_G} {base : Nat} {gcf : Nat → ClassId} {adK adV : Nat → Nat} {fo : Option Nat} {H : Heap} (hP : SW (G0 D base gcf adK adV fo) base [] (Lall (G0 D base gcf adK adV fo) base) H) : va_at D vwCl (base + 100, ent (G0 D base gcf adK adV fo) sig0 100) H := arr_at (g := sig0.1 100) (hP.cell (k := 100) rfl) (by decide +kernel)
set_option maxRecDepth 100000 in
theorem fw_101 {D : va_G} {base : Nat} {gcf : Nat → ClassId} {adK adV : Nat → Nat} {fo : Option Nat} {H : Heap} (hP : SW (G0 D base gcf adK adV fo) base [] (Lall (G0 D base gcf adK adV fo) base) H) : va_at D vwCl (base + 101, ent (G0 D base gcf adK adV fo) sig0 101) H := arr_at (g := sig0.1 101) (hP.cell (k := 101) rfl) (by decide +kernel)
set_option maxRecDepth 100000 in
theorem fw_102 {D : va_G} {base : Nat} {gcf : Nat → ClassId} {adK adV : Nat → Nat} {fo : Option Nat} {H : Heap} (hP : SW (G0 D base gcf adK adV fo) base [] (Lall (G0 D base gcf adK adV fo) base) H) : va_at D vwCl (base + 102, ent (G0 D base gcf adK adV fo) sig0 102) H := arr_at (g := sig0.1 102) (hP.cell (k := 102) rfl) (by decide +kernel)
set_option maxRecDepth 100000 in
theorem fw_103 {D : va_G} {base : Nat} {gcf : Nat → ClassId} {adK adV : Nat → Nat} {fo : Option Nat} {H : Heap} (hP : SW (G0 D base gcf adK adV fo) base [] (Lall (G0 D base gcf adK adV fo) base) H) : va_at D vwCl (base + 103, ent (G0 D base gcf adK adV fo) sig0 103) H := arr_at (g := sig0.1 103) (hP.cell (k := 103) rfl) (by decide +kernel)
set_option maxRecDepth 100000 in
theorem fw_104 {D : va_G} {base : Nat} {gcf : Nat → ClassId} {adK adV : Nat → Nat} {fo : Option Nat} {H : Heap} (hP : SW (G0 D base gcf adK adV fo) base [] (Lall (G0 D base gcf adK adV fo) base) H) : va_at D vwCl (base + 104, ent (G0 D base gcf adK adV fo) sig0 104) H := arr_at (g := sig0.1 104) (hP.cell (k := 104) rfl) (by decide +kernel)
set_option maxRecDepth 100000 in
theorem fw_105 {D : va_G} {base : Nat} {gcf : Nat → ClassId} {adK adV : Nat → Nat} {fo : Option Nat} {H : Heap} (hP : SW (G0 D base gcf adK adV fo) base [] (Lall (G0 D base gcf adK adV fo) base) H) : va_at D vwCl (base + 105, ent (G0 D base gcf adK adV fo) sig0 105) H := arr_at (g := sig0.1 105) (hP.cell (k := 105) rfl) (by decide +kernel)
set_option maxRecDepth 100000 in
theorem fw_106 {D : va_G} {base : Nat} {gcf : Nat → ClassId} {adK adV : Nat → Nat} {fo : Option Nat} {H : Heap} (hP : SW (G0 D base gcf adK adV fo) base [] (Lall (G0 D base gcf adK adV fo) base) H) : va_at D vwCl (base + 106, ent (G0 D base gcf adK adV fo) sig0 106) H := arr_at (g := sig0.1 106) (hP.cell (k := 106) rfl) (by decide +kernel)
set_option maxRecDepth 100000 in
theorem fw_107 {D : va_G} {base : Nat} {gcf : Nat → ClassId} {adK adV : Nat → Nat} {fo : Option Nat} {H : Heap} (hP : SW (G0 D base gcf adK adV fo) base [] (Lall (G0 D base gcf adK adV fo) base) H) : va_at D vwCl (base + 107, ent (G0 D base gcf adK adV fo) sig0 107) H := arr_at (g := sig0.1 107) (hP.cell (k := 107) rfl) (by decide +kernel)
set_option maxRecDepth 100000 in
theorem fw_108 {D : va_G} {base : Nat} {gcf : Nat → ClassId} {adK adV : Nat → Nat} {fo : Option Nat} {H : Heap} (hP : SW (G0 D base gcf adK adV fo) base [] (Lall (G0 D base gcf adK adV fo) base) H) : va_at D vwCl (base + 108, ent (G0 D base gcf adK adV fo) sig0 108) H := arr_at (g := sig0.1 108) (hP.cell (k := 108) rfl) (by decide +kernel)
set_option maxRecDepth 100000 in
theorem fw_109 {D : va_G} {base : Nat} {gcf : Nat → ClassId} {adK adV : Nat → Nat} {fo : Option Nat} {H : Heap} (hP : SW (G0 D base gcf adK adV fo) base [] (Lall (G0 D base gcf adK adV fo) base) H) : va_at D vwCl (base + 109, ent (G0 D base gcf adK adV fo) sig0 109) H := arr_at (g := sig0.1 109) (hP.cell (k := 109) rfl) (by decide +kernel)
set_option maxRecDepth 100000 in
theorem fw_110 {D : va_G} {base : Nat} {gcf : Nat → ClassId} {adK adV : Nat → Nat} {fo : Option Nat} {H : Heap} (hP : SW (G0 D base gcf adK adV fo) base [] (Lall (G0 D base gcf adK adV fo) base) H) : va_at D vwCl (base + 110, ent (G0 D base gcf adK adV fo) sig0 110) H := arr_at (g := sig0.1 110) (hP.cell (k := 110) rfl) (by decide +kernel)
set_option maxRecDepth 100000 in
theorem fw_111 {D : va_G} {base : Nat} {gcf : Nat → ClassId} {adK adV : Nat → Nat} {fo : Option Nat} {H : Heap} (hP : SW (G0 D base gcf adK adV fo) base [] (Lall (G0 D base gcf adK adV fo) base) H) : va_at D vwCl (base + 111, ent (G0 D base gcf adK adV fo) sig0 111) H := arr_at (g := sig0.1 111) (hP.cell (k := 111) rfl) (by decide +kernel)
set_option maxRecDepth 100000 in
theorem fw_112 {D : va_G} {base : Nat} {gcf : Nat → ClassId} {adK adV : Nat → Nat} {fo : Option Nat} {H : Heap} (hP : SW (G0 D base gcf adK adV fo) base [] (Lall (G0 D base gcf adK adV fo) base) H) : va_at D vwCl (base + 112, ent (G0 D base gcf adK adV fo) sig0 112) H := arr_at (g := sig0.1 112) (hP.cell (k := 112) rfl) (by decide +kernel)
set_option maxRecDepth 100000 in
theorem fw_113 {D : va_G} {base : Nat} {gcf : Nat → ClassId} {adK adV : Nat → Nat} {fo : Option Nat} {H : Heap} (hP : SW (G0 D base gcf adK adV fo) base [] (Lall (G0 D base gcf adK adV fo) base) H) : va_at D vwCl (base + 113, ent (G0 D base gcf adK adV fo) sig0 113) H := arr_at (g := sig0.1 113) (hP.cell (k := 113) rfl) (by decide +kernel)
set_option maxRecDepth 100000 in
theorem fw_114 {D : va_G} {base : Nat} {gcf : Nat → ClassId} {adK adV : Nat → Nat} {fo : Option Nat} {H : Heap} (hP : SW (G0 D base gcf adK adV fo) base [] (Lall (G0 D base gcf adK adV fo) base) H) : va_at D vwCl (base + 114, ent (G0 D base gcf adK adV fo) sig0 114) H := arr_at (g := sig0.1 114) (hP.cell (k := 114) rfl) (by decide +kernel)
set_option maxRecDepth 100000 in
theorem fw_115 {D : va_G} {base : Nat} {gcf : Nat → ClassId} {adK adV : Nat → Nat} {fo : Option Nat} {H : Heap} (hP : SW (G0 D base gcf adK adV fo) base [] (Lall (G0 D base gcf adK adV fo) base) H) : va_at D vwCl (base + 115, ent (G0 D base gcf adK adV fo) sig0 115) H := arr_at (g := sig0.1 115) (hP.cell (k := 115) rfl) (by decide +kernel)
set_option maxRecDepth 100000 in
theorem fw_116 {D : va_G} {base : Nat} {gcf : Nat → ClassId} {adK adV : Nat → Nat} {fo : Option Nat} {H : Heap} (hP : SW (G0 D base gcf adK adV fo) base [] (Lall (G0 D base gcf adK adV fo) base) H) : va_at D vwCl (base + 116, ent (G0 D base gcf adK adV fo) sig0 116) H := arr_at (g := sig0.1 116) (hP.cell (k := 116) rfl) (by decide +kernel)
set_option maxRecDepth 100000 in
theorem fw_117 {D : va_G} {base : Nat} {gcf : Nat → ClassId} {adK adV : Nat → Nat} {fo : Option Nat} {H : Heap} (hP : SW (G0 D base gcf adK adV fo) base [] (Lall (G0 D base gcf adK adV fo) base) H) : va_at D vwCl (base + 117, ent (G0 D base gcf adK adV fo) sig0 117) H := arr_at (g := sig0.1 117) (hP.cell (k := 117) rfl) (by decide +kernel)
set_option maxRecDepth 100000 in
theorem fw_118 {D : va_G} {base : Nat} {gcf : Nat → ClassId} {adK adV : Nat → Nat} {fo : Option Nat} {H : Heap} (hP : SW (G0 D base gcf adK adV fo) base [] (Lall (G0 D base gcf adK adV fo) base) H) : va_at D vwCl (base + 118, ent (G0 D base gcf adK adV fo) sig0 118) H := arr_at (g := sig0.1 118) (hP.cell (k := 118) rfl) (by decide +kernel)
set_option maxRecDepth 100000 in
theorem fw_119 {D : va_G} {base : Nat} {gcf : Nat → ClassId} {adK adV : Nat → Nat} {fo : Option Nat} {H : Heap} (hP : SW (G0 D base gcf adK adV fo) base [] (Lall (G0 D base gcf adK adV fo) base) H) : va_at D vwCl (base + 119, ent (G0 D base gcf adK adV fo) sig0 119) H := arr_at (g := sig0.1 119) (hP.cell (k := 119) rfl) (by decide +kernel)
set_option maxRecDepth 100000 in
theorem fw_120 {D : va_G} {base : Nat} {gcf : Nat → ClassId} {adK adV : Nat → Nat} {fo : Option Nat} {H : Heap} (hP : SW (G0 D base gcf adK adV fo) base [] (Lall (G0 D base gcf adK adV fo) base) H) : va_at D vwCl (base + 120, ent (G0 D base gcf adK adV fo) sig0 120) H := hP.cell (k := 120) rfl
set_option maxRecDepth 100000 in
theorem fw_121 {D : va_G} {base : Nat} {gcf : Nat → ClassId} {adK adV : Nat → Nat} {fo : Option Nat} {H : Heap} (hP : SW (G0 D base gcf adK adV fo) base [] (Lall (G0 D base gcf adK adV fo) base) H) : va_at D vwCl (base + 121, ent (G0 D base gcf adK adV fo) sig0 121) H := arr_at (g := sig0.1 121) (hP.cell (k := 121) rfl) (by decide +kernel)
set_option maxRecDepth 100000 in
theorem fw_122 {D : va_G} {base : Nat} {gcf : Nat → ClassId} {adK adV : Nat → Nat} {fo : Option Nat} {H : Heap} (hP : SW (G0 D base gcf adK adV fo) base [] (Lall (G0 D base gcf adK adV fo) base) H) : va_at D vwCl (base + 122, ent (G0 D base gcf adK adV fo) sig0 122) H := arr_at (g := sig0.1 122) (hP.cell (k := 122) rfl) (by decide +kernel)
set_option maxRecDepth 100000 in
theorem fw_123 {D : va_G} {base : Nat} {gcf : Nat → ClassId} {adK adV : Nat → Nat} {fo : Option Nat} {H : Heap} (hP : SW (G0 D base gcf adK adV fo) base [] (Lall (G0 D base gcf adK adV fo) base) H) : va_at D vwCl (base + 123, ent (G0 D base gcf adK adV fo) sig0 123) H := arr_at (g := sig0.1 123) (hP.cell (k := 123) rfl) (by decide +kernel)
set_option maxRecDepth 100000 in
theorem fw_124 {D : va_G} {base : Nat} {gcf : Nat → ClassId} {adK adV : Nat → Nat} {fo : Option Nat} {H : Heap} (hP : SW (G0 D base gcf adK adV fo) base [] (Lall (G0 D base gcf adK adV fo) base) H) : va_at D vwCl (base + 124, ent (G0 D base gcf adK adV fo) sig0 124) H := arr_at (g := sig0.1 124) (hP.cell (k := 124) rfl) (by decide +kernel)
set_option maxRecDepth 100000 in
theorem fw_125 {D : va_G} {base : Nat} {gcf : Nat → ClassId} {adK adV : Nat → Nat} {fo : Option Nat} {H : Heap} (hP : SW (G0 D base gcf adK adV fo) base [] (Lall (G0 D base gcf adK adV fo) base) H) : va_at D vwCl (base + 125, ent (G0 D base gcf adK adV fo) sig0 125) H := arr_at (g := sig0.1 125) (hP.cell (k := 125) rfl) (by decide +kernel)
set_option maxRecDepth 100000 in
theorem fw_126 {D : va_G} {base : Nat} {gcf : Nat → ClassId} {adK adV : Nat → Nat} {fo : Option Nat} {H : Heap} (hP : SW (G0 D base gcf adK adV fo) base [] (Lall (G0 D base gcf adK adV fo) base) H) : va_at D vwCl (base + 126, ent (G0 D base gcf adK adV fo) sig0 126) H := arr_at (g := sig0.1 126) (hP.cell (k := 126) rfl) (by decide +kernel)
theorem fin_world {D : va_G} {base : Nat} {gcf : Nat → ClassId} {adK adV : Nat → Nat} {fo : Option Nat} {H : Heap} (hP : SW (G0 D base gcf adK adV fo) base [] (Lall (G0 D base gcf adK adV fo) base) H) : PW (G0 D base gcf adK adV fo) sig0 H := by
  have key : ∀ k, k < 127 → va_at D vwCl (base + k, ent (G0 D base gcf adK adV fo) sig0 k) H := by
    intro k hk
    match k, hk with
    | 0, _ => exact fw_0 hP
    | 1, _ => exact fw_1 hP
    | 2, _ => exact fw_2 hP
    | 3, _ => exact fw_3 hP
    | 4, _ => exact fw_4 hP
    | 5, _ => exact fw_5 hP
    | 6, _ => exact fw_6 hP
    | 7, _ => exact fw_7 hP
    | 8, _ => exact fw_8 hP
    | 9, _ => exact fw_9 hP
    | 10, _ => exact fw_10 hP
    | 11, _ => exact fw_11 hP
    | 12, _ => exact fw_12 hP
    | 13, _ => exact fw_13 hP
    | 14, _ => exact fw_14 hP
    | 15, _ => exact fw_15 hP
    | 16, _ => exact fw_16 hP
    | 17, _ => exact fw_17 hP
    | 18, _ => exact fw_18 hP
    | 19, _ => exact fw_19 hP
    | 20, _ => exact fw_20 hP
    | 21, _ => exact fw_21 hP
    | 22, _ => exact fw_22 hP
    | 23, _ => exact fw_23 hP
    | 24, _ => exact fw_24 hP
    | 25, _ => exact fw_25 hP
    | 26, _ => exact fw_26 hP
    | 27, _ => exact fw_27 hP
    | 28, _ => exact fw_28 hP
    | 29, _ => exact fw_29 hP
    | 30, _ => exact fw_30 hP
    | 31, _ => exact fw_31 hP
    | 32, _ => exact fw_32 hP
    | 33, _ => exact fw_33 hP
    | 34, _ => exact fw_34 hP
    | 35, _ => exact fw_35 hP
    | 36, _ => exact fw_36 hP
    | 37, _ => exact fw_37 hP
    | 38, _ => exact fw_38 hP
    | 39, _ => exact fw_39 hP
    | 40, _ => exact fw_40 hP
    | 41, _ => exact fw_41 hP
    | 42, _ => exact fw_42 hP
    | 43, _ => exact fw_43 hP
    | 44, _ => exact fw_44 hP
    | 45, _ => exact fw_45 hP
    | 46, _ => exact fw_46 hP
    | 47, _ => exact fw_47 hP
    | 48, _ => exact fw_48 hP
    | 49, _ => exact fw_49 hP
    | 50, _ => exact fw_50 hP
    | 51, _ => exact fw_51 hP
    | 52, _ => exact fw_52 hP
    | 53, _ => exact fw_53 hP
    | 54, _ => exact fw_54 hP
    | 55, _ => exact fw_55 hP
    | 56, _ => exact fw_56 hP
    | 57, _ => exact fw_57 hP
    | 58, _ => exact fw_58 hP
    | 59, _ => exact fw_59 hP
    | 60, _ => exact fw_60 hP
    | 61, _ => exact fw_61 hP
    | 62, _ => exact fw_62 hP
    | 63, _ => exact fw_63 hP
    | 64, _ => exact fw_64 hP
    | 65, _ => exact fw_65 hP
    | 66, _ => exact fw_66 hP
    | 67, _ => exact fw_67 hP
    | 68, _ => exact fw_68 hP
    | 69, _ => exact fw_69 hP
    | 70, _ => exact fw_70 hP
    | 71, _ => exact fw_71 hP
    | 72, _ => exact fw_72 hP
    | 73, _ => exact fw_73 hP
    | 74, _ => exact fw_74 hP
    | 75, _ => exact fw_75 hP
    | 76, _ => exact fw_76 hP
    | 77, _ => exact fw_77 hP
    | 78, _ => exact fw_78 hP
    | 79, _ => exact fw_79 hP
    | 80, _ => exact fw_80 hP
    | 81, _ => exact fw_81 hP
    | 82, _ => exact fw_82 hP
    | 83, _ => exact fw_83 hP
    | 84, _ => exact fw_84 hP
    | 85, _ => exact fw_85 hP
    | 86, _ => exact fw_86 hP
    | 87, _ => exact fw_87 hP
    | 88, _ => exact fw_88 hP
    | 89, _ => exact fw_89 hP
    | 90, _ => exact fw_90 hP
    | 91, _ => exact fw_91 hP
    | 92, _ => exact fw_92 hP
    | 93, _ => exact fw_93 hP
    | 94, _ => exact fw_94 hP
    | 95, _ => exact fw_95 hP
    | 96, _ => exact fw_96 hP
    | 97, _ => exact fw_97 hP
    | 98, _ => exact fw_98 hP
    | 99, _ => exact fw_99 hP
    | 100, _ => exact fw_100 hP
    | 101, _ => exact fw_101 hP
    | 102, _ => exact fw_102 hP
    | 103, _ => exact fw_103 hP
    | 104, _ => exact fw_104 hP
    | 105, _ => exact fw_105 hP
    | 106, _ => exact fw_106 hP
    | 107, _ => exact fw_107 hP
    | 108, _ => exact fw_108 hP
    | 109, _ => exact fw_109 hP
    | 110, _ => exact fw_110 hP
    | 111, _ => exact fw_111 hP
    | 112, _ => exact fw_112 hP
    | 113, _ => exact fw_113 hP
    | 114, _ => exact fw_114 hP
    | 115, _ => exact fw_115 hP
    | 116, _ => exact fw_116 hP
    | 117, _ => exact fw_117 hP
    | 118, _ => exact fw_118 hP
    | 119, _ => exact fw_119 hP
    | 120, _ => exact fw_120 hP
    | 121, _ => exact fw_121 hP
    | 122, _ => exact fw_122 hP
    | 123, _ => exact fw_123 hP
    | 124, _ => exact fw_124 hP
    | 125, _ => exact fw_125 hP
    | 126, _ => exact fw_126 hP
    | k + 127, hk => exact absurd hk (by omega)
  intro k q hq
  have hk : k < NC := by
    have := (List.getElem?_eq_some_iff.mp hq).1
    simpa [wl] using this
  rw [wl_at hk] at hq
  cases hq
  exact key k hk
