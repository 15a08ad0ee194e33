/-! the choices -/
theorem qs_id (q : HQ) (f i : Nat) : qs q f i (q.1 f i) = q := by
  unfold qs
  refine Prod.ext ?_ rfl
  funext g j
  show (if g = f ∧ j = i then q.1 f i else q.1 g j) = q.1 g j
  by_cases e : g = f ∧ j = i
  · rw [if_pos e, e.1, e.2]
  · rw [if_neg e]
theorem qs_qs (q : HQ) (f i v w : Nat) : qs (qs q f i v) f i w = qs q f i w := by
  unfold qs
  refine Prod.ext ?_ rfl
  funext g j
  show (if g = f ∧ j = i then w else if g = f ∧ j = i then v else q.1 g j) = if g = f ∧ j = i then w else q.1 g j
  by_cases e : g = f ∧ j = i
  · rw [if_pos e, if_pos e]
  · rw [if_neg e, if_neg e, if_neg e]
def bE (x : Nat) : Int32 := if x = 9999 then -nI 3 else nI x
def weigh (x : Nat × Nat) (c p : Nat) : Nat × Nat := if x.1 = 9999 then (c, p) else if p < x.2 then (c, p) else x
def bestL (c p ch : Nat → Nat) : Nat → Nat → Nat × Nat → Nat × Nat
  | 0, _, x => x
  | d + 1, i, x => bestL c p ch d (i + 1) (if c i = 1 then weigh x (ch i) (p i) else x)
def bestG (p : Nat → Nat) : Nat → Nat → Nat × Nat → Nat × Nat
  | 0, _, x => x
  | d + 1, i, x => bestG p d (i + 1) (if x.2 < p i then (i, p i) else x)
def fin (q : HQ) (s l : Nat) : HQ := (run q s l).2.1
section
variable {q : HQ} {σ : Mem} {h o b v l s : Nat}
theorem bE_t {x : Nat} (h : x = 9999) : bE x = -nI 3 := if_pos h
theorem bE_f {x : Nat} (h : x < 9999 ∨ 9999 < x) : bE x = nI x := if_neg (by omega)
theorem bestL_add (c p ch : Nat → Nat) : ∀ (a b i : Nat) (x : Nat × Nat), bestL c p ch (a + b) i x = bestL c p ch b (i + a) (bestL c p ch a i x) := by
  intro a
  induction a with
  | zero => intro b i x; rw [Nat.zero_add]; rfl
  | succ a ih =>
    intro b i x
    have : a + 1 + b = (a + b) + 1 := by omega
    rw [this]
    show bestL c p ch (a + b) (i + 1) _ = bestL c p ch b (i + (a + 1)) (bestL c p ch a (i + 1) _)
    rw [ih, Nat.add_assoc, Nat.add_comm 1 a]
theorem CH_seta (ok : q.Okl) (ob : q.Okb) (hb : b < q.m) (C : CH h q σ) : CH h (qs q 8 b v) (pI σ (h + 9 + b) 1 (nI v)) := by
  have hn := ok.1
  have hm := ob.1
  obtain ⟨cs, cd, cl, cb⟩ := C
  refine ⟨CHs_c cs ⟨rfl, rfl, rfl, rfl, rfl, rfl, rfl, rfl, rfl⟩ (by intros; simp (disch := omega) only [gI_ne, gI_eq]), CHd_c cd (fun _ => rfl) (by intros; simp (disch := omega) only [gI_ne, gI_eq]), CHl_c cl hn rfl (fun _ => ⟨rfl, rfl, rfl, rfl, rfl⟩) (by intros; simp (disch := omega) only [gI_ne, gI_eq]), fun i hi => ?_⟩
  have hi : i < q.m := hi
  obtain ⟨w1, w2, w3, w4⟩ := cb i hi
  by_cases e : i = b
  · simp (disch := omega) only [n_qs, n_qt, wax_qs, wax_qt, worth_qs, worth_qt, sold_qs, sold_qt, price_qs, price_qt, buyer_qs, buyer_qt, m_qs, m_qt, kind_qs, kind_qt, a_qs, a_qt, val_qs, val_qt, purse_qs, purse_qt, dr_qs, dr_qt, step_qs, step_qt, lit_qs, lit_qt, tick_qs, tick_qt, burnt_qs, burnt_qt, high_qs, high_qt, holder_qs, holder_qt, z_qs, gI_eq, gI_ne, gL_pI, gI_pL]; exact ⟨w1, trivial, w3, w4⟩
  · simp (disch := omega) only [n_qs, n_qt, wax_qs, wax_qt, worth_qs, worth_qt, sold_qs, sold_qt, price_qs, price_qt, buyer_qs, buyer_qt, m_qs, m_qt, kind_qs, kind_qt, a_qs, a_qt, val_qs, val_qt, purse_qs, purse_qt, dr_qs, dr_qt, step_qs, step_qt, lit_qs, lit_qt, tick_qs, tick_qt, burnt_qs, burnt_qt, high_qs, high_qt, holder_qs, holder_qt, z_qs, gI_eq, gI_ne, gL_pI, gI_pL]; exact ⟨w1, w2, w3, w4⟩
theorem CH_setv (ok : q.Okl) (ob : q.Okb) (hb : b < q.m) (C : CH h q σ) : CH h (qs q 9 b v) (pI σ (h + 9 + b) 2 (nI v)) := by
  have hn := ok.1
  have hm := ob.1
  obtain ⟨cs, cd, cl, cb⟩ := C
  refine ⟨CHs_c cs ⟨rfl, rfl, rfl, rfl, rfl, rfl, rfl, rfl, rfl⟩ (by intros; simp (disch := omega) only [gI_ne, gI_eq]), CHd_c cd (fun _ => rfl) (by intros; simp (disch := omega) only [gI_ne, gI_eq]), CHl_c cl hn rfl (fun _ => ⟨rfl, rfl, rfl, rfl, rfl⟩) (by intros; simp (disch := omega) only [gI_ne, gI_eq]), fun i hi => ?_⟩
  have hi : i < q.m := hi
  obtain ⟨w1, w2, w3, w4⟩ := cb i hi
  by_cases e : i = b
  · simp (disch := omega) only [n_qs, n_qt, wax_qs, wax_qt, worth_qs, worth_qt, sold_qs, sold_qt, price_qs, price_qt, buyer_qs, buyer_qt, m_qs, m_qt, kind_qs, kind_qt, a_qs, a_qt, val_qs, val_qt, purse_qs, purse_qt, dr_qs, dr_qt, step_qs, step_qt, lit_qs, lit_qt, tick_qs, tick_qt, burnt_qs, burnt_qt, high_qs, high_qt, holder_qs, holder_qt, z_qs, gI_eq, gI_ne, gL_pI, gI_pL]; exact ⟨w1, w2, trivial, w4⟩
  · simp (disch := omega) only [n_qs, n_qt, wax_qs, wax_qt, worth_qs, worth_qt, sold_qs, sold_qt, price_qs, price_qt, buyer_qs, buyer_qt, m_qs, m_qt, kind_qs, kind_qt, a_qs, a_qt, val_qs, val_qt, purse_qs, purse_qt, dr_qs, dr_qt, step_qs, step_qt, lit_qs, lit_qt, tick_qs, tick_qt, burnt_qs, burnt_qt, high_qs, high_qt, holder_qs, holder_qt, z_qs, gI_eq, gI_ne, gL_pI, gI_pL]; exact ⟨w1, w2, w3, w4⟩
theorem CH_setd {p : Nat} (ok : q.Okl) (ob : q.Okb) (C : CH h q σ) : CH h (qs q 11 p v) (pI σ (h + 3) p (nI v)) := by
  have hn := ok.1
  have hm := ob.1
  obtain ⟨cs, cd, cl, cb⟩ := C
  refine ⟨CHs_c cs ⟨rfl, rfl, rfl, rfl, rfl, rfl, rfl, rfl, rfl⟩ (by intros; simp (disch := omega) only [gI_ne, gI_eq]), fun i hi => ?_, CHl_c cl hn rfl (fun _ => ⟨rfl, rfl, rfl, rfl, rfl⟩) (by intros; simp (disch := omega) only [gI_ne, gI_eq]), CHb_c cb hm rfl (fun _ => ⟨rfl, rfl, rfl, rfl⟩) (by intros; simp (disch := omega) only [gI_ne, gI_eq])⟩
  by_cases e : i = p
  · simp (disch := omega) only [n_qs, n_qt, wax_qs, wax_qt, worth_qs, worth_qt, sold_qs, sold_qt, price_qs, price_qt, buyer_qs, buyer_qt, m_qs, m_qt, kind_qs, kind_qt, a_qs, a_qt, val_qs, val_qt, purse_qs, purse_qt, dr_qs, dr_qt, step_qs, step_qt, lit_qs, lit_qt, tick_qs, tick_qt, burnt_qs, burnt_qt, high_qs, high_qt, holder_qs, holder_qt, z_qs, gI_eq, gI_ne, gL_pI, gI_pL]
  · simp (disch := omega) only [n_qs, n_qt, wax_qs, wax_qt, worth_qs, worth_qt, sold_qs, sold_qt, price_qs, price_qt, buyer_qs, buyer_qt, m_qs, m_qt, kind_qs, kind_qt, a_qs, a_qt, val_qs, val_qt, purse_qs, purse_qt, dr_qs, dr_qt, step_qs, step_qt, lit_qs, lit_qt, tick_qs, tick_qt, burnt_qs, burnt_qt, high_qs, high_qt, holder_qs, holder_qt, z_qs, gI_eq, gI_ne, gL_pI, gI_pL]; exact cd i hi
theorem CH_setw (ok : q.Okl) (ob : q.Okb) (hl : l < q.n) (C : CH h q σ) : CH h (qs q 1 l v) (pI σ (h + 4 + l) 0 (nI v)) := by
  have hn := ok.1
  have hm := ob.1
  obtain ⟨cs, cd, cl, cb⟩ := C
  refine ⟨CHs_c cs ⟨rfl, rfl, rfl, rfl, rfl, rfl, rfl, rfl, rfl⟩ (by intros; simp (disch := omega) only [gI_ne, gI_eq]), CHd_c cd (fun _ => rfl) (by intros; simp (disch := omega) only [gI_ne, gI_eq]), ⟨fun i hi => ?_, fun i hi => ?_⟩, CHb_c cb hm rfl (fun _ => ⟨rfl, rfl, rfl, rfl⟩) (by intros; simp (disch := omega) only [gI_ne, gI_eq])⟩
  · have hi : i < q.n := hi
    obtain ⟨w1, w2, w3, w4, w5⟩ := cl.1 i hi
    by_cases e : i = l
    · simp (disch := omega) only [n_qs, n_qt, wax_qs, wax_qt, worth_qs, worth_qt, sold_qs, sold_qt, price_qs, price_qt, buyer_qs, buyer_qt, m_qs, m_qt, kind_qs, kind_qt, a_qs, a_qt, val_qs, val_qt, purse_qs, purse_qt, dr_qs, dr_qt, step_qs, step_qt, lit_qs, lit_qt, tick_qs, tick_qt, burnt_qs, burnt_qt, high_qs, high_qt, holder_qs, holder_qt, z_qs, gI_eq, gI_ne, gL_pI, gI_pL]; exact ⟨trivial, w2, w3, w4, w5⟩
    · simp (disch := omega) only [n_qs, n_qt, wax_qs, wax_qt, worth_qs, worth_qt, sold_qs, sold_qt, price_qs, price_qt, buyer_qs, buyer_qt, m_qs, m_qt, kind_qs, kind_qt, a_qs, a_qt, val_qs, val_qt, purse_qs, purse_qt, dr_qs, dr_qt, step_qs, step_qt, lit_qs, lit_qt, tick_qs, tick_qt, burnt_qs, burnt_qt, high_qs, high_qt, holder_qs, holder_qt, z_qs, gI_eq, gI_ne, gL_pI, gI_pL]; exact ⟨w1, w2, w3, w4, w5⟩
  · simp (disch := omega) only [gI_eq, gI_ne, gL_pI, gI_pL]; exact cl.2 i hi
theorem MH_seta (hb : b < q.m) (M : MH o q σ) : MH o (qs q 8 b v) (pI σ 102 b (nI v)) := by
  obtain ⟨ms, mr, md, ml, mb⟩ := M
  refine ⟨MHs_c ms ⟨rfl, rfl, rfl, rfl⟩ ⟨(by intros; simp (disch := omega) only [gI_ne, gI_eq]), (by intros; simp (disch := omega) only [gI_ne, gI_eq]), (by intros; simp (disch := omega) only [gI_ne, gI_eq]), (by intros; simp (disch := omega) only [gI_ne, gI_eq])⟩, MHr_c mr rfl ⟨rfl, rfl, rfl, rfl, rfl⟩ (fun _ => rfl) (by intros; simp (disch := omega) only [gI_ne, gI_eq]), MHd_c md (fun _ => rfl) (by intros; simp (disch := omega) only [gI_ne, gI_eq]), MHl_c ml rfl (fun _ => ⟨rfl, rfl, rfl, rfl, rfl⟩) (by intros; simp (disch := omega) only [gI_ne, gI_eq]), fun i hi => ?_⟩
  have hi : i < q.m := hi
  obtain ⟨w1, w2, w3⟩ := mb i hi
  by_cases e : i = b
  · simp (disch := omega) only [n_qs, n_qt, wax_qs, wax_qt, worth_qs, worth_qt, sold_qs, sold_qt, price_qs, price_qt, buyer_qs, buyer_qt, m_qs, m_qt, kind_qs, kind_qt, a_qs, a_qt, val_qs, val_qt, purse_qs, purse_qt, dr_qs, dr_qt, step_qs, step_qt, lit_qs, lit_qt, tick_qs, tick_qt, burnt_qs, burnt_qt, high_qs, high_qt, holder_qs, holder_qt, z_qs, gI_eq, gI_ne, gL_pI, gI_pL]; exact ⟨w1, trivial, w3⟩
  · simp (disch := omega) only [n_qs, n_qt, wax_qs, wax_qt, worth_qs, worth_qt, sold_qs, sold_qt, price_qs, price_qt, buyer_qs, buyer_qt, m_qs, m_qt, kind_qs, kind_qt, a_qs, a_qt, val_qs, val_qt, purse_qs, purse_qt, dr_qs, dr_qt, step_qs, step_qt, lit_qs, lit_qt, tick_qs, tick_qt, burnt_qs, burnt_qt, high_qs, high_qt, holder_qs, holder_qt, z_qs, gI_eq, gI_ne, gL_pI, gI_pL]; exact ⟨w1, w2, w3⟩
theorem MH_setd {p : Nat} (M : MH o q σ) : MH o (qs q 11 p v) (pI σ 100 p (nI v)) := by
  obtain ⟨ms, mr, md, ml, mb⟩ := M
  refine ⟨MHs_c ms ⟨rfl, rfl, rfl, rfl⟩ ⟨(by intros; simp (disch := omega) only [gI_ne, gI_eq]), (by intros; simp (disch := omega) only [gI_ne, gI_eq]), (by intros; simp (disch := omega) only [gI_ne, gI_eq]), (by intros; simp (disch := omega) only [gI_ne, gI_eq])⟩, MHr_c mr rfl ⟨rfl, rfl, rfl, rfl, rfl⟩ (fun _ => rfl) (by intros; simp (disch := omega) only [gI_ne, gI_eq]), fun i hi => ?_, MHl_c ml rfl (fun _ => ⟨rfl, rfl, rfl, rfl, rfl⟩) (by intros; simp (disch := omega) only [gI_ne, gI_eq]), MHb_c mb rfl (fun _ => ⟨rfl, rfl, rfl⟩) (by intros; simp (disch := omega) only [gI_ne, gI_eq])⟩
  by_cases e : i = p
  · simp (disch := omega) only [n_qs, n_qt, wax_qs, wax_qt, worth_qs, worth_qt, sold_qs, sold_qt, price_qs, price_qt, buyer_qs, buyer_qt, m_qs, m_qt, kind_qs, kind_qt, a_qs, a_qt, val_qs, val_qt, purse_qs, purse_qt, dr_qs, dr_qt, step_qs, step_qt, lit_qs, lit_qt, tick_qs, tick_qt, burnt_qs, burnt_qt, high_qs, high_qt, holder_qs, holder_qt, z_qs, gI_eq, gI_ne, gL_pI, gI_pL]
  · simp (disch := omega) only [n_qs, n_qt, wax_qs, wax_qt, worth_qs, worth_qt, sold_qs, sold_qt, price_qs, price_qt, buyer_qs, buyer_qt, m_qs, m_qt, kind_qs, kind_qt, a_qs, a_qt, val_qs, val_qt, purse_qs, purse_qt, dr_qs, dr_qt, step_qs, step_qt, lit_qs, lit_qt, tick_qs, tick_qt, burnt_qs, burnt_qt, high_qs, high_qt, holder_qs, holder_qt, z_qs, gI_eq, gI_ne, gL_pI, gI_pL]; exact md i hi
theorem MH_setw (hl : l < q.n) (M : MH o q σ) : MH o (qs q 1 l v) (pI σ 95 l (nI v)) := by
  obtain ⟨ms, mr, md, ml, mb⟩ := M
  refine ⟨MHs_c ms ⟨rfl, rfl, rfl, rfl⟩ ⟨(by intros; simp (disch := omega) only [gI_ne, gI_eq]), (by intros; simp (disch := omega) only [gI_ne, gI_eq]), (by intros; simp (disch := omega) only [gI_ne, gI_eq]), (by intros; simp (disch := omega) only [gI_ne, gI_eq])⟩, MHr_c mr rfl ⟨rfl, rfl, rfl, rfl, rfl⟩ (fun _ => rfl) (by intros; simp (disch := omega) only [gI_ne, gI_eq]), MHd_c md (fun _ => rfl) (by intros; simp (disch := omega) only [gI_ne, gI_eq]), fun i hi => ?_, MHb_c mb rfl (fun _ => ⟨rfl, rfl, rfl⟩) (by intros; simp (disch := omega) only [gI_ne, gI_eq])⟩
  have hi : i < q.n := hi
  obtain ⟨w1, w2, w3, w4⟩ := ml i hi
  by_cases e : i = l
  · simp (disch := omega) only [n_qs, n_qt, wax_qs, wax_qt, worth_qs, worth_qt, sold_qs, sold_qt, price_qs, price_qt, buyer_qs, buyer_qt, m_qs, m_qt, kind_qs, kind_qt, a_qs, a_qt, val_qs, val_qt, purse_qs, purse_qt, dr_qs, dr_qt, step_qs, step_qt, lit_qs, lit_qt, tick_qs, tick_qt, burnt_qs, burnt_qt, high_qs, high_qt, holder_qs, holder_qt, z_qs, gI_eq, gI_ne, gL_pI, gI_pL]; exact ⟨trivial, w2, w3, w4⟩
  · simp (disch := omega) only [n_qs, n_qt, wax_qs, wax_qt, worth_qs, worth_qt, sold_qs, sold_qt, price_qs, price_qt, buyer_qs, buyer_qt, m_qs, m_qt, kind_qs, kind_qt, a_qs, a_qt, val_qs, val_qt, purse_qs, purse_qt, dr_qs, dr_qt, step_qs, step_qt, lit_qs, lit_qt, tick_qs, tick_qt, burnt_qs, burnt_qt, high_qs, high_qt, holder_qs, holder_qt, z_qs, gI_eq, gI_ne, gL_pI, gI_pL]; exact ⟨w1, w2, w3, w4⟩
theorem oka (ok : q.Okx) (hv : v ≤ 9) : (qs q 8 b v).Okx := by
  obtain ⟨ol, ⟨hm, hob⟩, o1, o2, o6, o7⟩ := ok
  refine ⟨ol, ⟨hm, fun i hi => ?_⟩, o1, o2, o6, o7⟩
  have hi : i < q.m := hi
  have := hob i hi
  by_cases e : i = b
  · simp (disch := omega) only [n_qs, n_qt, wax_qs, wax_qt, worth_qs, worth_qt, sold_qs, sold_qt, price_qs, price_qt, buyer_qs, buyer_qt, m_qs, m_qt, kind_qs, kind_qt, a_qs, a_qt, val_qs, val_qt, purse_qs, purse_qt, dr_qs, dr_qt, step_qs, step_qt, lit_qs, lit_qt, tick_qs, tick_qt, burnt_qs, burnt_qt, high_qs, high_qt, holder_qs, holder_qt, z_qs]; exact ⟨this.1, hv, this.2.2⟩
  · simp (disch := omega) only [n_qs, n_qt, wax_qs, wax_qt, worth_qs, worth_qt, sold_qs, sold_qt, price_qs, price_qt, buyer_qs, buyer_qt, m_qs, m_qt, kind_qs, kind_qt, a_qs, a_qt, val_qs, val_qt, purse_qs, purse_qt, dr_qs, dr_qt, step_qs, step_qt, lit_qs, lit_qt, tick_qs, tick_qt, burnt_qs, burnt_qt, high_qs, high_qt, holder_qs, holder_qt, z_qs]; exact this
theorem okv (ok : q.Okx) (hv : v ≤ 999) : (qs q 9 b v).Okx := by
  obtain ⟨ol, ⟨hm, hob⟩, o1, o2, o6, o7⟩ := ok
  refine ⟨ol, ⟨hm, fun i hi => ?_⟩, o1, o2, o6, o7⟩
  have hi : i < q.m := hi
  have := hob i hi
  by_cases e : i = b
  · simp (disch := omega) only [n_qs, n_qt, wax_qs, wax_qt, worth_qs, worth_qt, sold_qs, sold_qt, price_qs, price_qt, buyer_qs, buyer_qt, m_qs, m_qt, kind_qs, kind_qt, a_qs, a_qt, val_qs, val_qt, purse_qs, purse_qt, dr_qs, dr_qt, step_qs, step_qt, lit_qs, lit_qt, tick_qs, tick_qt, burnt_qs, burnt_qt, high_qs, high_qt, holder_qs, holder_qt, z_qs]; exact ⟨this.1, this.2.1, hv, this.2.2.2⟩
  · simp (disch := omega) only [n_qs, n_qt, wax_qs, wax_qt, worth_qs, worth_qt, sold_qs, sold_qt, price_qs, price_qt, buyer_qs, buyer_qt, m_qs, m_qt, kind_qs, kind_qt, a_qs, a_qt, val_qs, val_qt, purse_qs, purse_qt, dr_qs, dr_qt, step_qs, step_qt, lit_qs, lit_qt, tick_qs, tick_qt, burnt_qs, burnt_qt, high_qs, high_qt, holder_qs, holder_qt, z_qs]; exact this
theorem okd {p : Nat} (ok : q.Okx) (hv : v ≤ 3) : (qs q 11 p v).Okx := by
  obtain ⟨ol, ob, o1, o2, o6, o7⟩ := ok
  refine ⟨ol, ob, fun i hi => ?_, o2, o6, o7⟩
  by_cases e : i = p
  · simp (disch := omega) only [n_qs, n_qt, wax_qs, wax_qt, worth_qs, worth_qt, sold_qs, sold_qt, price_qs, price_qt, buyer_qs, buyer_qt, m_qs, m_qt, kind_qs, kind_qt, a_qs, a_qt, val_qs, val_qt, purse_qs, purse_qt, dr_qs, dr_qt, step_qs, step_qt, lit_qs, lit_qt, tick_qs, tick_qt, burnt_qs, burnt_qt, high_qs, high_qt, holder_qs, holder_qt, z_qs]; exact hv
  · simp (disch := omega) only [n_qs, n_qt, wax_qs, wax_qt, worth_qs, worth_qt, sold_qs, sold_qt, price_qs, price_qt, buyer_qs, buyer_qt, m_qs, m_qt, kind_qs, kind_qt, a_qs, a_qt, val_qs, val_qt, purse_qs, purse_qt, dr_qs, dr_qt, step_qs, step_qt, lit_qs, lit_qt, tick_qs, tick_qt, burnt_qs, burnt_qt, high_qs, high_qt, holder_qs, holder_qt, z_qs]; exact o1 i hi
theorem okw (ok : q.Okx) (hv : 1 ≤ v) (hv2 : v ≤ 60) : (qs q 1 l v).Okx := by
  obtain ⟨⟨hn, hol⟩, ob, o1, o2, o6, o7⟩ := ok
  refine ⟨⟨hn, fun i hi => ?_⟩, ob, o1, o2, o6, o7⟩
  have hi : i < q.n := hi
  have := hol i hi
  by_cases e : i = l
  · simp (disch := omega) only [n_qs, n_qt, wax_qs, wax_qt, worth_qs, worth_qt, sold_qs, sold_qt, price_qs, price_qt, buyer_qs, buyer_qt, m_qs, m_qt, kind_qs, kind_qt, a_qs, a_qt, val_qs, val_qt, purse_qs, purse_qt, dr_qs, dr_qt, step_qs, step_qt, lit_qs, lit_qt, tick_qs, tick_qt, burnt_qs, burnt_qt, high_qs, high_qt, holder_qs, holder_qt, z_qs]; exact ⟨⟨hv, hv2⟩, this.2⟩
  · simp (disch := omega) only [n_qs, n_qt, wax_qs, wax_qt, worth_qs, worth_qt, sold_qs, sold_qt, price_qs, price_qt, buyer_qs, buyer_qt, m_qs, m_qt, kind_qs, kind_qt, a_qs, a_qt, val_qs, val_qt, purse_qs, purse_qt, dr_qs, dr_qt, step_qs, step_qt, lit_qs, lit_qt, tick_qs, tick_qt, burnt_qs, burnt_qt, high_qs, high_qt, holder_qs, holder_qt, z_qs]; exact this
theorem fin_ok (ok : q.Okx) (hl : l < q.n) : (fin q s l).high ≤ 9999 ∧ ((fin q s l).holder < q.m ∨ (fin q s l).holder = 9) ∧ (fin q s l).Okl ∧ (fin q s l).lit = l ∧ (fin q s l).n = q.n := by
  have R := run_ok (s := s) ok hl
  refine ⟨R.1.2.2.2.2.1, ?_, R.1.1, R.2.2.2.2.1, R.2.2.2.2.2.1⟩
  have := R.1.2.2.2.2.2
  have hm := R.2.2.2.2.2.2
  show (run q s l).2.1.holder < q.m ∨ (run q s l).2.1.holder = 9
  omega
/-- the stage becomes the hall -/
theorem cl_copy49 (ok : q.Okx) (C : CH 1 q σ) : ∃ σ', f_X2_copy 49 1 σ = some σ' ∧ CH 49 q σ' ∧ Fr (FH 49) σ σ' := by
  obtain ⟨σ1, a1, a2, a3⟩ := cl_copy (h := 1) (h' := 49) (.inl rfl) (.inr (.inr (.inr rfl))) (by omega) C.2.2.1.2
  exact ⟨σ1, a1, Cp_CH ok.1 ok.2.1 a2 C, a3⟩
/-- and its candle is lit -/
theorem cl_set49 (ok : q.Okx) (hl : l < q.n) (C : CH 1 q σ) : ∃ σ', f_X8_setStage 48 1 (nI l) σ = some σ' ∧ CH 49 (lits q l) σ' ∧ Fr (FH 49) σ σ' := by
  have hn := ok.1.1
  obtain ⟨σ1, a1, a2, a3⟩ := cl_copy49 ok C
  refine ⟨alight 49 l σ1, ?_, CH_lit ok a2 (by omega), Fr_tr a3 (alight_fr l σ1)⟩
  simp only [f_X8_setStage, Nat.reduceAdd, a1, bd1_s, cl_alight]
theorem CH1_fr {σ' : Mem} (ok : q.Okx) (C : CH 1 q σ) (F : Fr (FH 49) σ σ') : CH 1 q σ' := by
  have e : ∀ k i, 1 ≤ k → k < 1 + 15 → gI σ' k i = gI σ k i := fun k i h1 h2 => F.1 k i (by unfold FH; omega)
  exact ⟨CHs_fr C.1 (fun i => e _ _ (by omega) (by omega)), CHd_fr C.2.1 (fun i => e _ _ (by omega) (by omega)), CHl_fr ok.1.1 C.2.2.1 (fun j i hj => e _ _ (by omega) (by omega)), CHb_fr ok.2.1.1 C.2.2.2 (fun j i hj => e _ _ (by omega) (by omega))⟩
/-- a trial on the stage as it is -/
theorem cl_trial (ok : q.Okx) (hl : l < q.n) (C : CH 49 (lits q l) σ) : ∃ σ', f_X2_goTicks_IN 49 (nI 60) σ = some (nI (run q 9 l).1, σ') ∧ f_X8_winner 48 (nI l) σ' = some (cE (fin q 9 l).holder, σ') ∧ f_X8_price 48 (nI l) σ' = some (nI (fin q 9 l).high, σ') ∧ Fr (FH 49) σ σ' := by
  obtain ⟨σ1, a1, a2, a3⟩ := cl_stageA ok hl C
  have f := fin_ok (s := 9) ok hl
  have w := cl_wp (fin q 9 l) f.2.2.1 (by rw [f.2.2.2.2]; exact hl) f.2.2.2.1 a2
  exact ⟨σ1, a1, w.1, w.2, a3⟩
theorem unsold_ok (hn : q.n ≤ 5) (hl : l < q.n) (c1 : gI σ 1 1 = nI q.n) (cl : CHl 1 q σ) (s0 : q.sold l = 0) : f_X2_unsoldAt 1 (nI l) σ = some (some (5 + l), σ) := by
  have w := (cl.1 l hl).2.2.1
  simp only [Nat.reduceAdd] at w
  simp (disch := omega) only [f_X2_unsoldAt, bd1_s, bd2_s, onrN, onrS, grd_t, grd_T, Nat.reduceAdd, lotAt_ok (.inl rfl) c1 hn hl, grd_lot (.inl rfl), w, s0, nI_lit, if_true]
theorem unsold_no (hn : q.n ≤ 5) (hl : l < q.n) (c1 : gI σ 1 1 = nI q.n) (cl : CHl 1 q σ) (s1 : q.sold l = 1) : f_X2_unsoldAt 1 (nI l) σ = some (none, σ) := by
  have w := (cl.1 l hl).2.2.1
  simp only [Nat.reduceAdd] at w
  simp (disch := omega) only [f_X2_unsoldAt, bd1_s, bd2_s, onrN, onrS, grd_t, grd_T, Nat.reduceAdd, lotAt_ok (.inl rfl) c1 hn hl, grd_lot (.inl rfl), w, s1, nI_lit, nI10, if_false]
theorem unsold_bad {x : Int32} {n : Nat} (c1 : gI σ 1 1 = nI n) (b : Bad x n) : f_X2_unsoldAt 1 x σ = some (none, σ) := by
  simp only [f_X2_unsoldAt, lotAt_no c1 b, bd2_s, onrN]
theorem free_ok (hn : q.n ≤ 5) (hl : l < q.n) (m0 : gI σ 94 0 = nI q.n) (ml : MHl q σ) (s0 : q.sold l = 0) : f_X10_isFree 94 (nI l) σ = some (nI 1, σ) := by
  have w := (ml l hl).2.2.1
  simp (disch := omega) only [f_X10_isFree, bd1_s, bd2_s, onrN, onrS, grd_t, grd_T, Nat.reduceAdd, isLot_ok m0 hn hl, w, s0, nI_lit, nI10, if_false, if_true, ixo_95, ixo_96, ixo_97, ixo_98, ixo_99, ixo_100, ixo_101, ixo_102, ixo_103, ixo_104, ixo_105, ixo_106, ixo_107, ixo_108, ixo_109, ixo_110, ixo_111, ixo_112, ixo_113, ixo_114, ixo_115, ixo_116, ixo_117, ixo_118, ixo_119, ixo_120, ixo_121, ixo_122, ixo_123, ixo_124, ixo_125, ixo_126]
theorem free_no (hn : q.n ≤ 5) (hl : l < q.n) (m0 : gI σ 94 0 = nI q.n) (ml : MHl q σ) (s1 : q.sold l = 1) : f_X10_isFree 94 (nI l) σ = some (nI 0, σ) := by
  have w := (ml l hl).2.2.1
  simp (disch := omega) only [f_X10_isFree, bd1_s, bd2_s, onrN, onrS, grd_t, grd_T, Nat.reduceAdd, isLot_ok m0 hn hl, w, s1, nI_lit, nI10, if_false, ixo_95, ixo_96, ixo_97, ixo_98, ixo_99, ixo_100, ixo_101, ixo_102, ixo_103, ixo_104, ixo_105, ixo_106, ixo_107, ixo_108, ixo_109, ixo_110, ixo_111, ixo_112, ixo_113, ixo_114, ixo_115, ixo_116, ixo_117, ixo_118, ixo_119, ixo_120, ixo_121, ixo_122, ixo_123, ixo_124, ixo_125, ixo_126]
theorem free_bad {x : Int32} {n : Nat} (m0 : gI σ 94 0 = nI n) (b : Bad x n) : f_X10_isFree 94 x σ = some (nI 0, σ) := by
  simp only [f_X10_isFree, isLot_no m0 b, bd2_s, nI_lit, if_true]
end
