/-! arrays by cell; fields behind an update -/
theorem ixo_2 {i : Nat} (h : i < 5) : ixo 2 (nI i) = some i := ixo_nI h (by omega)
theorem ixo_3 {i : Nat} (h : i < 6) : ixo 3 (nI i) = some i := ixo_nI h (by omega)
theorem ixo_4 {i : Nat} (h : i < 12) : ixo 4 (nI i) = some i := ixo_nI h (by omega)
theorem ixo_17 {i : Nat} (h : i < 5) : ixo 17 (nI i) = some i := ixo_nI h (by omega)
theorem ixo_18 {i : Nat} (h : i < 6) : ixo 18 (nI i) = some i := ixo_nI h (by omega)
theorem ixo_19 {i : Nat} (h : i < 12) : ixo 19 (nI i) = some i := ixo_nI h (by omega)
theorem ixo_32 {i : Nat} (h : i < 5) : ixo 32 (nI i) = some i := ixo_nI h (by omega)
theorem ixo_33 {i : Nat} (h : i < 6) : ixo 33 (nI i) = some i := ixo_nI h (by omega)
theorem ixo_34 {i : Nat} (h : i < 12) : ixo 34 (nI i) = some i := ixo_nI h (by omega)
theorem ixo_47 {i : Nat} (h : i < 200) : ixo 47 (nI i) = some i := ixo_nI h (by omega)
theorem ixo_50 {i : Nat} (h : i < 5) : ixo 50 (nI i) = some i := ixo_nI h (by omega)
theorem ixo_51 {i : Nat} (h : i < 6) : ixo 51 (nI i) = some i := ixo_nI h (by omega)
theorem ixo_52 {i : Nat} (h : i < 12) : ixo 52 (nI i) = some i := ixo_nI h (by omega)
theorem ixo_64 {i : Nat} (h : i < 5) : ixo 64 (nI i) = some i := ixo_nI h (by omega)
theorem ixo_65 {i : Nat} (h : i < 5) : ixo 65 (nI i) = some i := ixo_nI h (by omega)
theorem ixo_66 {i : Nat} (h : i < 6) : ixo 66 (nI i) = some i := ixo_nI h (by omega)
theorem ixo_67 {i : Nat} (h : i < 6) : ixo 67 (nI i) = some i := ixo_nI h (by omega)
theorem ixo_68 {i : Nat} (h : i < 6) : ixo 68 (nI i) = some i := ixo_nI h (by omega)
theorem ixo_69 {i : Nat} (h : i < 6) : ixo 69 (nI i) = some i := ixo_nI h (by omega)
theorem ixo_70 {i : Nat} (h : i < 6) : ixo 70 (nI i) = some i := ixo_nI h (by omega)
theorem ixo_71 {i : Nat} (h : i < 6) : ixo 71 (nI i) = some i := ixo_nI h (by omega)
theorem ixo_72 {i : Nat} (h : i < 6) : ixo 72 (nI i) = some i := ixo_nI h (by omega)
theorem ixo_73 {i : Nat} (h : i < 6) : ixo 73 (nI i) = some i := ixo_nI h (by omega)
theorem ixo_75 {i : Nat} (h : i < 60) : ixo 75 (nI i) = some i := ixo_nI h (by omega)
theorem ixo_77 {i : Nat} (h : i < 60) : ixo 77 (nI i) = some i := ixo_nI h (by omega)
theorem ixo_78 {i : Nat} (h : i < 4) : ixo 78 (nI i) = some i := ixo_nI h (by omega)
theorem ixo_79 {i : Nat} (h : i < 4) : ixo 79 (nI i) = some i := ixo_nI h (by omega)
theorem ixo_81 {i : Nat} (h : i < 30) : ixo 81 (nI i) = some i := ixo_nI h (by omega)
theorem ixo_83 {i : Nat} (h : i < 40) : ixo 83 (nI i) = some i := ixo_nI h (by omega)
theorem ixo_85 {i : Nat} (h : i < 40) : ixo 85 (nI i) = some i := ixo_nI h (by omega)
theorem ixo_87 {i : Nat} (h : i < 40) : ixo 87 (nI i) = some i := ixo_nI h (by omega)
theorem ixo_89 {i : Nat} (h : i < 40) : ixo 89 (nI i) = some i := ixo_nI h (by omega)
theorem ixo_95 {i : Nat} (h : i < 5) : ixo 95 (nI i) = some i := ixo_nI h (by omega)
theorem ixo_96 {i : Nat} (h : i < 5) : ixo 96 (nI i) = some i := ixo_nI h (by omega)
theorem ixo_97 {i : Nat} (h : i < 5) : ixo 97 (nI i) = some i := ixo_nI h (by omega)
theorem ixo_98 {i : Nat} (h : i < 5) : ixo 98 (nI i) = some i := ixo_nI h (by omega)
theorem ixo_99 {i : Nat} (h : i < 5) : ixo 99 (nI i) = some i := ixo_nI h (by omega)
theorem ixo_100 {i : Nat} (h : i < 12) : ixo 100 (nI i) = some i := ixo_nI h (by omega)
theorem ixo_101 {i : Nat} (h : i < 6) : ixo 101 (nI i) = some i := ixo_nI h (by omega)
theorem ixo_102 {i : Nat} (h : i < 6) : ixo 102 (nI i) = some i := ixo_nI h (by omega)
theorem ixo_103 {i : Nat} (h : i < 6) : ixo 103 (nI i) = some i := ixo_nI h (by omega)
theorem ixo_104 {i : Nat} (h : i < 22) : ixo 104 (nI i) = some i := ixo_nI h (by omega)
theorem ixo_105 {i : Nat} (h : i < 200) : ixo 105 (nI i) = some i := ixo_nI h (by omega)
theorem ixo_106 {i : Nat} (h : i < 5) : ixo 106 (nI i) = some i := ixo_nI h (by omega)
theorem ixo_107 {i : Nat} (h : i < 5) : ixo 107 (nI i) = some i := ixo_nI h (by omega)
theorem ixo_108 {i : Nat} (h : i < 6) : ixo 108 (nI i) = some i := ixo_nI h (by omega)
theorem ixo_109 {i : Nat} (h : i < 6) : ixo 109 (nI i) = some i := ixo_nI h (by omega)
theorem ixo_110 {i : Nat} (h : i < 6) : ixo 110 (nI i) = some i := ixo_nI h (by omega)
theorem ixo_111 {i : Nat} (h : i < 6) : ixo 111 (nI i) = some i := ixo_nI h (by omega)
theorem ixo_112 {i : Nat} (h : i < 12) : ixo 112 (nI i) = some i := ixo_nI h (by omega)
theorem ixo_113 {i : Nat} (h : i < 60) : ixo 113 (nI i) = some i := ixo_nI h (by omega)
theorem ixo_114 {i : Nat} (h : i < 5) : ixo 114 (nI i) = some i := ixo_nI h (by omega)
theorem ixo_115 {i : Nat} (h : i < 5) : ixo 115 (nI i) = some i := ixo_nI h (by omega)
theorem ixo_116 {i : Nat} (h : i < 5) : ixo 116 (nI i) = some i := ixo_nI h (by omega)
theorem ixo_117 {i : Nat} (h : i < 60) : ixo 117 (nI i) = some i := ixo_nI h (by omega)
theorem ixo_118 {i : Nat} (h : i < 4) : ixo 118 (nI i) = some i := ixo_nI h (by omega)
theorem ixo_119 {i : Nat} (h : i < 4) : ixo 119 (nI i) = some i := ixo_nI h (by omega)
theorem ixo_120 {i : Nat} (h : i < 160) : ixo 120 (nI i) = some i := ixo_nI h (by omega)
theorem ixo_121 {i : Nat} (h : i < 4) : ixo 121 (nI i) = some i := ixo_nI h (by omega)
theorem ixo_122 {i : Nat} (h : i < 4) : ixo 122 (nI i) = some i := ixo_nI h (by omega)
theorem ixo_123 {i : Nat} (h : i < 4) : ixo 123 (nI i) = some i := ixo_nI h (by omega)
theorem ixo_124 {i : Nat} (h : i < 30) : ixo 124 (nI i) = some i := ixo_nI h (by omega)
theorem ixo_125 {i : Nat} (h : i < 80) : ixo 125 (nI i) = some i := ixo_nI h (by omega)
theorem ixo_126 {i : Nat} (h : i < 4) : ixo 126 (nI i) = some i := ixo_nI h (by omega)
theorem n_qs (q : HQ) {f i v : Nat} (h : ¬ (0 = f ∧ 0 = i)) : (qs q f i v).n = q.n := if_neg h
theorem n_qt (q : HQ) {v : Nat} : (qs q 0 0 v).n = v := by simp [HQ.n, qs]
theorem wax_qs (q : HQ) {f i v j : Nat} (h : ¬ (1 = f ∧ j = i)) : (qs q f i v).wax j = q.wax j := if_neg h
theorem wax_qt (q : HQ) {i v j : Nat} (h : j = i) : (qs q 1 i v).wax j = v := if_pos ⟨rfl, h⟩
theorem worth_qs (q : HQ) {f i v j : Nat} (h : ¬ (2 = f ∧ j = i)) : (qs q f i v).worth j = q.worth j := if_neg h
theorem worth_qt (q : HQ) {i v j : Nat} (h : j = i) : (qs q 2 i v).worth j = v := if_pos ⟨rfl, h⟩
theorem sold_qs (q : HQ) {f i v j : Nat} (h : ¬ (3 = f ∧ j = i)) : (qs q f i v).sold j = q.sold j := if_neg h
theorem sold_qt (q : HQ) {i v j : Nat} (h : j = i) : (qs q 3 i v).sold j = v := if_pos ⟨rfl, h⟩
theorem price_qs (q : HQ) {f i v j : Nat} (h : ¬ (4 = f ∧ j = i)) : (qs q f i v).price j = q.price j := if_neg h
theorem price_qt (q : HQ) {i v j : Nat} (h : j = i) : (qs q 4 i v).price j = v := if_pos ⟨rfl, h⟩
theorem buyer_qs (q : HQ) {f i v j : Nat} (h : ¬ (5 = f ∧ j = i)) : (qs q f i v).buyer j = q.buyer j := if_neg h
theorem buyer_qt (q : HQ) {i v j : Nat} (h : j = i) : (qs q 5 i v).buyer j = v := if_pos ⟨rfl, h⟩
theorem m_qs (q : HQ) {f i v : Nat} (h : ¬ (6 = f ∧ 0 = i)) : (qs q f i v).m = q.m := if_neg h
theorem m_qt (q : HQ) {v : Nat} : (qs q 6 0 v).m = v := by simp [HQ.m, qs]
theorem kind_qs (q : HQ) {f i v j : Nat} (h : ¬ (7 = f ∧ j = i)) : (qs q f i v).kind j = q.kind j := if_neg h
theorem kind_qt (q : HQ) {i v j : Nat} (h : j = i) : (qs q 7 i v).kind j = v := if_pos ⟨rfl, h⟩
theorem a_qs (q : HQ) {f i v j : Nat} (h : ¬ (8 = f ∧ j = i)) : (qs q f i v).a j = q.a j := if_neg h
theorem a_qt (q : HQ) {i v j : Nat} (h : j = i) : (qs q 8 i v).a j = v := if_pos ⟨rfl, h⟩
theorem val_qs (q : HQ) {f i v j : Nat} (h : ¬ (9 = f ∧ j = i)) : (qs q f i v).val j = q.val j := if_neg h
theorem val_qt (q : HQ) {i v j : Nat} (h : j = i) : (qs q 9 i v).val j = v := if_pos ⟨rfl, h⟩
theorem purse_qs (q : HQ) {f i v j : Nat} (h : ¬ (10 = f ∧ j = i)) : (qs q f i v).purse j = q.purse j := if_neg h
theorem purse_qt (q : HQ) {i v j : Nat} (h : j = i) : (qs q 10 i v).purse j = v := if_pos ⟨rfl, h⟩
theorem dr_qs (q : HQ) {f i v j : Nat} (h : ¬ (11 = f ∧ j = i)) : (qs q f i v).dr j = q.dr j := if_neg h
theorem dr_qt (q : HQ) {i v j : Nat} (h : j = i) : (qs q 11 i v).dr j = v := if_pos ⟨rfl, h⟩
theorem step_qs (q : HQ) {f i v : Nat} (h : ¬ (12 = f ∧ 0 = i)) : (qs q f i v).step = q.step := if_neg h
theorem step_qt (q : HQ) {v : Nat} : (qs q 12 0 v).step = v := by simp [HQ.step, qs]
theorem lit_qs (q : HQ) {f i v : Nat} (h : ¬ (13 = f ∧ 0 = i)) : (qs q f i v).lit = q.lit := if_neg h
theorem lit_qt (q : HQ) {v : Nat} : (qs q 13 0 v).lit = v := by simp [HQ.lit, qs]
theorem tick_qs (q : HQ) {f i v : Nat} (h : ¬ (14 = f ∧ 0 = i)) : (qs q f i v).tick = q.tick := if_neg h
theorem tick_qt (q : HQ) {v : Nat} : (qs q 14 0 v).tick = v := by simp [HQ.tick, qs]
theorem burnt_qs (q : HQ) {f i v : Nat} (h : ¬ (15 = f ∧ 0 = i)) : (qs q f i v).burnt = q.burnt := if_neg h
theorem burnt_qt (q : HQ) {v : Nat} : (qs q 15 0 v).burnt = v := by simp [HQ.burnt, qs]
theorem high_qs (q : HQ) {f i v : Nat} (h : ¬ (16 = f ∧ 0 = i)) : (qs q f i v).high = q.high := if_neg h
theorem high_qt (q : HQ) {v : Nat} : (qs q 16 0 v).high = v := by simp [HQ.high, qs]
theorem holder_qs (q : HQ) {f i v : Nat} (h : ¬ (17 = f ∧ 0 = i)) : (qs q f i v).holder = q.holder := if_neg h
theorem holder_qt (q : HQ) {v : Nat} : (qs q 17 0 v).holder = v := by simp [HQ.holder, qs]
theorem z_qs (q : HQ) (f i v : Nat) : (qs q f i v).2 = q.2 := rfl
