theorem op_order {q : HQ} {σ : Mem} (I : Inv q σ) (a1 : Int32) : OpOk (f_X9_order 0 a1) (f_X10_order 94 a1) σ := sorry
theorem op_hall {q : HQ} {σ : Mem} (I : Inv q σ) : OpOk (f_X9_hall 0) (f_X10_hall 94) σ := sorry
