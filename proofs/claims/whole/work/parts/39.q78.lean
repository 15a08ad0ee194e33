theorem op_hall {q : HQ} {σ : Mem} (I : Inv q σ) : OpOk (f_X9_hall 0) (f_X10_hall 94) σ := sorry
