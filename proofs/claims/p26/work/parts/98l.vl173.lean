theorem v173 {d : Nat} {l0 l1 : Int} {h : AH} {K : AK} (b : (¬ l1 = 0) ∧ K 0 ((am_and l0 2147483647).tmod l1) h) : am_call d 173 [(0, l0), (0, l1)] h K := am_run (cut := []) 8 b
