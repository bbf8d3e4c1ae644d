set_option maxHeartbeats 1000000 in
theorem tst {d : Nat} {t p : Int} {h : AH} {K : AK} (b : am_t h t = 3 ∧ (am_t h (am_m h t 4) = 20 ∧ 0 ≤ p ∧ p < am_l h (am_m h t 4)) ∧ ((am_m h (am_m h t 4) p = -1 → (((1 : Int) = 0 ∨ (1 : Int) = 1) ∧ K 0 1 h)) ∧ (¬ am_m h (am_m h t 4) p = -1 → (((0 : Int) = 0 ∨ (0 : Int) = 1) ∧ K 0 0 h)))) : am_call d 58 [(2, t), (0, p)] h K := am_run (cut := []) 40 b
