/-! ===== the tape of the reference ===== -/
def TM (h : AH) (tl : Int) (tp : Int → Int) : Prop := ∀ i, 0 ≤ i → i < tl → am_m h 54 i = tp i
def s_a5 (a b c e f k : Int) : Int := if k = 0 then a else if k = 1 then b else if k = 2 then c else if k = 3 then e else f
theorem t5_at {tp : Int → Int} {tl a b c e f l : Int} (h0 : 0 ≤ l) (h1 : l < 20) : s_t5 tp tl a b c e f (tl + l) = am_and (am_shr (s_a5 a b c e f (l / 4)) (24 - 8 * (l % 4))) 255 := by
  simp only [s_t5, s_tp, s_byte]
  by_cases z1 : l < 4
  · rw [if_pos (by omega), if_pos (by omega), if_pos (by omega), if_pos (by omega), if_neg (by omega), show tl + l - tl = l % 4 by omega, show l / 4 = 0 by omega]
    rfl
  by_cases z2 : l < 8
  · rw [if_pos (by omega), if_pos (by omega), if_pos (by omega), if_neg (by omega), show tl + l - (tl + 4) = l % 4 by omega, show l / 4 = 1 by omega]
    rfl
  by_cases z3 : l < 12
  · rw [if_pos (by omega), if_pos (by omega), if_neg (by omega), show tl + l - (tl + 4 + 4) = l % 4 by omega, show l / 4 = 2 by omega]
    rfl
  by_cases z4 : l < 16
  · rw [if_pos (by omega), if_neg (by omega), show tl + l - (tl + 4 + 4 + 4) = l % 4 by omega, show l / 4 = 3 by omega]
    rfl
  · rw [if_neg (by omega), show tl + l - (tl + 4 + 4 + 4 + 4) = l % 4 by omega, show l / 4 = 4 by omega]
    rfl
theorem t5_lo {tp : Int → Int} {tl a b c e f i : Int} (h1 : i < tl) : s_t5 tp tl a b c e f i = tp i := by
  simp only [s_t5, s_tp]
  rw [if_pos (by omega), if_pos (by omega), if_pos (by omega), if_pos (by omega), if_pos (by omega)]