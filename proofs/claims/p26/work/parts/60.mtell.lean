/-! ===== the reference: beginning, what is told ===== -/
/-- what is bought is built -/
def SB (pp ss : TT) : Prop := ∀ p, 0 ≤ p → p < pp 1 0 → ss 8 p = 1 → ss 7 p ≠ -1