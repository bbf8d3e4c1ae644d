/-! ===== the reference's grammar: tests ===== -/
section
variable {kd : Nat → Int} {su : GF} {lt : Option (GF × GF)} {i : Nat}
theorem gSng_91 (z : kd i = 91) : gSng kd su lt i = gBra kd lt i := by
  unfold gSng
  rw [if_pos z]
theorem gSng_307 (z : kd i = 307) : gSng kd su lt i = bnd (tk kd 307 0 i) (lk kd) := by
  unfold gSng
  rw [if_neg (by omega), if_pos z]
theorem gSng_315 (z : kd i = 315) : gSng kd su lt i = bnd (tk kd 315 0 i) (nm kd 12 8) := by
  unfold gSng
  rw [if_neg (by omega), if_neg (by omega), if_pos z]
theorem gSng_317 (z : kd i = 317) : gSng kd su lt i = gNot kd lt i := by
  unfold gSng
  rw [if_neg (by omega), if_neg (by omega), if_neg (by omega), if_pos z]
theorem gSng_no (z1 : kd i ≠ 91) (z2 : kd i ≠ 307) (z3 : kd i ≠ 315) (z4 : kd i ≠ 317) : gSng kd su lt i = gCmp kd su i := by
  unfold gSng
  rw [if_neg z1, if_neg z2, if_neg z3, if_neg z4]
end
section
variable {d D n : Nat} {h0 h : AH} {q dp : Int} {kd va : Nat → Int} {N i : Nat} {C O R : List Int} {w : Nat} {K : AK}
/-- what stands one depth deeper -/
def LN (kd va : Nat → Int) (b : Nat) (dp : Int) : Option (GF × GF) → Prop
  | none => dp = 8
  | some v => (0 ≤ dp ∧ dp < 8) ∧ CM 183 b (dp + 1) v.1 kd va ∧ CM 178 b (dp + 1) v.2 kd va
theorem LN.bd {b : Nat} : ∀ {lv : Option (GF × GF)}, LN kd va b dp lv → 0 ≤ dp ∧ dp ≤ 8
  | none, x => by
    have x' : dp = 8 := x
    omega
  | some v, x => by
    have x' := x.1
    omega
end
