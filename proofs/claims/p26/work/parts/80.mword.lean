/-! ===== the reference: keywords by their bytes ===== -/
theorem c11 {d : Nat} {h : AH} {i n : Int} {y : AV} {K : AK} (hy : y = (11, 0)) (h0 : 0 ≤ i) (h1 : i < n) (k : K 0 i h) : am_call d 11 [(0, i), (0, n), y] h K := by
  subst hy
  exact v11 ⟨fun z => absurd z (by omega), fun _ => ⟨fun _ => k, fun z => absurd h1 z⟩⟩
theorem c1 {d : Nat} {h : AH} {i n : Int} {K : AK} (h0 : 0 ≤ i) (h1 : i < n) (k : K 0 0 h) : am_call (d + 1) 1 [(0, i), (0, n)] h K := v1 (c11 rfl h0 h1 k)
def s_tc (j i : Int) : Int := am_i2c (am_and (am_tb j i) 255)
theorem s_tc_rg {j i : Int} : 0 ≤ s_tc j i ∧ s_tc j i < 65536 := by
  unfold s_tc am_i2c
  omega
theorem c8 {d : Nat} {h : AH} {j i : Int} {K : AK} (h0 : 0 ≤ i) (h1 : i < am_tn j) (k : K 0 (s_tc j i) h) : am_call (d + 2) 8 [(7, j), (0, i)] h K :=
  v8 (c1 h0 h1 ⟨⟨h0, h1⟩, s_tc_rg, k⟩)
theorem c0 {d : Nat} {h : AH} {j i : Int} {K : AK} (h0 : 0 ≤ i) (h1 : i < am_tn j) (k : K 0 (s_tc j i) h) : am_call (d + 3) 0 [(5, j), (0, i)] h K :=
  v0 (c5 ⟨fun z => absurd z (by decide), fun _ => c8 h0 h1 ⟨s_tc_rg, k⟩⟩)
def s_eqf (tp : Int → Int) (j p : Int) : Nat → Int → Bool
  | 0, _ => true
  | n + 1, i => if s_tc j i = tp (p + i) then s_eqf tp j p n (i + 1) else false