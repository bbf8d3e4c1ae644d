/-! ===== constant texts ===== -/
theorem shr0 {x : Int} (h0 : 0 ≤ x) (h1 : x < 2147483648) : am_shr x 0 = x := by
  have e := shr_bv (x := x) (n := 0) (by decide)
  have e1 : am_shr x 0 = ((BitVec.ofInt 32 x).sshiftRight 0).toInt := e
  rw [e1, BitVec.sshiftRight_zero, BitVec.toInt_ofInt]
  exact w32_id (by omega) h1
theorem c2 {d : Nat} {h : AH} {j : Int} {K : AK} (k : K 0 0 h) : am_call d 2 [(5, j)] h K :=
  v2 ⟨fun z => absurd z (by decide), fun _ => ⟨⟨by decide, by decide⟩, k⟩⟩
theorem c5 {d : Nat} {h : AH} {j : Int} {K : AK} (k : K 0 1 h) : am_call d 5 [(5, j)] h K := by
  refine v5 ⟨fun z => absurd z (by decide), fun _ => ⟨fun _ => ⟨Or.inr rfl, k⟩, fun z => absurd rfl z⟩⟩
theorem c6 {d : Nat} {h : AH} {j : Int} {K : AK} (hj : 0 ≤ am_tn j ∧ am_tn j < 2147483648) (k : K 0 (am_tn j) h) : am_call (d + 1) 6 [(5, j)] h K := by
  refine v6 (c2 ?_)
  rw [shr0 hj.1 hj.2]
  exact k
theorem c7 {d : Nat} {h : AH} {x : Int} {K : AK} (hx : 0 ≤ x ∧ x < 256) (k : K 0 1 h) : am_call d 7 [(0, x)] h K :=
  v7 ⟨fun z => absurd z (by omega), fun _ => ⟨fun z => absurd z (by omega), fun _ => ⟨Or.inr rfl, k⟩⟩⟩
def s_if (j c : Int) : Nat → Int → Int
  | 0, _ => -1
  | n + 1, i => if am_tb j i = c then i else s_if j c n (i + 1)
theorem c9 {d : Nat} {h : AH} {j x e : Int} {K : AK} (he : 0 ≤ e ∧ e ≤ am_tn j ∧ e < 2000) (k : K 0 (s_if j (am_i2b x) e.toNat 0) h) : am_call d 9 [(7, j), (0, x), (0, 0), (0, e)] h K := by
  refine v9 ?_
  suffices H : ∀ n : Nat, ∀ i : Nat, i + n = e.toNat → s_if j (am_i2b x) n (i : Int) = s_if j (am_i2b x) e.toNat 0 → WP d 9 (7, [(7, j), (0, x), (0, 0), (0, e), (0, am_i2b x), (0, (i : Int))], [], h, 0, 0) K from H _ 0 (Nat.zero_add _) rfl
  intro n
  induction n with
  | zero =>
    intro i hi es
    refine v9_7 ⟨fun z => absurd z (by omega), fun _ => ?_⟩
    rw [← es] at k
    exact k
  | succ n ih =>
    intro i hi es
    have eu : s_if j (am_i2b x) (n + 1) (i : Int) = if am_tb j (i : Int) = am_i2b x then (i : Int) else s_if j (am_i2b x) n ((i : Int) + 1) := rfl
    rw [eu] at es
    refine v9_7 ⟨fun _ => ⟨⟨by omega, by omega⟩, fun z => ?_, fun z => ?_⟩, fun z => absurd (show (i : Int) < e by omega) z⟩
    · rw [if_pos z] at es
      rw [← es] at k
      exact k
    · rw [if_neg z] at es
      rw [w32_nat (by omega)]
      exact ih (i + 1) (by omega) es
theorem c3 {d : Nat} {h : AH} {j x : Int} {K : AK} (hj : 1 ≤ am_tn j ∧ am_tn j < 2000) (hx : 0 ≤ x ∧ x < 256) (k : K 0 (s_if j (am_i2b x) (am_tn j).toNat 0) h) : am_call (d + 3) 3 [(5, j), (0, x)] h K := by
  refine v3 (v4 (c5 ⟨fun z => absurd z (by decide), fun _ => c6 (by omega) (v10 (c7 hx ⟨fun z => absurd z (by decide), fun _ => ⟨fun _ => ?_, fun z => absurd (show max 0 0 < min (am_tn j) (am_tn j) by omega) z⟩⟩))⟩))
  rw [show max (0 : Int) 0 = 0 from rfl, show min (am_tn j) (am_tn j) = am_tn j by omega]
  exact c9 ⟨by omega, by omega, by omega⟩ k
theorem tn1 : am_tn 1 = 13 := by decide
/-- a sign is one of the class's symbols -/
def s_sy (x : Int) : Bool := decide (0 ≤ s_if 1 (am_i2b x) 13 0)
