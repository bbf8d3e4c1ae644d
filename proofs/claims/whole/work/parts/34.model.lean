/-! ===== the same on the reference's side ===== -/
def MP (h : AH) (q : Int) (pp : TT) : Prop := P7 h q ∧ am_m h q 0 = pp 0 0 ∧ am_m h q 2 = pp 1 0 ∧ am_m h q 6 = pp 2 0 ∧ am_m h q 9 = pp 3 0 ∧ (∀ i, 0 ≤ i → i < pp 0 0 → am_m h (q + 1) i = pp 4 i) ∧ (∀ i, 0 ≤ i → i < pp 1 0 → am_m h (q + 3) i = pp 5 i ∧ am_m h (q + 4) i = pp 6 i) ∧ ∀ i, 0 ≤ i → i < pp 3 0 → am_m h (q + 6) i = pp 7 i
def MS (h : AH) (b : Int) (pp ss : TT) : Prop := am_m h b 0 = ss 0 0 ∧ am_m h b 1 = ss 2 0 ∧ am_m h b 2 = ss 3 0 ∧ (∀ v, 0 ≤ v → v < pp 2 0 → am_m h (b + 1) v = ss 4 v ∧ am_m h (b + 2) v = ss 5 v ∧ (0 ≤ am_m h (b + 3) v ∧ am_m h (b + 3) v < 4096) ∧ ∀ p, 0 ≤ p → p < 12 → am_and (am_shr (am_m h (b + 3) v) p) 1 = ss 9 (12 * v + p)) ∧ ∀ p, 0 ≤ p → p < pp 1 0 → am_m h (b + 4) p = ss 6 p ∧ am_m h (b + 5) p = ss 7 p ∧ am_m h (b + 6) p = ss 8 p
/-- the reference at u, its plan at q, a state at b (its own ones at s and e) -/
def MM (h : AH) (u q s e b : Int) (pp ss : TT) : Prop := M9 h u q s e ∧ S8 h b u ∧ MP h q pp ∧ MS h b pp ss ∧ PI pp ∧ SI pp ss ∧ am_m h u 4 = ss 1 0 ∧ (u + 7 ≤ b ∧ (q + 11 ≤ b ∨ b + 8 ≤ q))
section
variable {h : AH} {u q s e b : Int} {pp ss : TT}
theorem MM.M (c : MM h u q s e b pp ss) : M9 h u q s e := c.1
theorem MM.B (c : MM h u q s e b pp ss) : S8 h b u := c.2.1
theorem MM.Q (c : MM h u q s e b pp ss) : P7 h q := c.2.2.1.1
theorem MM.nw (c : MM h u q s e b pp ss) : am_m h q 0 = pp 0 0 := c.2.2.1.2.1
theorem MM.np (c : MM h u q s e b pp ss) : am_m h q 2 = pp 1 0 := c.2.2.1.2.2.1
theorem MM.nv (c : MM h u q s e b pp ss) : am_m h q 6 = pp 2 0 := c.2.2.1.2.2.2.1
theorem MM.nb (c : MM h u q s e b pp ss) : am_m h q 9 = pp 3 0 := c.2.2.1.2.2.2.2.1
theorem MM.cap (c : MM h u q s e b pp ss) {i : Int} (h0 : 0 ≤ i) (h1 : i < pp 0 0) : am_m h (q + 1) i = pp 4 i := c.2.2.1.2.2.2.2.2.1 i h0 h1
theorem MM.ward (c : MM h u q s e b pp ss) {i : Int} (h0 : 0 ≤ i) (h1 : i < pp 1 0) : am_m h (q + 3) i = pp 5 i := (c.2.2.1.2.2.2.2.2.2.1 i h0 h1).1
theorem MM.grows (c : MM h u q s e b pp ss) {i : Int} (h0 : 0 ≤ i) (h1 : i < pp 1 0) : am_m h (q + 4) i = pp 6 i := (c.2.2.1.2.2.2.2.2.2.1 i h0 h1).2
theorem MM.banned (c : MM h u q s e b pp ss) {i : Int} (h0 : 0 ≤ i) (h1 : i < pp 3 0) : am_m h (q + 6) i = pp 7 i := c.2.2.1.2.2.2.2.2.2.2 i h0 h1
theorem MM.yr (c : MM h u q s e b pp ss) : am_m h b 0 = ss 0 0 := c.2.2.2.1.1
theorem MM.pot (c : MM h u q s e b pp ss) : am_m h b 1 = ss 2 0 := c.2.2.2.1.2.1
theorem MM.pd (c : MM h u q s e b pp ss) : am_m h b 2 = ss 3 0 := c.2.2.2.1.2.2.1
theorem MM.purse (c : MM h u q s e b pp ss) {i : Int} (h0 : 0 ≤ i) (h1 : i < pp 2 0) : am_m h (b + 1) i = ss 4 i := (c.2.2.2.1.2.2.2.1 i h0 h1).1
theorem MM.gave (c : MM h u q s e b pp ss) {i : Int} (h0 : 0 ≤ i) (h1 : i < pp 2 0) : am_m h (b + 2) i = ss 5 i := (c.2.2.2.1.2.2.2.1 i h0 h1).2.1
theorem MM.fb (c : MM h u q s e b pp ss) {i : Int} (h0 : 0 ≤ i) (h1 : i < pp 2 0) : 0 ≤ am_m h (b + 3) i ∧ am_m h (b + 3) i < 4096 := (c.2.2.2.1.2.2.2.1 i h0 h1).2.2.1
theorem MM.fan (c : MM h u q s e b pp ss) {i p : Int} (h0 : 0 ≤ i) (h1 : i < pp 2 0) (h2 : 0 ≤ p) (h3 : p < 12) : am_and (am_shr (am_m h (b + 3) i) p) 1 = ss 9 (12 * i + p) := (c.2.2.2.1.2.2.2.1 i h0 h1).2.2.2 p h2 h3
theorem MM.cost (c : MM h u q s e b pp ss) {i : Int} (h0 : 0 ≤ i) (h1 : i < pp 1 0) : am_m h (b + 4) i = ss 6 i := (c.2.2.2.1.2.2.2.2 i h0 h1).1
theorem MM.built (c : MM h u q s e b pp ss) {i : Int} (h0 : 0 ≤ i) (h1 : i < pp 1 0) : am_m h (b + 5) i = ss 7 i := (c.2.2.2.1.2.2.2.2 i h0 h1).2.1
theorem MM.bought (c : MM h u q s e b pp ss) {i : Int} (h0 : 0 ≤ i) (h1 : i < pp 1 0) : am_m h (b + 6) i = ss 8 i := (c.2.2.2.1.2.2.2.2 i h0 h1).2.2
theorem MM.I (c : MM h u q s e b pp ss) : PI pp := c.2.2.2.2.1
theorem MM.S (c : MM h u q s e b pp ss) : SI pp ss := c.2.2.2.2.2.1
theorem MM.bud (c : MM h u q s e b pp ss) : am_m h u 4 = ss 1 0 := c.2.2.2.2.2.2.1
theorem MM.ap (c : MM h u q s e b pp ss) : u + 7 ≤ b ∧ (q + 11 ≤ b ∨ b + 8 ≤ q) := c.2.2.2.2.2.2.2
end
