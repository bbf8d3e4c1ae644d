/-! ===== plan (pp: 0 wards, 1 projects, 2 voters, 3 bans; 4 cap, 5 ward, 6 grows, 7 banned) and state (ss: 0 year, 1 budget, 2 pot, 3 paid in all; 4 purse, 5 gave, 6 cost, 7 built, 8 bought, 9 fans: 12 * voter + project) ===== -/
abbrev TT : Type := Nat → Int → Int
def PI (pp : TT) : Prop := (0 ≤ pp 0 0 ∧ pp 0 0 ≤ 4) ∧ (0 ≤ pp 1 0 ∧ pp 1 0 ≤ 12) ∧ (0 ≤ pp 2 0 ∧ pp 2 0 ≤ 12) ∧ (0 ≤ pp 3 0 ∧ pp 3 0 ≤ 12) ∧ (∀ i, 0 ≤ i → i < pp 0 0 → 0 ≤ pp 4 i ∧ pp 4 i ≤ 12) ∧ (∀ i, 0 ≤ i → i < pp 1 0 → (0 ≤ pp 5 i ∧ pp 5 i < pp 0 0) ∧ 0 ≤ pp 6 i ∧ pp 6 i ≤ 50) ∧ ∀ i, 0 ≤ i → i < pp 3 0 → 0 ≤ pp 7 i ∧ pp 7 i < pp 1 0
def SI (pp ss : TT) : Prop := (0 ≤ ss 0 0 ∧ ss 0 0 < 2000000000) ∧ (0 ≤ ss 1 0 ∧ ss 1 0 ≤ 9999) ∧ (0 ≤ ss 2 0 ∧ ss 2 0 ≤ 9999) ∧ (∀ v, 0 ≤ v → v < pp 2 0 → 0 ≤ ss 4 v ∧ ss 4 v ≤ 9999) ∧ (∀ p, 0 ≤ p → p < pp 1 0 → (1 ≤ ss 6 p ∧ ss 6 p ≤ 9999) ∧ (-1 ≤ ss 7 p ∧ ss 7 p ≤ ss 0 0) ∧ (ss 8 p = 0 ∨ ss 8 p = 1)) ∧ (∀ i, ss 9 i = 0 ∨ ss 9 i = 1) ∧ ∀ v p, 0 ≤ v → 0 ≤ p → v < 12 → p < 12 → (pp 2 0 ≤ v ∨ pp 1 0 ≤ p) → ss 9 (12 * v + p) = 0
/-- a plan of the class at q -/
def CP (h : AH) (q : Int) (pp : TT) : Prop := P4 h q ∧ am_m h q 0 = pp 0 0 ∧ am_m h q 1 = pp 1 0 ∧ am_m h q 2 = pp 2 0 ∧ am_m h q 3 = pp 3 0 ∧ (∀ i, 0 ≤ i → i < pp 0 0 → am_m h (q + 1) i = pp 4 i) ∧ (∀ i, 0 ≤ i → i < pp 1 0 → am_m h (q + 2) i = pp 5 i ∧ am_m h (q + 4) i = pp 6 i) ∧ ∀ i, 0 ≤ i → i < pp 3 0 → am_m h (q + 6) i = pp 7 i
/-- a parish of the class at a -/
def CS (h : AH) (a : Int) (pp ss : TT) : Prop := am_m h a 0 = ss 0 0 ∧ am_m h a 1 = ss 1 0 ∧ am_m h a 6 = ss 2 0 ∧ am_m h a 7 = ss 3 0 ∧ (∀ v, 0 ≤ v → v < pp 2 0 → am_m h (a + 1) v = ss 4 v ∧ am_m h (a + 3) v = ss 5 v) ∧ ∀ p, 0 ≤ p → p < pp 1 0 → am_m h (a + 4) p = ss 6 p ∧ am_m h (a + 2) p = ss 7 p ∧ am_m h (a + 6) p = ss 8 p ∧ (0 ≤ am_m h (a + 5) p ∧ am_m h (a + 5) p < 4096) ∧ ∀ v, 0 ≤ v → v < 12 → am_and (am_shr (am_m h (a + 5) p) v) 1 = ss 9 (12 * v + p)
def CC (h : AH) (a q : Int) (pp ss : TT) : Prop := P3 h a q ∧ CP h q pp ∧ CS h a pp ss ∧ PI pp ∧ SI pp ss ∧ (q + 10 ≤ a ∨ a + 9 ≤ q)
section
variable {h : AH} {a q : Int} {pp ss : TT}
theorem CC.P (c : CC h a q pp ss) : P3 h a q := c.1
theorem CC.Q (c : CC h a q pp ss) : P4 h q := c.2.1.1
theorem CC.nw (c : CC h a q pp ss) : am_m h q 0 = pp 0 0 := c.2.1.2.1
theorem CC.np (c : CC h a q pp ss) : am_m h q 1 = pp 1 0 := c.2.1.2.2.1
theorem CC.nv (c : CC h a q pp ss) : am_m h q 2 = pp 2 0 := c.2.1.2.2.2.1
theorem CC.nb (c : CC h a q pp ss) : am_m h q 3 = pp 3 0 := c.2.1.2.2.2.2.1
theorem CC.cap (c : CC h a q pp ss) {i : Int} (h0 : 0 ≤ i) (h1 : i < pp 0 0) : am_m h (q + 1) i = pp 4 i := c.2.1.2.2.2.2.2.1 i h0 h1
theorem CC.ward (c : CC h a q pp ss) {i : Int} (h0 : 0 ≤ i) (h1 : i < pp 1 0) : am_m h (q + 2) i = pp 5 i := (c.2.1.2.2.2.2.2.2.1 i h0 h1).1
theorem CC.grows (c : CC h a q pp ss) {i : Int} (h0 : 0 ≤ i) (h1 : i < pp 1 0) : am_m h (q + 4) i = pp 6 i := (c.2.1.2.2.2.2.2.2.1 i h0 h1).2
theorem CC.banned (c : CC h a q pp ss) {i : Int} (h0 : 0 ≤ i) (h1 : i < pp 3 0) : am_m h (q + 6) i = pp 7 i := c.2.1.2.2.2.2.2.2.2 i h0 h1
theorem CC.yr (c : CC h a q pp ss) : am_m h a 0 = ss 0 0 := c.2.2.1.1
theorem CC.bud (c : CC h a q pp ss) : am_m h a 1 = ss 1 0 := c.2.2.1.2.1
theorem CC.pot (c : CC h a q pp ss) : am_m h a 6 = ss 2 0 := c.2.2.1.2.2.1
theorem CC.pd (c : CC h a q pp ss) : am_m h a 7 = ss 3 0 := c.2.2.1.2.2.2.1
theorem CC.purse (c : CC h a q pp ss) {i : Int} (h0 : 0 ≤ i) (h1 : i < pp 2 0) : am_m h (a + 1) i = ss 4 i := (c.2.2.1.2.2.2.2.1 i h0 h1).1
theorem CC.gave (c : CC h a q pp ss) {i : Int} (h0 : 0 ≤ i) (h1 : i < pp 2 0) : am_m h (a + 3) i = ss 5 i := (c.2.2.1.2.2.2.2.1 i h0 h1).2
theorem CC.cost (c : CC h a q pp ss) {i : Int} (h0 : 0 ≤ i) (h1 : i < pp 1 0) : am_m h (a + 4) i = ss 6 i := (c.2.2.1.2.2.2.2.2 i h0 h1).1
theorem CC.built (c : CC h a q pp ss) {i : Int} (h0 : 0 ≤ i) (h1 : i < pp 1 0) : am_m h (a + 2) i = ss 7 i := (c.2.2.1.2.2.2.2.2 i h0 h1).2.1
theorem CC.bought (c : CC h a q pp ss) {i : Int} (h0 : 0 ≤ i) (h1 : i < pp 1 0) : am_m h (a + 6) i = ss 8 i := (c.2.2.1.2.2.2.2.2 i h0 h1).2.2.1
theorem CC.fb (c : CC h a q pp ss) {i : Int} (h0 : 0 ≤ i) (h1 : i < pp 1 0) : 0 ≤ am_m h (a + 5) i ∧ am_m h (a + 5) i < 4096 := (c.2.2.1.2.2.2.2.2 i h0 h1).2.2.2.1
theorem CC.fan (c : CC h a q pp ss) {i v : Int} (h0 : 0 ≤ i) (h1 : i < pp 1 0) (h2 : 0 ≤ v) (h3 : v < 12) : am_and (am_shr (am_m h (a + 5) i) v) 1 = ss 9 (12 * v + i) := (c.2.2.1.2.2.2.2.2 i h0 h1).2.2.2.2 v h2 h3
theorem CC.I (c : CC h a q pp ss) : PI pp := c.2.2.2.1
theorem CC.S (c : CC h a q pp ss) : SI pp ss := c.2.2.2.2.1
theorem CC.ap (c : CC h a q pp ss) : q + 10 ≤ a ∨ a + 9 ≤ q := c.2.2.2.2.2
end
section
variable {pp ss : TT}
theorem PI.nw (x : PI pp) : 0 ≤ pp 0 0 ∧ pp 0 0 ≤ 4 := x.1
theorem PI.np (x : PI pp) : 0 ≤ pp 1 0 ∧ pp 1 0 ≤ 12 := x.2.1
theorem PI.nv (x : PI pp) : 0 ≤ pp 2 0 ∧ pp 2 0 ≤ 12 := x.2.2.1
theorem PI.nb (x : PI pp) : 0 ≤ pp 3 0 ∧ pp 3 0 ≤ 12 := x.2.2.2.1
theorem PI.cap (x : PI pp) {i : Int} (h0 : 0 ≤ i) (h1 : i < pp 0 0) : 0 ≤ pp 4 i ∧ pp 4 i ≤ 12 := x.2.2.2.2.1 i h0 h1
theorem PI.ward (x : PI pp) {i : Int} (h0 : 0 ≤ i) (h1 : i < pp 1 0) : 0 ≤ pp 5 i ∧ pp 5 i < pp 0 0 := (x.2.2.2.2.2.1 i h0 h1).1
theorem PI.grows (x : PI pp) {i : Int} (h0 : 0 ≤ i) (h1 : i < pp 1 0) : 0 ≤ pp 6 i ∧ pp 6 i ≤ 50 := (x.2.2.2.2.2.1 i h0 h1).2
theorem PI.banned (x : PI pp) {i : Int} (h0 : 0 ≤ i) (h1 : i < pp 3 0) : 0 ≤ pp 7 i ∧ pp 7 i < pp 1 0 := x.2.2.2.2.2.2 i h0 h1
theorem SI.yr (x : SI pp ss) : 0 ≤ ss 0 0 ∧ ss 0 0 < 2000000000 := x.1
theorem SI.bud (x : SI pp ss) : 0 ≤ ss 1 0 ∧ ss 1 0 ≤ 9999 := x.2.1
theorem SI.pot (x : SI pp ss) : 0 ≤ ss 2 0 ∧ ss 2 0 ≤ 9999 := x.2.2.1
theorem SI.purse (x : SI pp ss) {i : Int} (h0 : 0 ≤ i) (h1 : i < pp 2 0) : 0 ≤ ss 4 i ∧ ss 4 i ≤ 9999 := x.2.2.2.1 i h0 h1
theorem SI.cost (x : SI pp ss) {i : Int} (h0 : 0 ≤ i) (h1 : i < pp 1 0) : 1 ≤ ss 6 i ∧ ss 6 i ≤ 9999 := (x.2.2.2.2.1 i h0 h1).1
theorem SI.built (x : SI pp ss) {i : Int} (h0 : 0 ≤ i) (h1 : i < pp 1 0) : -1 ≤ ss 7 i ∧ ss 7 i ≤ ss 0 0 := (x.2.2.2.2.1 i h0 h1).2.1
theorem SI.bought (x : SI pp ss) {i : Int} (h0 : 0 ≤ i) (h1 : i < pp 1 0) : ss 8 i = 0 ∨ ss 8 i = 1 := (x.2.2.2.2.1 i h0 h1).2.2
theorem SI.fan (x : SI pp ss) (i : Int) : ss 9 i = 0 ∨ ss 9 i = 1 := x.2.2.2.2.2.1 i
theorem SI.nofan (x : SI pp ss) {v p : Int} (h0 : 0 ≤ v) (h1 : 0 ≤ p) (h2 : v < 12) (h3 : p < 12) (h4 : pp 2 0 ≤ v ∨ pp 1 0 ≤ p) : ss 9 (12 * v + p) = 0 := x.2.2.2.2.2.2 v p h0 h1 h2 h3 h4
end
/-! ===== what is told of plan and state, as sums ===== -/
def f_pl (ss : TT) (v p : Int) : Int := if ss 7 p = -1 then 0 else ss 9 (12 * v + p)
def s_pl (pp ss : TT) (v : Int) : Int := sm (f_pl ss v) (pp 1 0).toNat
def f_cf (ss : TT) (p v : Int) : Int := if ss 9 (12 * v + p) = 0 then 0 else ss 4 v
def s_cf (pp ss : TT) (p : Int) : Int := sm (f_cf ss p) (pp 2 0).toNat
def f_tg (ss : TT) (p x v : Int) : Int := if ss 9 (12 * v + p) = 0 then 0 else min x (ss 4 v)
def s_tg (pp ss : TT) (p x : Int) : Int := sm (f_tg ss p x) (pp 2 0).toNat
def f_nf (ss : TT) (p v : Int) : Int := ss 9 (12 * v + p)
def s_nf (pp ss : TT) (p : Int) : Int := sm (f_nf ss p) (pp 2 0).toNat
def f_lk (ss : TT) (v p : Int) : Int := ss 9 (12 * v + p)
def s_lk (pp ss : TT) (v : Int) : Int := sm (f_lk ss v) (pp 1 0).toNat
def f_bc (ss : TT) (p : Int) : Int := if ss 7 p = -1 then 0 else 1
def s_bc (pp ss : TT) : Int := sm (f_bc ss) (pp 1 0).toNat
def f_bo (ss : TT) (p : Int) : Int := ss 8 p
def s_bo (pp ss : TT) : Int := sm (f_bo ss) (pp 1 0).toNat
def f_pu (ss : TT) (v : Int) : Int := ss 4 v
def s_pu (pp ss : TT) : Int := sm (f_pu ss) (pp 2 0).toNat
