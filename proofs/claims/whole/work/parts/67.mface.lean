/-! ===== the reference as an object: at 53, its state at 71, the one ahead at 79 ===== -/
def GM (h : AH) (pp ss : TT) (tt : Int → List Op) (tl : Int) (tp : Int → Int) (er q : Int) : Prop := (MM h 53 q 71 79 71 pp ss) ∧ (am_m h 71 9 = -1) ∧ (MT h q pp tt) ∧ (S8 h 79 53) ∧ (am_m h 53 2 = tl) ∧ (am_m h 53 3 = er) ∧ (q = 60 ∨ 88 ≤ q) ∧ (∀ p, 0 ≤ p → p < pp 1 0 → ss 7 p < ss 0 0) ∧ (SB pp ss) ∧ (0 ≤ tl ∧ tl ≤ 2000) ∧ (88 ≤ am_n h) ∧ (∀ i, 0 ≤ i → i < tl → am_m h 54 i = tp i)
theorem GM.c {h : AH} {pp ss : TT} {tt : Int → List Op} {tl : Int} {tp : Int → Int} {er q : Int} (x : GM h pp ss tt tl tp er q) : MM h 53 q 71 79 71 pp ss := x.1
theorem GM.lo {h : AH} {pp ss : TT} {tt : Int → List Op} {tl : Int} {tp : Int → Int} {er q : Int} (x : GM h pp ss tt tl tp er q) : am_m h 71 9 = -1 := x.2.1
theorem GM.ct {h : AH} {pp ss : TT} {tt : Int → List Op} {tl : Int} {tp : Int → Int} {er q : Int} (x : GM h pp ss tt tl tp er q) : MT h q pp tt := x.2.2.1
theorem GM.ah {h : AH} {pp ss : TT} {tt : Int → List Op} {tl : Int} {tp : Int → Int} {er q : Int} (x : GM h pp ss tt tl tp er q) : S8 h 79 53 := x.2.2.2.1
theorem GM.tl {h : AH} {pp ss : TT} {tt : Int → List Op} {tl : Int} {tp : Int → Int} {er q : Int} (x : GM h pp ss tt tl tp er q) : am_m h 53 2 = tl := x.2.2.2.2.1
theorem GM.er {h : AH} {pp ss : TT} {tt : Int → List Op} {tl : Int} {tp : Int → Int} {er q : Int} (x : GM h pp ss tt tl tp er q) : am_m h 53 3 = er := x.2.2.2.2.2.1
theorem GM.qd {h : AH} {pp ss : TT} {tt : Int → List Op} {tl : Int} {tp : Int → Int} {er q : Int} (x : GM h pp ss tt tl tp er q) : q = 60 ∨ 88 ≤ q := x.2.2.2.2.2.2.1
theorem GM.hb {h : AH} {pp ss : TT} {tt : Int → List Op} {tl : Int} {tp : Int → Int} {er q : Int} (x : GM h pp ss tt tl tp er q) : ∀ p, 0 ≤ p → p < pp 1 0 → ss 7 p < ss 0 0 := x.2.2.2.2.2.2.2.1
theorem GM.sb {h : AH} {pp ss : TT} {tt : Int → List Op} {tl : Int} {tp : Int → Int} {er q : Int} (x : GM h pp ss tt tl tp er q) : SB pp ss := x.2.2.2.2.2.2.2.2.1
theorem GM.tb {h : AH} {pp ss : TT} {tt : Int → List Op} {tl : Int} {tp : Int → Int} {er q : Int} (x : GM h pp ss tt tl tp er q) : 0 ≤ tl ∧ tl ≤ 2000 := x.2.2.2.2.2.2.2.2.2.1
theorem GM.n {h : AH} {pp ss : TT} {tt : Int → List Op} {tl : Int} {tp : Int → Int} {er q : Int} (x : GM h pp ss tt tl tp er q) : 88 ≤ am_n h := x.2.2.2.2.2.2.2.2.2.2.1
theorem GM.tm {h : AH} {pp ss : TT} {tt : Int → List Op} {tl : Int} {tp : Int → Int} {er q : Int} (x : GM h pp ss tt tl tp er q) : ∀ i, 0 ≤ i → i < tl → am_m h 54 i = tp i := x.2.2.2.2.2.2.2.2.2.2.2
theorem MM.uw {h : AH} {u q s e b i v : Int} {pp ss : TT} (c : MM h u q s e b pp ss) (hi : i = 0 ∨ i = 2 ∨ i = 3) : MM (am_w h u i v) u q s e b pp ss := by
  obtain ⟨x1, x2, x3, x4, x5, x6, x7, x8⟩ := c
  have f : Fr u 1 h (am_w h u i v) := Fr.rf.w (by omega) (by omega)
  by_cases hq : q + 11 ≤ u ∨ u + 1 ≤ q
  · refine ⟨x1.w (by omega), x2.fr f (by omega), x3.fr f (by omega), x4.fr x2 f (by omega), x5, x6, ?_, x8⟩
    rw [am_m_w, if_neg (by omega)]
    exact x7
  · exfalso
    have t7 := x3.1.t
    have t9 := x1.t
    have q1 := x3.1
    by_cases z : q = u
    · subst z
      rw [t9] at t7
      exact absurd t7 (by decide)
    · rcases (show u = q + 1 ∨ u = q + 2 ∨ u = q + 3 ∨ u = q + 4 ∨ u = q + 5 ∨ u = q + 6 ∨ u = q + 7 ∨ u = q + 8 ∨ u = q + 9 ∨ u = q + 10 by omega) with z | z | z | z | z | z | z | z | z | z
      · have := q1.t1; rw [← z, t9] at this; exact absurd this (by decide)
      · have := q1.t2; rw [← z, t9] at this; exact absurd this (by decide)
      · have := q1.t3; rw [← z, t9] at this; exact absurd this (by decide)
      · have := q1.t4; rw [← z, t9] at this; exact absurd this (by decide)
      · have := q1.t5; rw [← z, t9] at this; exact absurd this (by decide)
      · have := q1.t6; rw [← z, t9] at this; exact absurd this (by decide)
      · have := q1.t7; rw [← z, t9] at this; exact absurd this (by decide)
      · have := q1.t8; rw [← z, t9] at this; exact absurd this (by decide)
      · have := q1.t9; rw [← z, t9] at this; exact absurd this (by decide)
      · have := q1.t10; rw [← z, t9] at this; exact absurd this (by decide)
theorem GM.fr {h h1 : AH} {pp ss : TT} {tt : Int → List Op} {tp : Int → Int} {tl er q lo n : Int} (g : GM h pp ss tt tl tp er q) (f : Fr lo n h h1) (hl : lo + n ≤ 53) : GM h1 pp ss tt tl tp er q := by
  have hq := g.qd
  have hn := g.n
  have hf := f.1
  have bq := g.c.Q.b
  exact ⟨g.c.fr f (by omega) (by omega) (by omega), (f.2.2.2.2 71 (by omega) (by omega) 9).trans g.lo, g.ct.fr g.c.Q f (by omega), g.ah.fr f (by omega), (f.2.2.2.2 53 (by omega) (by omega) 2).trans g.tl, (f.2.2.2.2 53 (by omega) (by omega) 3).trans g.er, hq, g.hb, g.sb, g.tb, by omega, fun i z1 z2 => (f.2.2.2.2 54 (by omega) (by omega) i).trans (g.tm i z1 z2)⟩
theorem GM.th {h : AH} {pp ss : TT} {tt : Int → List Op} {tp : Int → Int} {tl er q v : Int} (g : GM h pp ss tt tl tp er q) : GM (am_w h 53 0 v) pp ss tt tl tp er q := by
  have hq := g.qd
  have f : Fr 53 1 h (am_w h 53 0 v) := Fr.rf.w (by decide) (by decide)
  exact ⟨g.c.uw (Or.inl rfl), by rw [am_m_w, if_neg (by omega)]; exact g.lo, g.ct.fr g.c.Q f (by omega), g.ah.fr f (by omega), by rw [am_m_w, if_neg (by omega)]; exact g.tl, by rw [am_m_w, if_neg (by omega)]; exact g.er, hq, g.hb, g.sb, g.tb, g.n, fun i z1 z2 => by rw [am_m_w, if_neg (by omega)]; exact g.tm i z1 z2⟩
/-- the state was written -/
theorem GM.sw {h h1 : AH} {pp ss s2 : TT} {tt : Int → List Op} {tp : Int → Int} {tl er q : Int} (g : GM h pp ss tt tl tp er q) (f : Fr 71 8 h h1) (c2 : MM h1 53 q 71 79 71 pp s2) (lo2 : am_m h1 71 9 = -1) (hb2 : ∀ p, 0 ≤ p → p < pp 1 0 → s2 7 p < s2 0 0) (sb2 : SB pp s2) : GM h1 pp s2 tt tl tp er q := by
  have hq := g.qd
  have hn := g.n
  have hf := f.1
  exact ⟨c2, lo2, g.ct.fr g.c.Q f (by omega), g.ah.fr f (by omega), (f.2.2.2.2 53 (by omega) (by omega) 2).trans g.tl, (f.2.2.2.2 53 (by omega) (by omega) 3).trans g.er, hq, hb2, sb2, g.tb, by omega, fun i z1 z2 => (f.2.2.2.2 54 (by omega) (by omega) i).trans (g.tm i z1 z2)⟩
/-- the state ahead was written -/
theorem GM.aw {h h1 : AH} {pp ss : TT} {tt : Int → List Op} {tp : Int → Int} {tl er q : Int} (g : GM h pp ss tt tl tp er q) (f : Fr 79 8 h h1) (x : S8 h1 79 53) : GM h1 pp ss tt tl tp er q := by
  have hq := g.qd
  have hn := g.n
  have hf := f.1
  exact ⟨g.c.fr f (by omega) (by omega) (by omega), (f.2.2.2.2 71 (by omega) (by omega) 9).trans g.lo, g.ct.fr g.c.Q f (by omega), x, (f.2.2.2.2 53 (by omega) (by omega) 2).trans g.tl, (f.2.2.2.2 53 (by omega) (by omega) 3).trans g.er, hq, g.hb, g.sb, g.tb, by omega, fun i z1 z2 => (f.2.2.2.2 54 (by omega) (by omega) i).trans (g.tm i z1 z2)⟩
/-- GM, with the code of what is thrown -/
def GT (h : AH) (pp ss : TT) (tt : Int → List Op) (tl : Int) (tp : Int → Int) (er q x : Int) : Prop := GM h pp ss tt tl tp er q ∧ am_m h 53 0 = x
theorem GM.t0 {h : AH} {pp ss : TT} {tt : Int → List Op} {tp : Int → Int} {tl er q v : Int} (g : GM h pp ss tt tl tp er q) : GT (am_w h 53 0 v) pp ss tt tl tp er q v := ⟨g.th, by rw [am_m_w, if_pos ⟨rfl, rfl⟩]⟩
theorem f0 {h : AH} {v : Int} : Fr 53 34 h (am_w h 53 0 v) := Fr.rf.w (by decide) (by decide)
theorem c153 {d : Nat} {h : AH} {pp ss : TT} {tt : Int → List Op} {tp : Int → Int} {tl er q x : Int} {K : AK} (g : GM h pp ss tt tl tp er q) (k : ∀ h2, Fr 53 34 h h2 → GT h2 pp ss tt tl tp er q x → K 0 0 h2) : am_call d 153 [(2, 53), (0, x)] h K := by
  refine v153 ?_
  simp only [g.c.M.t, true_and]
  exact k _ f0 g.t0
theorem c155 {d : Nat} {h : AH} {pp ss : TT} {tt : Int → List Op} {tp : Int → Int} {tl er q w : Int} {K : AK} (g : GM h pp ss tt tl tp er q) (k : K 0 (if 0 ≤ w ∧ w < pp 0 0 then 1 else 0) h) : am_call (d + 1) 155 [(2, 53), (0, w)] h K := by
  have nw := g.c.I.nw
  refine v155 ?_
  simp only [g.c.M.t, g.c.M.f12, g.c.Q.t, g.c.nw, true_and]
  rw [w32_id (by omega) (by omega)]
  refine c154 ?_
  rw [show (if 0 ≤ w ∧ w ≤ pp 0 0 - 1 then (1 : Int) else 0) = (if 0 ≤ w ∧ w < pp 0 0 then 1 else 0) from by split <;> split <;> omega]
  exact ⟨by split <;> simp, k⟩
theorem c156 {d : Nat} {h : AH} {pp ss : TT} {tt : Int → List Op} {tp : Int → Int} {tl er q w : Int} {K : AK} (g : GM h pp ss tt tl tp er q) (k : K 0 (if 0 ≤ w ∧ w < pp 1 0 then 1 else 0) h) : am_call (d + 1) 156 [(2, 53), (0, w)] h K := by
  have np := g.c.I.np
  refine v156 ?_
  simp only [g.c.M.t, g.c.M.f12, g.c.Q.t, g.c.np, true_and]
  rw [w32_id (by omega) (by omega)]
  refine c154 ?_
  rw [show (if 0 ≤ w ∧ w ≤ pp 1 0 - 1 then (1 : Int) else 0) = (if 0 ≤ w ∧ w < pp 1 0 then 1 else 0) from by split <;> split <;> omega]
  exact ⟨by split <;> simp, k⟩
theorem c157 {d : Nat} {h : AH} {pp ss : TT} {tt : Int → List Op} {tp : Int → Int} {tl er q w : Int} {K : AK} (g : GM h pp ss tt tl tp er q) (k : K 0 (if 0 ≤ w ∧ w < pp 2 0 then 1 else 0) h) : am_call (d + 1) 157 [(2, 53), (0, w)] h K := by
  have nv := g.c.I.nv
  refine v157 ?_
  simp only [g.c.M.t, g.c.M.f12, g.c.Q.t, g.c.nv, true_and]
  rw [w32_id (by omega) (by omega)]
  refine c154 ?_
  rw [show (if 0 ≤ w ∧ w ≤ pp 2 0 - 1 then (1 : Int) else 0) = (if 0 ≤ w ∧ w < pp 2 0 then 1 else 0) from by split <;> split <;> omega]
  exact ⟨by split <;> simp, k⟩
theorem c202 {d : Nat} {h : AH} {pp ss : TT} {tt : Int → List Op} {tp : Int → Int} {tl er q : Int} {K : AK} (g : GM h pp ss tt tl tp er q) (k : ∀ h2, Fr 53 34 h h2 → GT h2 pp ss tt tl tp er q 0 → K 0 er h2) : am_call d 202 [(2, 53)] h K := by
  have g1 := g.t0 (v := 0)
  refine v202 ?_
  simp only [g.c.M.t, g1.1.c.M.t, g1.1.er, true_and]
  exact k _ f0 g1
/-- a test that fails: an error of kind x -/
theorem if1 {p : Prop} [Decidable p] (z : (if p then (1 : Int) else 0) = 0) : ¬ p := fun y => by rw [if_pos y] at z; exact absurd z (by decide)
theorem if0 {p : Prop} [Decidable p] (z : ¬ (if p then (1 : Int) else 0) = 0) : p := Decidable.byContradiction fun y => z (if_neg y)
theorem c204 {d : Nat} {h : AH} {pp ss : TT} {tt : Int → List Op} {tp : Int → Int} {tl er q w : Int} {K : AK} (g : GM h pp ss tt tl tp er q) (k0 : 0 ≤ w ∧ w ≤ 11 → ∀ h2, Fr 53 34 h h2 → GT h2 pp ss tt tl tp er q 0 → K 0 (s_ct pp ss tl w) h2) (k1 : ¬ (0 ≤ w ∧ w ≤ 11) → ∀ h2, Fr 53 34 h h2 → GT h2 pp ss tt tl tp er q 1 → K 0 0 h2) : am_call (d + 3) 204 [(2, 53), (0, w)] h K := by
  have g1 := (g.t0 (v := 0)).1
  refine v204 ⟨g.c.M.t, c154 ⟨fun z => ⟨g1.c.M.t, c153 g1 (fun h2 f2 g2 => k1 (if1 z) h2 (f0.tr f2) g2)⟩, fun z => ⟨⟨g1.c.M.t, Nat.le_refl _, Nat.le_refl _⟩, c203 g1.c g1.sb g1.tl (if0 z).1 (fun h2 f2 c2 l2 => ?_)⟩⟩⟩
  exact k0 (if0 z) h2 (f0.tr (f2.wide (by decide) (by decide))) ⟨g1.sw f2 c2 (l2.trans g1.lo) g1.hb g1.sb, (f2.2.2.2.2 53 (by have := g.n; show (53 : Int) < am_n h; omega) (by decide) 0).trans (g.t0 (v := 0)).2⟩
theorem c206 {d : Nat} {h : AH} {pp ss : TT} {tt : Int → List Op} {tp : Int → Int} {tl er q w t : Int} {K : AK} (g : GM h pp ss tt tl tp er q) (k0 : (0 ≤ w ∧ w < pp 0 0) ∧ 0 ≤ t ∧ t ≤ 3 → ∀ h2, Fr 53 34 h h2 → GT h2 pp ss tt tl tp er q 0 → K 0 (s_ow pp ss w t) h2) (k1 : ¬ ((0 ≤ w ∧ w < pp 0 0) ∧ 0 ≤ t ∧ t ≤ 3) → ∀ h2, Fr 53 34 h h2 → GT h2 pp ss tt tl tp er q 1 → K 0 0 h2) : am_call (d + 2) 206 [(2, 53), (0, w), (0, t)] h K := by
  have g1 := (g.t0 (v := 0)).1
  refine v206 ⟨g.c.M.t, g1.c.M.t, c155 g1 ⟨fun z => ⟨g1.c.M.t, c153 g1 (fun h2 f2 g2 => k1 (fun y => if1 z y.1) h2 (f0.tr f2) g2)⟩, fun z => c154 ⟨fun z3 => ⟨g1.c.M.t, c153 g1 (fun h2 f2 g2 => k1 (fun y => if1 z3 y.2) h2 (f0.tr f2) g2)⟩, fun z3 => ⟨g1.c.M.t, c205 g1.c (if0 z).1 (if0 z).2 (if0 z3).1 (Int.lt_add_one_of_le (if0 z3).2) (k0 ⟨if0 z, if0 z3⟩ _ f0 g.t0)⟩⟩⟩⟩
theorem c208 {d : Nat} {h : AH} {pp ss : TT} {tt : Int → List Op} {tp : Int → Int} {tl er q p t : Int} {K : AK} (g : GM h pp ss tt tl tp er q) (k0 : (0 ≤ p ∧ p < pp 1 0) ∧ 0 ≤ t ∧ t ≤ 7 → ∀ h2, Fr 53 34 h h2 → GT h2 pp ss tt tl tp er q 0 → K 0 (s_op pp ss tt p t) h2) (k1 : ¬ ((0 ≤ p ∧ p < pp 1 0) ∧ 0 ≤ t ∧ t ≤ 7) → ∀ h2, Fr 53 34 h h2 → GT h2 pp ss tt tl tp er q 1 → K 0 0 h2) : am_call (d + 6) 208 [(2, 53), (0, p), (0, t)] h K := by
  have g1 := (g.t0 (v := 0)).1
  refine v208 ⟨g.c.M.t, g1.c.M.t, c156 g1 ⟨fun z => ⟨g1.c.M.t, c153 g1 (fun h2 f2 g2 => k1 (fun y => if1 z y.1) h2 (f0.tr f2) g2)⟩, fun z => c154 ⟨fun z3 => ⟨g1.c.M.t, c153 g1 (fun h2 f2 g2 => k1 (fun y => if1 z3 y.2) h2 (f0.tr f2) g2)⟩, fun z3 => ⟨⟨g1.c.M.t, Nat.le_refl _, Nat.le_refl _⟩, c207 g1.c g1.ct (if0 z).1 (if0 z).2 (if0 z3).1 (Int.lt_add_one_of_le (if0 z3).2) (fun h2 f2 c2 l2 => ?_)⟩⟩⟩⟩
  exact k0 ⟨if0 z, if0 z3⟩ h2 (f0.tr (f2.wide (by decide) (by decide))) ⟨g1.sw f2 c2 (l2.trans g1.lo) g1.hb g1.sb, (f2.2.2.2.2 53 (by have := g.n; show (53 : Int) < am_n h; omega) (by decide) 0).trans (g.t0 (v := 0)).2⟩
theorem c209 {d : Nat} {h : AH} {pp ss : TT} {tt : Int → List Op} {tp : Int → Int} {tl er q p : Int} {K : AK} (g : GM h pp ss tt tl tp er q) (k0 : (0 ≤ p ∧ p < pp 1 0) → ∀ h2, Fr 53 34 h h2 → GT h2 pp ss tt tl tp er q 0 → K 0 (s_sh pp ss p) h2) (k1 : ¬ (0 ≤ p ∧ p < pp 1 0) → ∀ h2, Fr 53 34 h h2 → GT h2 pp ss tt tl tp er q 1 → K 0 0 h2) : am_call (d + 3) 209 [(2, 53), (0, p)] h K := by
  have g1 := (g.t0 (v := 0)).1
  refine v209 ⟨g.c.M.t, g1.c.M.t, c156 g1 ⟨fun z => ⟨g1.c.M.t, c153 g1 (fun h2 f2 g2 => k1 (if1 z) h2 (f0.tr f2) g2)⟩, fun z => ?_⟩⟩
  simp only [g1.c.M.t, g1.c.M.f14, g1.c.B.t, true_and]
  exact c135 g1.c (if0 z).1 (if0 z).2 (k0 (if0 z) _ f0 g.t0)
theorem c211 {d : Nat} {h : AH} {pp ss : TT} {tt : Int → List Op} {tp : Int → Int} {tl er q v t : Int} {K : AK} (g : GM h pp ss tt tl tp er q) (k0 : (0 ≤ v ∧ v < pp 2 0) ∧ 0 ≤ t ∧ t ≤ 3 → ∀ h2, Fr 53 34 h h2 → GT h2 pp ss tt tl tp er q 0 → K 0 (s_ov pp ss v t) h2) (k1 : ¬ ((0 ≤ v ∧ v < pp 2 0) ∧ 0 ≤ t ∧ t ≤ 3) → ∀ h2, Fr 53 34 h h2 → GT h2 pp ss tt tl tp er q 1 → K 0 0 h2) : am_call (d + 3) 211 [(2, 53), (0, v), (0, t)] h K := by
  have g1 := (g.t0 (v := 0)).1
  refine v211 ⟨g.c.M.t, g1.c.M.t, c157 g1 ⟨fun z => ⟨g1.c.M.t, c153 g1 (fun h2 f2 g2 => k1 (fun y => if1 z y.1) h2 (f0.tr f2) g2)⟩, fun z => c154 ⟨fun z3 => ⟨g1.c.M.t, c153 g1 (fun h2 f2 g2 => k1 (fun y => if1 z3 y.2) h2 (f0.tr f2) g2)⟩, fun z3 => ⟨g1.c.M.t, c210 g1.c (if0 z).1 (if0 z).2 (k0 ⟨if0 z, if0 z3⟩ _ f0 g.t0)⟩⟩⟩⟩
theorem c213 {d : Nat} {h : AH} {pp ss : TT} {tt : Int → List Op} {tp : Int → Int} {tl er q v w : Int} {K : AK} (g : GM h pp ss tt tl tp er q) (k0 : (0 ≤ v ∧ v < pp 2 0) ∧ 0 ≤ w ∧ w < pp 2 0 → ∀ h2, Fr 53 34 h h2 → GT h2 pp ss tt tl tp er q 0 → K 0 (w32 (s_pl pp ss w - s_pl pp ss v)) h2) (k1 : ¬ ((0 ≤ v ∧ v < pp 2 0) ∧ 0 ≤ w ∧ w < pp 2 0) → ∀ h2, Fr 53 34 h h2 → GT h2 pp ss tt tl tp er q 1 → K 0 0 h2) : am_call (d + 2) 213 [(2, 53), (0, v), (0, w)] h K := by
  have g1 := (g.t0 (v := 0)).1
  refine v213 ⟨g.c.M.t, g1.c.M.t, c157 g1 ⟨fun z => ⟨g1.c.M.t, c153 g1 (fun h2 f2 g2 => k1 (fun y => if1 z y.1) h2 (f0.tr f2) g2)⟩, fun z => ⟨g1.c.M.t, c157 g1 ⟨fun z3 => ⟨g1.c.M.t, c153 g1 (fun h2 f2 g2 => k1 (fun y => if1 z3 y.2) h2 (f0.tr f2) g2)⟩, fun z3 => ?_⟩⟩⟩⟩
  simp only [g1.c.M.t, g1.c.M.f14, g1.c.B.t, true_and]
  refine c136 g1.c (if0 z3).1 (if0 z3).2 ?_
  show _ ∧ _
  simp only [g1.c.M.t, g1.c.M.f14, g1.c.B.t, true_and]
  exact c136 g1.c (if0 z).1 (if0 z).2 (k0 ⟨if0 z, if0 z3⟩ _ f0 g.t0)
theorem t130 {d : Nat} {h : AH} {pp ss : TT} {tt : Int → List Op} {tp : Int → Int} {tl er q : Int} {K : AK} (g : GM h pp ss tt tl tp er q) (k : ∀ h2, Fr 79 8 h h2 → MM h2 53 q 71 79 79 pp ss → am_m h2 79 9 = -1 → MT h2 q pp tt → GM h2 pp ss tt tl tp er q → K 0 79 h2) : am_call (d + 1) 130 [(2, 79), (2, 71)] h K := by
  have hq := g.qd
  exact c130 g.c g.ah (by omega) (by omega) (by omega) (fun h2 f c2 l2 => k h2 f c2 l2 (g.ct.fr g.c.Q f (by omega)) (g.aw f c2.B))
theorem c214 {d : Nat} {h : AH} {pp ss : TT} {tt : Int → List Op} {tp : Int → Int} {tl er q : Int} {K : AK} (g : GM h pp ss tt tl tp er q) (k : ∀ h2, Fr 79 8 h h2 → GM h2 pp ss tt tl tp er q → K 0 (s_nx pp (s_col pp ss) tt (-1)) h2) : am_call (d + 7) 214 [(2, 53)] h K := by
  have hq := g.qd
  refine v214 ?_
  simp only [g.c.M.t, g.c.M.f14, g.c.M.f15, g.ah.t, true_and]
  refine t130 g (fun h2 f2 c2 l2 ct2 g2 => ?_)
  show _ ∧ _
  simp only [c2.M.t, c2.M.f15, c2.B.t, true_and]
  refine c139 c2 l2 (fun h3 f3 c3 l3 => ?_)
  have g3 := g2.aw f3 c3.B
  show _ ∧ _
  simp only [c3.M.t, c3.M.f15, c3.B.t, true_and]
  refine c140 c3 l3 (ct2.fr c2.Q f3 (by omega)) (fun h4 f4 c4 => ?_)
  exact k h4 (f2.tr (f3.tr f4.fr)) (g3.aw f4.fr c4.B)
theorem c215 {d : Nat} {h : AH} {pp ss : TT} {tt : Int → List Op} {tp : Int → Int} {tl er q : Int} {K : AK} (g : GM h pp ss tt tl tp er q) (k : ∀ h2, Fr 53 34 h h2 → GT h2 pp ss tt tl tp er q 0 → K 0 (s_nx pp (s_col pp ss) tt (-1)) h2) : am_call (d + 8) 215 [(2, 53)] h K := by
  have g1 := (g.t0 (v := 0)).1
  refine v215 ⟨g.c.M.t, g1.c.M.t, c214 g1 (fun h2 f2 g2 => k h2 (f0.tr (f2.wide (by decide) (by decide))) ⟨g2, (f2.2.2.2.2 53 (by have := g.n; show (53 : Int) < am_n h; omega) (by decide) 0).trans (g.t0 (v := 0)).2⟩)⟩
theorem c218 {d : Nat} {h : AH} {pp ss : TT} {tt : Int → List Op} {tp : Int → Int} {tl er q x : Int} {K : AK} (g : GM h pp ss tt tl tp er q) (k0 : 0 ≤ x ∧ x ≤ 9999 → ∀ h2, Fr 53 34 h h2 → GT h2 pp (su ss 1 0 x) tt tl tp er q 0 → K 0 (ss 1 0) h2) (k1 : ¬ (0 ≤ x ∧ x ≤ 9999) → ∀ h2, Fr 53 34 h h2 → GT h2 pp ss tt tl tp er q 1 → K 0 0 h2) : am_call (d + 1) 218 [(2, 53), (0, x)] h K := by
  have hq := g.qd
  have g1 := (g.t0 (v := 0)).1
  refine v218 ⟨g.c.M.t, c154 ⟨fun z => ⟨g1.c.M.t, c153 g1 (fun h2 f2 g2 => k1 (if1 z) h2 (f0.tr f2) g2)⟩, fun z => ?_⟩⟩
  simp only [g1.c.M.t, g1.c.bud, true_and]
  have f1 : Fr 53 1 (am_w h 53 0 0) (am_w (am_w h 53 0 0) 53 4 x) := Fr.rf.w (by decide) (by decide)
  have cs := g1.c.2.2.2.1.fr g1.c.B f1 (Or.inr (by decide))
  have hs := g1.c.S.u1 (v := x) (if0 z)
  have cm : MM (am_w (am_w h 53 0 0) 53 4 x) 53 q 71 79 71 pp (su ss 1 0 x) := by
    obtain ⟨y1, y2, y3, y5, y6⟩ := cs
    refine ⟨g1.c.M.w (by omega), g1.c.B.fr f1 (by omega), g1.c.2.2.1.fr f1 (by omega), ⟨y1, y2, y3, y5, y6⟩, g1.c.I, hs, by rw [am_m_w, if_pos ⟨rfl, rfl⟩, su_eq], g1.c.ap⟩
  refine k0 (if0 z) _ (f0.tr (f1.wide (by decide) (by decide))) ⟨⟨cm, ?_, g1.ct.fr g1.c.Q f1 (by omega), g1.ah.fr f1 (by omega), ?_, ?_, hq, hb_su g.hb (by decide) (by decide), g.sb.su (by decide) (by decide), g.tb, g.n, fun i z1 z2 => by rw [am_m_w, if_neg (by omega)]; exact g1.tm i z1 z2⟩, ?_⟩
  · rw [am_m_w, if_neg (by omega)]
    exact g1.lo
  · rw [am_m_w, if_neg (by omega)]
    exact g1.tl
  · rw [am_m_w, if_neg (by omega)]
    exact g1.er
  · rw [am_m_w, if_neg (by omega)]
    exact (g.t0 (v := 0)).2
