/-! ===== the reference: what is told of projects, and in all ===== -/
theorem c207 {d : Nat} {h : AH} {u q s e p t : Int} {pp ss : TT} {tt : Int → List Op} {K : AK} (c : MM h u q s e s pp ss) (ct : MT h q pp tt) (h0 : 0 ≤ p) (h1 : p < pp 1 0) (t0 : 0 ≤ t) (t1 : t < 8) (k : ∀ h2, Fr s 8 h h2 → MM h2 u q s e s pp ss → am_m h2 s 9 = am_m h s 9 → K 0 (s_op pp ss tt p t) h2) : am_call (d + 5) 207 [(2, u), (0, p), (0, t)] h K := by
  have np := c.I.np
  have hn : 0 ≤ am_n h := by have := c.M.b; have := c.M.p; omega
  refine v207 ⟨⟨⟨by decide, by decide⟩, Nat.le_refl _, by decide⟩, ?_⟩
  have j0 := JJ.mk (L := 8) (f := s_op pp ss tt p) c
  generalize am_a h 20 8 (fun _ => 0) = g0 at j0 ⊢
  have c0 := j0.1
  have e0 := c0.cost h0 h1
  simp only [c0.M.t, c0.M.f12, c0.M.f14, c0.M.f15, c0.M.f1, c0.M.t1, c0.M.l1, c0.M.f5, c0.M.t2, c0.M.l2, c0.M.f6, c0.M.t3, c0.M.l3, c0.M.f7, c0.M.t4, c0.M.l4, c0.M.f8, c0.M.t5, c0.M.l5, c0.M.f9, c0.M.t6, c0.M.l6, c0.B.t, c0.B.f11, c0.B.f3, c0.B.t1, c0.B.l1, c0.B.f4, c0.B.t2, c0.B.l2, c0.B.f5, c0.B.t3, c0.B.l3, c0.B.f6, c0.B.t4, c0.B.l4, c0.B.f7, c0.B.t5, c0.B.l5, c0.B.f8, c0.B.t6, c0.B.l6, c0.B.f10, c0.B.t7, c0.B.l7, c0.Q.t, c0.Q.f1, c0.Q.t1, c0.Q.l1, c0.Q.f3, c0.Q.t2, c0.Q.l2, c0.Q.f4, c0.Q.t3, c0.Q.l3, c0.Q.f5, c0.Q.t4, c0.Q.l4, c0.Q.f7, c0.Q.t5, c0.Q.l5, c0.Q.f11, c0.Q.t6, c0.Q.l6, c0.Q.f12, c0.Q.t7, c0.Q.l7, c0.Q.f13, c0.Q.t8, c0.Q.l8, c0.Q.f14, c0.Q.t9, c0.Q.l9, c0.Q.f16, c0.Q.t10, c0.Q.l10, c0.nw, c0.np, c0.nv, c0.nb, c0.yr, c0.pot, c0.pd, c0.bud, e0, j0.2.2.2.2.1, j0.2.2.2.2.2.1, true_and]
  refine ⟨⟨h0, by omega⟩, by decide, ?_⟩
  have j1 : JJ h u q s e pp ss 8 (s_op pp ss tt p) (am_w g0 (am_n h) 0 (ss 6 p)) 1 := j0.wr (by simp [s_op])
  generalize am_w g0 (am_n h) 0 (ss 6 p) = g1 at j1 ⊢
  have c1 := j1.1
  refine v207_16 ?_
  have e1 := c1.ward h0 h1
  simp only [c1.M.t, c1.M.f12, c1.M.f14, c1.M.f15, c1.M.f1, c1.M.t1, c1.M.l1, c1.M.f5, c1.M.t2, c1.M.l2, c1.M.f6, c1.M.t3, c1.M.l3, c1.M.f7, c1.M.t4, c1.M.l4, c1.M.f8, c1.M.t5, c1.M.l5, c1.M.f9, c1.M.t6, c1.M.l6, c1.B.t, c1.B.f11, c1.B.f3, c1.B.t1, c1.B.l1, c1.B.f4, c1.B.t2, c1.B.l2, c1.B.f5, c1.B.t3, c1.B.l3, c1.B.f6, c1.B.t4, c1.B.l4, c1.B.f7, c1.B.t5, c1.B.l5, c1.B.f8, c1.B.t6, c1.B.l6, c1.B.f10, c1.B.t7, c1.B.l7, c1.Q.t, c1.Q.f1, c1.Q.t1, c1.Q.l1, c1.Q.f3, c1.Q.t2, c1.Q.l2, c1.Q.f4, c1.Q.t3, c1.Q.l3, c1.Q.f5, c1.Q.t4, c1.Q.l4, c1.Q.f7, c1.Q.t5, c1.Q.l5, c1.Q.f11, c1.Q.t6, c1.Q.l6, c1.Q.f12, c1.Q.t7, c1.Q.l7, c1.Q.f13, c1.Q.t8, c1.Q.l8, c1.Q.f14, c1.Q.t9, c1.Q.l9, c1.Q.f16, c1.Q.t10, c1.Q.l10, c1.nw, c1.np, c1.nv, c1.nb, c1.yr, c1.pot, c1.pd, c1.bud, e1, j1.2.2.2.2.1, j1.2.2.2.2.2.1, true_and]
  refine ⟨⟨h0, by omega⟩, by decide, ?_⟩
  have j2 : JJ h u q s e pp ss 8 (s_op pp ss tt p) (am_w g1 (am_n h) 1 (pp 5 p)) 2 := j1.wr (by simp [s_op])
  generalize am_w g1 (am_n h) 1 (pp 5 p) = g2 at j2 ⊢
  have c2 := j2.1
  refine v207_28 ?_
  have e2 := c2.grows h0 h1
  simp only [c2.M.t, c2.M.f12, c2.M.f14, c2.M.f15, c2.M.f1, c2.M.t1, c2.M.l1, c2.M.f5, c2.M.t2, c2.M.l2, c2.M.f6, c2.M.t3, c2.M.l3, c2.M.f7, c2.M.t4, c2.M.l4, c2.M.f8, c2.M.t5, c2.M.l5, c2.M.f9, c2.M.t6, c2.M.l6, c2.B.t, c2.B.f11, c2.B.f3, c2.B.t1, c2.B.l1, c2.B.f4, c2.B.t2, c2.B.l2, c2.B.f5, c2.B.t3, c2.B.l3, c2.B.f6, c2.B.t4, c2.B.l4, c2.B.f7, c2.B.t5, c2.B.l5, c2.B.f8, c2.B.t6, c2.B.l6, c2.B.f10, c2.B.t7, c2.B.l7, c2.Q.t, c2.Q.f1, c2.Q.t1, c2.Q.l1, c2.Q.f3, c2.Q.t2, c2.Q.l2, c2.Q.f4, c2.Q.t3, c2.Q.l3, c2.Q.f5, c2.Q.t4, c2.Q.l4, c2.Q.f7, c2.Q.t5, c2.Q.l5, c2.Q.f11, c2.Q.t6, c2.Q.l6, c2.Q.f12, c2.Q.t7, c2.Q.l7, c2.Q.f13, c2.Q.t8, c2.Q.l8, c2.Q.f14, c2.Q.t9, c2.Q.l9, c2.Q.f16, c2.Q.t10, c2.Q.l10, c2.nw, c2.np, c2.nv, c2.nb, c2.yr, c2.pot, c2.pd, c2.bud, e2, j2.2.2.2.2.1, j2.2.2.2.2.2.1, true_and]
  refine ⟨⟨h0, by omega⟩, by decide, ?_⟩
  have j3 : JJ h u q s e pp ss 8 (s_op pp ss tt p) (am_w g2 (am_n h) 2 (pp 6 p)) 3 := j2.wr (by simp [s_op])
  generalize am_w g2 (am_n h) 2 (pp 6 p) = g3 at j3 ⊢
  have c3 := j3.1
  refine v207_40 ?_
  simp only [c3.M.t, c3.M.f12, c3.M.f14, c3.M.f15, c3.M.f1, c3.M.t1, c3.M.l1, c3.M.f5, c3.M.t2, c3.M.l2, c3.M.f6, c3.M.t3, c3.M.l3, c3.M.f7, c3.M.t4, c3.M.l4, c3.M.f8, c3.M.t5, c3.M.l5, c3.M.f9, c3.M.t6, c3.M.l6, c3.B.t, c3.B.f11, c3.B.f3, c3.B.t1, c3.B.l1, c3.B.f4, c3.B.t2, c3.B.l2, c3.B.f5, c3.B.t3, c3.B.l3, c3.B.f6, c3.B.t4, c3.B.l4, c3.B.f7, c3.B.t5, c3.B.l5, c3.B.f8, c3.B.t6, c3.B.l6, c3.B.f10, c3.B.t7, c3.B.l7, c3.Q.t, c3.Q.f1, c3.Q.t1, c3.Q.l1, c3.Q.f3, c3.Q.t2, c3.Q.l2, c3.Q.f4, c3.Q.t3, c3.Q.l3, c3.Q.f5, c3.Q.t4, c3.Q.l4, c3.Q.f7, c3.Q.t5, c3.Q.l5, c3.Q.f11, c3.Q.t6, c3.Q.l6, c3.Q.f12, c3.Q.t7, c3.Q.l7, c3.Q.f13, c3.Q.t8, c3.Q.l8, c3.Q.f14, c3.Q.t9, c3.Q.l9, c3.Q.f16, c3.Q.t10, c3.Q.l10, c3.nw, c3.np, c3.nv, c3.nb, c3.yr, c3.pot, c3.pd, c3.bud, true_and]
  refine c133 c3 h0 h1 ?_
  refine v207_50 ?_
  simp only [j3.2.2.2.2.1, j3.2.2.2.2.2.1, true_and]
  refine ⟨by decide, ?_⟩
  have j4 : JJ h u q s e pp ss 8 (s_op pp ss tt p) (am_w g3 (am_n h) 3 (s_nf pp ss p)) 4 := j3.wr (by simp [s_op])
  generalize am_w g3 (am_n h) 3 (s_nf pp ss p) = g4 at j4 ⊢
  have c4 := j4.1
  refine v207_51 ?_
  have e4 := c4.built h0 h1
  simp only [c4.M.t, c4.M.f12, c4.M.f14, c4.M.f15, c4.M.f1, c4.M.t1, c4.M.l1, c4.M.f5, c4.M.t2, c4.M.l2, c4.M.f6, c4.M.t3, c4.M.l3, c4.M.f7, c4.M.t4, c4.M.l4, c4.M.f8, c4.M.t5, c4.M.l5, c4.M.f9, c4.M.t6, c4.M.l6, c4.B.t, c4.B.f11, c4.B.f3, c4.B.t1, c4.B.l1, c4.B.f4, c4.B.t2, c4.B.l2, c4.B.f5, c4.B.t3, c4.B.l3, c4.B.f6, c4.B.t4, c4.B.l4, c4.B.f7, c4.B.t5, c4.B.l5, c4.B.f8, c4.B.t6, c4.B.l6, c4.B.f10, c4.B.t7, c4.B.l7, c4.Q.t, c4.Q.f1, c4.Q.t1, c4.Q.l1, c4.Q.f3, c4.Q.t2, c4.Q.l2, c4.Q.f4, c4.Q.t3, c4.Q.l3, c4.Q.f5, c4.Q.t4, c4.Q.l4, c4.Q.f7, c4.Q.t5, c4.Q.l5, c4.Q.f11, c4.Q.t6, c4.Q.l6, c4.Q.f12, c4.Q.t7, c4.Q.l7, c4.Q.f13, c4.Q.t8, c4.Q.l8, c4.Q.f14, c4.Q.t9, c4.Q.l9, c4.Q.f16, c4.Q.t10, c4.Q.l10, c4.nw, c4.np, c4.nv, c4.nb, c4.yr, c4.pot, c4.pd, c4.bud, e4, j4.2.2.2.2.1, j4.2.2.2.2.2.1, true_and]
  refine ⟨⟨h0, by omega⟩, by decide, ?_⟩
  have j5 : JJ h u q s e pp ss 8 (s_op pp ss tt p) (am_w g4 (am_n h) 4 (ss 7 p)) 5 := j4.wr (by simp [s_op])
  generalize am_w g4 (am_n h) 4 (ss 7 p) = g5 at j5 ⊢
  have c5 := j5.1
  refine v207_63 ?_
  have e5 := c5.bought h0 h1
  simp only [c5.M.t, c5.M.f12, c5.M.f14, c5.M.f15, c5.M.f1, c5.M.t1, c5.M.l1, c5.M.f5, c5.M.t2, c5.M.l2, c5.M.f6, c5.M.t3, c5.M.l3, c5.M.f7, c5.M.t4, c5.M.l4, c5.M.f8, c5.M.t5, c5.M.l5, c5.M.f9, c5.M.t6, c5.M.l6, c5.B.t, c5.B.f11, c5.B.f3, c5.B.t1, c5.B.l1, c5.B.f4, c5.B.t2, c5.B.l2, c5.B.f5, c5.B.t3, c5.B.l3, c5.B.f6, c5.B.t4, c5.B.l4, c5.B.f7, c5.B.t5, c5.B.l5, c5.B.f8, c5.B.t6, c5.B.l6, c5.B.f10, c5.B.t7, c5.B.l7, c5.Q.t, c5.Q.f1, c5.Q.t1, c5.Q.l1, c5.Q.f3, c5.Q.t2, c5.Q.l2, c5.Q.f4, c5.Q.t3, c5.Q.l3, c5.Q.f5, c5.Q.t4, c5.Q.l4, c5.Q.f7, c5.Q.t5, c5.Q.l5, c5.Q.f11, c5.Q.t6, c5.Q.l6, c5.Q.f12, c5.Q.t7, c5.Q.l7, c5.Q.f13, c5.Q.t8, c5.Q.l8, c5.Q.f14, c5.Q.t9, c5.Q.l9, c5.Q.f16, c5.Q.t10, c5.Q.l10, c5.nw, c5.np, c5.nv, c5.nb, c5.yr, c5.pot, c5.pd, c5.bud, e5, j5.2.2.2.2.1, j5.2.2.2.2.2.1, true_and]
  refine ⟨⟨h0, by omega⟩, by decide, ?_⟩
  have j6 : JJ h u q s e pp ss 8 (s_op pp ss tt p) (am_w g5 (am_n h) 5 (ss 8 p)) 6 := j5.wr (by simp [s_op])
  generalize am_w g5 (am_n h) 5 (ss 8 p) = g6 at j6 ⊢
  have c6 := j6.1
  refine v207_75 ?_
  simp only [c6.M.t, c6.M.f12, c6.M.f14, c6.M.f15, c6.M.f1, c6.M.t1, c6.M.l1, c6.M.f5, c6.M.t2, c6.M.l2, c6.M.f6, c6.M.t3, c6.M.l3, c6.M.f7, c6.M.t4, c6.M.l4, c6.M.f8, c6.M.t5, c6.M.l5, c6.M.f9, c6.M.t6, c6.M.l6, c6.B.t, c6.B.f11, c6.B.f3, c6.B.t1, c6.B.l1, c6.B.f4, c6.B.t2, c6.B.l2, c6.B.f5, c6.B.t3, c6.B.l3, c6.B.f6, c6.B.t4, c6.B.l4, c6.B.f7, c6.B.t5, c6.B.l5, c6.B.f8, c6.B.t6, c6.B.l6, c6.B.f10, c6.B.t7, c6.B.l7, c6.Q.t, c6.Q.f1, c6.Q.t1, c6.Q.l1, c6.Q.f3, c6.Q.t2, c6.Q.l2, c6.Q.f4, c6.Q.t3, c6.Q.l3, c6.Q.f5, c6.Q.t4, c6.Q.l4, c6.Q.f7, c6.Q.t5, c6.Q.l5, c6.Q.f11, c6.Q.t6, c6.Q.l6, c6.Q.f12, c6.Q.t7, c6.Q.l7, c6.Q.f13, c6.Q.t8, c6.Q.l8, c6.Q.f14, c6.Q.t9, c6.Q.l9, c6.Q.f16, c6.Q.t10, c6.Q.l10, c6.nw, c6.np, c6.nv, c6.nb, c6.yr, c6.pot, c6.pd, c6.bud, true_and]
  refine c137 c6 (ct.fr c.Q j6.2.1 c.ap.2) (fun h2 f2 c2 => ?_)
  have j6b := j6.fm f2 c2
  have fin : ∀ g, JJ h u q s e pp ss 8 (s_op pp ss tt p) g 7 → WP (d + 5) 207 (95, [(2, u), (0, p), (0, t), (9, 0)], [(2, am_n h)], g, 1, 8) K := fun g7 j7 => by
    have c7 := j7.1
    refine v207_95 ?_
    simp only [c7.M.t, c7.M.f12, c7.M.f14, c7.M.f15, c7.M.f1, c7.M.t1, c7.M.l1, c7.M.f5, c7.M.t2, c7.M.l2, c7.M.f6, c7.M.t3, c7.M.l3, c7.M.f7, c7.M.t4, c7.M.l4, c7.M.f8, c7.M.t5, c7.M.l5, c7.M.f9, c7.M.t6, c7.M.l6, c7.B.t, c7.B.f11, c7.B.f3, c7.B.t1, c7.B.l1, c7.B.f4, c7.B.t2, c7.B.l2, c7.B.f5, c7.B.t3, c7.B.l3, c7.B.f6, c7.B.t4, c7.B.l4, c7.B.f7, c7.B.t5, c7.B.l5, c7.B.f8, c7.B.t6, c7.B.l6, c7.B.f10, c7.B.t7, c7.B.l7, c7.Q.t, c7.Q.f1, c7.Q.t1, c7.Q.l1, c7.Q.f3, c7.Q.t2, c7.Q.l2, c7.Q.f4, c7.Q.t3, c7.Q.l3, c7.Q.f5, c7.Q.t4, c7.Q.l4, c7.Q.f7, c7.Q.t5, c7.Q.l5, c7.Q.f11, c7.Q.t6, c7.Q.l6, c7.Q.f12, c7.Q.t7, c7.Q.l7, c7.Q.f13, c7.Q.t8, c7.Q.l8, c7.Q.f14, c7.Q.t9, c7.Q.l9, c7.Q.f16, c7.Q.t10, c7.Q.l10, c7.nw, c7.np, c7.nv, c7.nb, c7.yr, c7.pot, c7.pd, c7.bud, true_and]
    refine c134 c7 h0 h1 (by decide) ?_
    refine v207_109 ?_
    rw [tg_cf c.I c.S]
    simp only [j7.2.2.2.2.1, j7.2.2.2.2.2.1, true_and]
    refine ⟨by decide, ?_⟩
    have j8 : JJ h u q s e pp ss 8 (s_op pp ss tt p) (am_w g7 (am_n h) 7 (s_cf pp ss p)) 8 := j7.wr (by simp [s_op])
    refine v207_110 ⟨hn, ⟨j8.2.2.2.2.1, t0, by rw [j8.2.2.2.2.2.1]; exact t1⟩, ?_⟩
    rw [j8.2.2.2.2.2.2.2 t t0 t1]
    exact k _ j8.2.1 j8.1 j8.2.2.1
  refine v207_86 ?_
  simp only [j6b.2.2.2.2.1, j6b.2.2.2.2.2.1, true_and]
  cases hb : s_bn pp ss tt p with
  | true =>
    refine ⟨fun z => absurd z (by decide), fun _ => ⟨by decide, fin _ (j6b.wr (j := 6) (by simp [s_op, hb]))⟩⟩
  | false =>
    refine ⟨fun _ => ⟨by decide, fin _ (j6b.wr (j := 6) (by simp [s_op, hb]))⟩, fun z => absurd rfl z⟩
def s_c0 (pp ss : TT) (t : Int) : Int := if t = 0 then ss 0 0 else if t = 1 then pp 0 0 else if t = 2 then pp 1 0 else if t = 3 then pp 2 0 else if t = 4 then pp 3 0 else ss 1 0
def s_ct (pp ss : TT) (tl t : Int) : Int := if 6 ≤ t ∧ t ≤ 10 then s_tot pp ss t else if t < 6 then s_c0 pp ss t else tl
theorem c203 {d : Nat} {h : AH} {u q s e tl t : Int} {pp ss : TT} {K : AK} (c : MM h u q s e s pp ss) (sb : SB pp ss) (etl : am_m h u 2 = tl) (t0 : 0 ≤ t) (k : ∀ h2, Fr s 8 h h2 → MM h2 u q s e s pp ss → am_m h2 s 9 = am_m h s 9 → K 0 (s_ct pp ss tl t) h2) : am_call (d + 2) 203 [(2, u), (0, t)] h K := by
  have hn : 0 ≤ am_n h := by have := c.M.b; have := c.M.p; omega
  unfold s_ct at k
  refine v203 (c154 ?_)
  refine v203_8 ⟨fun z => ?_, fun z => ?_⟩
  · have zt : ¬ (6 ≤ t ∧ t ≤ 10) := fun z2 => by rw [if_pos z2] at z; exact absurd z (by decide)
    simp only [if_neg zt] at k
    refine ⟨⟨⟨by decide, by decide⟩, by decide, by decide⟩, ?_⟩
    have j0 := JJ.mk (L := 6) (f := s_c0 pp ss) c
    generalize am_a h 20 6 (fun _ => 0) = g0 at j0 ⊢
    have c0 := j0.1
    simp only [c0.M.t, c0.M.f12, c0.M.f14, c0.M.f15, c0.M.f1, c0.M.t1, c0.M.l1, c0.M.f5, c0.M.t2, c0.M.l2, c0.M.f6, c0.M.t3, c0.M.l3, c0.M.f7, c0.M.t4, c0.M.l4, c0.M.f8, c0.M.t5, c0.M.l5, c0.M.f9, c0.M.t6, c0.M.l6, c0.B.t, c0.B.f11, c0.B.f3, c0.B.t1, c0.B.l1, c0.B.f4, c0.B.t2, c0.B.l2, c0.B.f5, c0.B.t3, c0.B.l3, c0.B.f6, c0.B.t4, c0.B.l4, c0.B.f7, c0.B.t5, c0.B.l5, c0.B.f8, c0.B.t6, c0.B.l6, c0.B.f10, c0.B.t7, c0.B.l7, c0.Q.t, c0.Q.f1, c0.Q.t1, c0.Q.l1, c0.Q.f3, c0.Q.t2, c0.Q.l2, c0.Q.f4, c0.Q.t3, c0.Q.l3, c0.Q.f5, c0.Q.t4, c0.Q.l4, c0.Q.f7, c0.Q.t5, c0.Q.l5, c0.Q.f11, c0.Q.t6, c0.Q.l6, c0.Q.f12, c0.Q.t7, c0.Q.l7, c0.Q.f13, c0.Q.t8, c0.Q.l8, c0.Q.f14, c0.Q.t9, c0.Q.l9, c0.Q.f16, c0.Q.t10, c0.Q.l10, c0.nw, c0.np, c0.nv, c0.nb, c0.yr, c0.pot, c0.pd, c0.bud, j0.2.2.2.2.1, j0.2.2.2.2.2.1, true_and]
    refine ⟨by decide, ?_⟩
    have j1 : JJ h u q s e pp ss 6 (s_c0 pp ss) (am_w g0 (am_n h) 0 (ss 0 0)) 1 := j0.wr (by simp [s_c0])
    generalize am_w g0 (am_n h) 0 (ss 0 0) = g1 at j1 ⊢
    have c1 := j1.1
    refine v203_34 ?_
    simp only [c1.M.t, c1.M.f12, c1.M.f14, c1.M.f15, c1.M.f1, c1.M.t1, c1.M.l1, c1.M.f5, c1.M.t2, c1.M.l2, c1.M.f6, c1.M.t3, c1.M.l3, c1.M.f7, c1.M.t4, c1.M.l4, c1.M.f8, c1.M.t5, c1.M.l5, c1.M.f9, c1.M.t6, c1.M.l6, c1.B.t, c1.B.f11, c1.B.f3, c1.B.t1, c1.B.l1, c1.B.f4, c1.B.t2, c1.B.l2, c1.B.f5, c1.B.t3, c1.B.l3, c1.B.f6, c1.B.t4, c1.B.l4, c1.B.f7, c1.B.t5, c1.B.l5, c1.B.f8, c1.B.t6, c1.B.l6, c1.B.f10, c1.B.t7, c1.B.l7, c1.Q.t, c1.Q.f1, c1.Q.t1, c1.Q.l1, c1.Q.f3, c1.Q.t2, c1.Q.l2, c1.Q.f4, c1.Q.t3, c1.Q.l3, c1.Q.f5, c1.Q.t4, c1.Q.l4, c1.Q.f7, c1.Q.t5, c1.Q.l5, c1.Q.f11, c1.Q.t6, c1.Q.l6, c1.Q.f12, c1.Q.t7, c1.Q.l7, c1.Q.f13, c1.Q.t8, c1.Q.l8, c1.Q.f14, c1.Q.t9, c1.Q.l9, c1.Q.f16, c1.Q.t10, c1.Q.l10, c1.nw, c1.np, c1.nv, c1.nb, c1.yr, c1.pot, c1.pd, c1.bud, j1.2.2.2.2.1, j1.2.2.2.2.2.1, true_and]
    refine ⟨by decide, ?_⟩
    have j2 : JJ h u q s e pp ss 6 (s_c0 pp ss) (am_w g1 (am_n h) 1 (pp 0 0)) 2 := j1.wr (by simp [s_c0])
    generalize am_w g1 (am_n h) 1 (pp 0 0) = g2 at j2 ⊢
    have c2 := j2.1
    refine v203_44 ?_
    simp only [c2.M.t, c2.M.f12, c2.M.f14, c2.M.f15, c2.M.f1, c2.M.t1, c2.M.l1, c2.M.f5, c2.M.t2, c2.M.l2, c2.M.f6, c2.M.t3, c2.M.l3, c2.M.f7, c2.M.t4, c2.M.l4, c2.M.f8, c2.M.t5, c2.M.l5, c2.M.f9, c2.M.t6, c2.M.l6, c2.B.t, c2.B.f11, c2.B.f3, c2.B.t1, c2.B.l1, c2.B.f4, c2.B.t2, c2.B.l2, c2.B.f5, c2.B.t3, c2.B.l3, c2.B.f6, c2.B.t4, c2.B.l4, c2.B.f7, c2.B.t5, c2.B.l5, c2.B.f8, c2.B.t6, c2.B.l6, c2.B.f10, c2.B.t7, c2.B.l7, c2.Q.t, c2.Q.f1, c2.Q.t1, c2.Q.l1, c2.Q.f3, c2.Q.t2, c2.Q.l2, c2.Q.f4, c2.Q.t3, c2.Q.l3, c2.Q.f5, c2.Q.t4, c2.Q.l4, c2.Q.f7, c2.Q.t5, c2.Q.l5, c2.Q.f11, c2.Q.t6, c2.Q.l6, c2.Q.f12, c2.Q.t7, c2.Q.l7, c2.Q.f13, c2.Q.t8, c2.Q.l8, c2.Q.f14, c2.Q.t9, c2.Q.l9, c2.Q.f16, c2.Q.t10, c2.Q.l10, c2.nw, c2.np, c2.nv, c2.nb, c2.yr, c2.pot, c2.pd, c2.bud, j2.2.2.2.2.1, j2.2.2.2.2.2.1, true_and]
    refine ⟨by decide, ?_⟩
    have j3 : JJ h u q s e pp ss 6 (s_c0 pp ss) (am_w g2 (am_n h) 2 (pp 1 0)) 3 := j2.wr (by simp [s_c0])
    generalize am_w g2 (am_n h) 2 (pp 1 0) = g3 at j3 ⊢
    have c3 := j3.1
    refine v203_54 ?_
    simp only [c3.M.t, c3.M.f12, c3.M.f14, c3.M.f15, c3.M.f1, c3.M.t1, c3.M.l1, c3.M.f5, c3.M.t2, c3.M.l2, c3.M.f6, c3.M.t3, c3.M.l3, c3.M.f7, c3.M.t4, c3.M.l4, c3.M.f8, c3.M.t5, c3.M.l5, c3.M.f9, c3.M.t6, c3.M.l6, c3.B.t, c3.B.f11, c3.B.f3, c3.B.t1, c3.B.l1, c3.B.f4, c3.B.t2, c3.B.l2, c3.B.f5, c3.B.t3, c3.B.l3, c3.B.f6, c3.B.t4, c3.B.l4, c3.B.f7, c3.B.t5, c3.B.l5, c3.B.f8, c3.B.t6, c3.B.l6, c3.B.f10, c3.B.t7, c3.B.l7, c3.Q.t, c3.Q.f1, c3.Q.t1, c3.Q.l1, c3.Q.f3, c3.Q.t2, c3.Q.l2, c3.Q.f4, c3.Q.t3, c3.Q.l3, c3.Q.f5, c3.Q.t4, c3.Q.l4, c3.Q.f7, c3.Q.t5, c3.Q.l5, c3.Q.f11, c3.Q.t6, c3.Q.l6, c3.Q.f12, c3.Q.t7, c3.Q.l7, c3.Q.f13, c3.Q.t8, c3.Q.l8, c3.Q.f14, c3.Q.t9, c3.Q.l9, c3.Q.f16, c3.Q.t10, c3.Q.l10, c3.nw, c3.np, c3.nv, c3.nb, c3.yr, c3.pot, c3.pd, c3.bud, j3.2.2.2.2.1, j3.2.2.2.2.2.1, true_and]
    refine ⟨by decide, ?_⟩
    have j4 : JJ h u q s e pp ss 6 (s_c0 pp ss) (am_w g3 (am_n h) 3 (pp 2 0)) 4 := j3.wr (by simp [s_c0])
    generalize am_w g3 (am_n h) 3 (pp 2 0) = g4 at j4 ⊢
    have c4 := j4.1
    refine v203_64 ?_
    simp only [c4.M.t, c4.M.f12, c4.M.f14, c4.M.f15, c4.M.f1, c4.M.t1, c4.M.l1, c4.M.f5, c4.M.t2, c4.M.l2, c4.M.f6, c4.M.t3, c4.M.l3, c4.M.f7, c4.M.t4, c4.M.l4, c4.M.f8, c4.M.t5, c4.M.l5, c4.M.f9, c4.M.t6, c4.M.l6, c4.B.t, c4.B.f11, c4.B.f3, c4.B.t1, c4.B.l1, c4.B.f4, c4.B.t2, c4.B.l2, c4.B.f5, c4.B.t3, c4.B.l3, c4.B.f6, c4.B.t4, c4.B.l4, c4.B.f7, c4.B.t5, c4.B.l5, c4.B.f8, c4.B.t6, c4.B.l6, c4.B.f10, c4.B.t7, c4.B.l7, c4.Q.t, c4.Q.f1, c4.Q.t1, c4.Q.l1, c4.Q.f3, c4.Q.t2, c4.Q.l2, c4.Q.f4, c4.Q.t3, c4.Q.l3, c4.Q.f5, c4.Q.t4, c4.Q.l4, c4.Q.f7, c4.Q.t5, c4.Q.l5, c4.Q.f11, c4.Q.t6, c4.Q.l6, c4.Q.f12, c4.Q.t7, c4.Q.l7, c4.Q.f13, c4.Q.t8, c4.Q.l8, c4.Q.f14, c4.Q.t9, c4.Q.l9, c4.Q.f16, c4.Q.t10, c4.Q.l10, c4.nw, c4.np, c4.nv, c4.nb, c4.yr, c4.pot, c4.pd, c4.bud, j4.2.2.2.2.1, j4.2.2.2.2.2.1, true_and]
    refine ⟨by decide, ?_⟩
    have j5 : JJ h u q s e pp ss 6 (s_c0 pp ss) (am_w g4 (am_n h) 4 (pp 3 0)) 5 := j4.wr (by simp [s_c0])
    generalize am_w g4 (am_n h) 4 (pp 3 0) = g5 at j5 ⊢
    have c5 := j5.1
    refine v203_74 ?_
    simp only [c5.M.t, c5.M.f12, c5.M.f14, c5.M.f15, c5.M.f1, c5.M.t1, c5.M.l1, c5.M.f5, c5.M.t2, c5.M.l2, c5.M.f6, c5.M.t3, c5.M.l3, c5.M.f7, c5.M.t4, c5.M.l4, c5.M.f8, c5.M.t5, c5.M.l5, c5.M.f9, c5.M.t6, c5.M.l6, c5.B.t, c5.B.f11, c5.B.f3, c5.B.t1, c5.B.l1, c5.B.f4, c5.B.t2, c5.B.l2, c5.B.f5, c5.B.t3, c5.B.l3, c5.B.f6, c5.B.t4, c5.B.l4, c5.B.f7, c5.B.t5, c5.B.l5, c5.B.f8, c5.B.t6, c5.B.l6, c5.B.f10, c5.B.t7, c5.B.l7, c5.Q.t, c5.Q.f1, c5.Q.t1, c5.Q.l1, c5.Q.f3, c5.Q.t2, c5.Q.l2, c5.Q.f4, c5.Q.t3, c5.Q.l3, c5.Q.f5, c5.Q.t4, c5.Q.l4, c5.Q.f7, c5.Q.t5, c5.Q.l5, c5.Q.f11, c5.Q.t6, c5.Q.l6, c5.Q.f12, c5.Q.t7, c5.Q.l7, c5.Q.f13, c5.Q.t8, c5.Q.l8, c5.Q.f14, c5.Q.t9, c5.Q.l9, c5.Q.f16, c5.Q.t10, c5.Q.l10, c5.nw, c5.np, c5.nv, c5.nb, c5.yr, c5.pot, c5.pd, c5.bud, j5.2.2.2.2.1, j5.2.2.2.2.2.1, true_and]
    refine ⟨by decide, ?_⟩
    have j6 : JJ h u q s e pp ss 6 (s_c0 pp ss) (am_w g5 (am_n h) 5 (ss 1 0)) 6 := j5.wr (by simp [s_c0])
    generalize am_w g5 (am_n h) 5 (ss 1 0) = g6 at j6 ⊢
    have c6 := j6.1
    refine v203_81 ⟨hn, fun z2 => ⟨⟨j6.2.2.2.2.1, t0, by rw [j6.2.2.2.2.2.1]; exact z2⟩, ?_⟩, fun z2 => ⟨c6.M.t, ?_⟩⟩
    · rw [j6.2.2.2.2.2.2.2 t t0 z2]
      have k1 := k _ j6.2.1 c6 j6.2.2.1
      rw [if_pos z2] at k1
      exact k1
    · have ap := c.ap
      have k1 := k _ j6.2.1 c6 j6.2.2.1
      rw [if_neg z2] at k1
      rw [j6.2.1.2.2.2.2 u (by have := c.M.b; omega) (by omega) 2, etl]
      exact k1
  · have zt : 6 ≤ t ∧ t ≤ 10 := Decidable.byContradiction fun z2 => z (if_neg z2)
    have k1 := k h Fr.rf c rfl
    rw [if_pos zt] at k1
    refine ⟨c.M.t, ?_⟩
    simp only [c.M.t, c.M.f12, c.M.f14, c.M.f15, c.M.f1, c.M.t1, c.M.l1, c.M.f5, c.M.t2, c.M.l2, c.M.f6, c.M.t3, c.M.l3, c.M.f7, c.M.t4, c.M.l4, c.M.f8, c.M.t5, c.M.l5, c.M.f9, c.M.t6, c.M.l6, c.B.t, c.B.f11, c.B.f3, c.B.t1, c.B.l1, c.B.f4, c.B.t2, c.B.l2, c.B.f5, c.B.t3, c.B.l3, c.B.f6, c.B.t4, c.B.l4, c.B.f7, c.B.t5, c.B.l5, c.B.f8, c.B.t6, c.B.l6, c.B.f10, c.B.t7, c.B.l7, c.Q.t, c.Q.f1, c.Q.t1, c.Q.l1, c.Q.f3, c.Q.t2, c.Q.l2, c.Q.f4, c.Q.t3, c.Q.l3, c.Q.f5, c.Q.t4, c.Q.l4, c.Q.f7, c.Q.t5, c.Q.l5, c.Q.f11, c.Q.t6, c.Q.l6, c.Q.f12, c.Q.t7, c.Q.l7, c.Q.f13, c.Q.t8, c.Q.l8, c.Q.f14, c.Q.t9, c.Q.l9, c.Q.f16, c.Q.t10, c.Q.l10, c.nw, c.np, c.nv, c.nb, c.yr, c.pot, c.pd, c.bud, true_and]
    refine c148 c sb ?_
    exact v203_19 k1
