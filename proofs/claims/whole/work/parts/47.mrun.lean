/-! ===== the reference's loop over a test ===== -/
section
variable {d : Nat} {h : AH} {u q s e b pos en co x z v w : Int} {pp ss : TT} {K : AK} {st : List Int} {y1 y5 : AV}
theorem stk_top {h : AH} {c v : Int} {st : List Int} (x : stk h c (v :: st)) : am_m h c (st.length : Int) = v := x.1
theorem stk_push {h : AH} {c v : Int} {st : List Int} (x : stk h c st) : stk (am_w h c (st.length : Int) v) c (v :: st) := by
  refine ⟨?_, stk_w x (Or.inr (Int.le_refl _))⟩
  rw [am_m_w, if_pos ⟨rfl, rfl⟩]
/-- year and pot -/
theorem m_yp (c : MM h u q s e b pp ss) (e9 : am_m h (q + 9) pos = mco co) (hc : co = 2 ∨ co = 3) (p0 : 0 ≤ pos) (p1 : pos < en) (p2 : en ≤ 800) (hl : (st.length : Int) < 400) (k : ∀ y5, WP (d + 3) 149 (5, [(2, b), y1, (0, en), (0, (st.length : Int)), (0, pos + 1), y5], [], am_w h (b + 7) (st.length : Int) (sv pp ss co x), 0, 0) K) :
    WP (d + 3) 149 (5, [(2, b), y1, (0, en), (0, (st.length : Int) - 1), (0, pos), y5], [], h, 0, 0) K := by
  have k1 := k (0, mco co)
  refine v149_5 ⟨fun _ => ?_, fun y => absurd p1 y⟩
  rw [w32_id (x := pos + 1) (by omega) (by omega), w32_id (x := (st.length : Int) - 1 + 1) (by omega) (by omega), show (st.length : Int) - 1 + 1 = (st.length : Int) by omega]
  rcases hc with rfl | rfl
  · rw [show mco 2 = 11 from rfl] at e9 k1
    simp only [c.M.t, c.M.f12, c.M.f14, c.M.f15, c.M.f1, c.M.t1, c.M.l1, c.M.f5, c.M.t2, c.M.l2, c.M.f6, c.M.t3, c.M.l3, c.M.f7, c.M.t4, c.M.l4, c.M.f8, c.M.t5, c.M.l5, c.M.f9, c.M.t6, c.M.l6, c.B.t, c.B.f11, c.B.f3, c.B.t1, c.B.l1, c.B.f4, c.B.t2, c.B.l2, c.B.f5, c.B.t3, c.B.l3, c.B.f6, c.B.t4, c.B.l4, c.B.f7, c.B.t5, c.B.l5, c.B.f8, c.B.t6, c.B.l6, c.B.f10, c.B.t7, c.B.l7, c.Q.t, c.Q.f1, c.Q.t1, c.Q.l1, c.Q.f3, c.Q.t2, c.Q.l2, c.Q.f4, c.Q.t3, c.Q.l3, c.Q.f5, c.Q.t4, c.Q.l4, c.Q.f7, c.Q.t5, c.Q.l5, c.Q.f11, c.Q.t6, c.Q.l6, c.Q.f12, c.Q.t7, c.Q.l7, c.Q.f13, c.Q.t8, c.Q.l8, c.Q.f14, c.Q.t9, c.Q.l9, c.Q.f16, c.Q.t10, c.Q.l10, c.nw, c.np, c.nv, c.nb, c.yr, c.pot, c.pd, c.bud, e9, true_and]
    exact ⟨⟨p0, by omega⟩, fun _ => ⟨fun _ => ⟨⟨by omega, hl⟩, k1⟩, fun y => absurd trivial y⟩, fun y => absurd trivial y⟩
  · rw [show mco 3 = 12 from rfl] at e9 k1
    simp only [c.M.t, c.M.f12, c.M.f14, c.M.f15, c.M.f1, c.M.t1, c.M.l1, c.M.f5, c.M.t2, c.M.l2, c.M.f6, c.M.t3, c.M.l3, c.M.f7, c.M.t4, c.M.l4, c.M.f8, c.M.t5, c.M.l5, c.M.f9, c.M.t6, c.M.l6, c.B.t, c.B.f11, c.B.f3, c.B.t1, c.B.l1, c.B.f4, c.B.t2, c.B.l2, c.B.f5, c.B.t3, c.B.l3, c.B.f6, c.B.t4, c.B.l4, c.B.f7, c.B.t5, c.B.l5, c.B.f8, c.B.t6, c.B.l6, c.B.f10, c.B.t7, c.B.l7, c.Q.t, c.Q.f1, c.Q.t1, c.Q.l1, c.Q.f3, c.Q.t2, c.Q.l2, c.Q.f4, c.Q.t3, c.Q.l3, c.Q.f5, c.Q.t4, c.Q.l4, c.Q.f7, c.Q.t5, c.Q.l5, c.Q.f11, c.Q.t6, c.Q.l6, c.Q.f12, c.Q.t7, c.Q.l7, c.Q.f13, c.Q.t8, c.Q.l8, c.Q.f14, c.Q.t9, c.Q.l9, c.Q.f16, c.Q.t10, c.Q.l10, c.nw, c.np, c.nv, c.nb, c.yr, c.pot, c.pd, c.bud, e9, true_and]
    exact ⟨⟨p0, by omega⟩, fun y => absurd y (by decide), fun _ => ⟨fun _ => ⟨fun y => absurd y (by decide), fun _ => ⟨⟨by omega, hl⟩, k1⟩⟩, fun y => absurd trivial y⟩⟩
theorem m_likes (c : MM h u q s e b pp ss) (e9 : am_m h (q + 9) pos = 7) (ex : am_m h (q + 9) (pos + 1) = x) (ez : am_m h (q + 9) (pos + 2) = z) (hx : 0 ≤ x ∧ x < pp 2 0) (hz : 0 ≤ z ∧ z < pp 1 0) (p0 : 0 ≤ pos) (p1 : pos + 3 ≤ en) (p2 : en ≤ 800) (hl : (st.length : Int) < 400) (k : ∀ y5, WP (d + 3) 149 (5, [(2, b), y1, (0, en), (0, (st.length : Int)), (0, pos + 3), y5], [], am_w h (b + 7) (st.length : Int) (ss 9 (12 * x + z)), 0, 0) K) :
    WP (d + 3) 149 (5, [(2, b), y1, (0, en), (0, (st.length : Int) - 1), (0, pos), y5], [], h, 0, 0) K := by
  have k1 := k (0, 7)
  have np := c.I.np
  have bf := c.S.fan (12 * x + z)
  refine v149_5 ⟨fun _ => ?_, fun y => absurd (show pos < en by omega) y⟩
  rw [w32_id (x := pos + 1) (by omega) (by omega), w32_id (x := (st.length : Int) - 1 + 1) (by omega) (by omega), show (st.length : Int) - 1 + 1 = (st.length : Int) by omega, w32_id (x := pos + 1 + 1) (by omega) (by omega), w32_id (x := pos + 1 + 2) (by omega) (by omega), show pos + 1 + 1 = pos + 2 by omega, show pos + 1 + 2 = pos + 3 by omega]
  simp only [c.M.t, c.M.f12, c.M.f14, c.M.f15, c.M.f1, c.M.t1, c.M.l1, c.M.f5, c.M.t2, c.M.l2, c.M.f6, c.M.t3, c.M.l3, c.M.f7, c.M.t4, c.M.l4, c.M.f8, c.M.t5, c.M.l5, c.M.f9, c.M.t6, c.M.l6, c.B.t, c.B.f11, c.B.f3, c.B.t1, c.B.l1, c.B.f4, c.B.t2, c.B.l2, c.B.f5, c.B.t3, c.B.l3, c.B.f6, c.B.t4, c.B.l4, c.B.f7, c.B.t5, c.B.l5, c.B.f8, c.B.t6, c.B.l6, c.B.f10, c.B.t7, c.B.l7, c.Q.t, c.Q.f1, c.Q.t1, c.Q.l1, c.Q.f3, c.Q.t2, c.Q.l2, c.Q.f4, c.Q.t3, c.Q.l3, c.Q.f5, c.Q.t4, c.Q.l4, c.Q.f7, c.Q.t5, c.Q.l5, c.Q.f11, c.Q.t6, c.Q.l6, c.Q.f12, c.Q.t7, c.Q.l7, c.Q.f13, c.Q.t8, c.Q.l8, c.Q.f14, c.Q.t9, c.Q.l9, c.Q.f16, c.Q.t10, c.Q.l10, c.nw, c.np, c.nv, c.nb, c.yr, c.pot, c.pd, c.bud, e9, ex, ez, true_and]
  refine ⟨⟨p0, by omega⟩, fun y => absurd y (by decide), fun _ => ⟨fun y => absurd y (by decide), fun _ => ⟨fun _ => ⟨⟨by omega, by omega⟩, ⟨by omega, by omega⟩, c132 c hx.1 hx.2 hz.1 (by omega) ?_⟩, fun y => absurd trivial y⟩⟩⟩
  refine ⟨fun y => ⟨⟨c.B.t7, by omega, by rw [c.B.l7]; exact hl⟩, ?_⟩, fun y => ⟨⟨c.B.t7, by omega, by rw [c.B.l7]; exact hl⟩, ?_⟩⟩
  · rw [y] at k1
    exact k1
  · rw [show ss 9 (12 * x + z) = 1 by omega] at k1
    exact k1
theorem m_push (c : MM h u q s e b pp ss) (e9 : am_m h (q + 9) pos = mco co) (ex : am_m h (q + 9) (pos + 1) = x) (hc : co = 1 ∨ (4 ≤ co ∧ co ≤ 8)) (hx : (co = 4 ∨ co = 5 ∨ co = 8) → 0 ≤ x ∧ x < pp 1 0) (hy : (co = 6 ∨ co = 7) → 0 ≤ x ∧ x < pp 2 0) (p0 : 0 ≤ pos) (p1 : pos + 2 ≤ en) (p2 : en ≤ 800) (hl : (st.length : Int) < 400) (k : ∀ y5, WP (d + 3) 149 (5, [(2, b), y1, (0, en), (0, (st.length : Int)), (0, pos + 2), y5], [], am_w h (b + 7) (st.length : Int) (sv pp ss co x), 0, 0) K) :
    WP (d + 3) 149 (5, [(2, b), y1, (0, en), (0, (st.length : Int) - 1), (0, pos), y5], [], h, 0, 0) K := by
  have k1 := k (0, mco co)
  have hm : (mco co = 32 ∨ mco co = 3 ∨ (13 ≤ mco co ∧ mco co ≤ 16)) ∧ mco co ≠ 11 ∧ mco co ≠ 12 ∧ mco co ≠ 7 := by
    rcases (show co = 1 ∨ co = 4 ∨ co = 5 ∨ co = 6 ∨ co = 7 ∨ co = 8 by omega) with rfl | rfl | rfl | rfl | rfl | rfl <;> decide
  refine v149_5 ⟨fun _ => ?_, fun y => absurd (show pos < en by omega) y⟩
  rw [w32_id (x := pos + 1) (by omega) (by omega), w32_id (x := (st.length : Int) - 1 + 1) (by omega) (by omega), show (st.length : Int) - 1 + 1 = (st.length : Int) by omega]
  simp only [c.M.t, c.M.f12, c.M.f14, c.M.f15, c.M.f1, c.M.t1, c.M.l1, c.M.f5, c.M.t2, c.M.l2, c.M.f6, c.M.t3, c.M.l3, c.M.f7, c.M.t4, c.M.l4, c.M.f8, c.M.t5, c.M.l5, c.M.f9, c.M.t6, c.M.l6, c.B.t, c.B.f11, c.B.f3, c.B.t1, c.B.l1, c.B.f4, c.B.t2, c.B.l2, c.B.f5, c.B.t3, c.B.l3, c.B.f6, c.B.t4, c.B.l4, c.B.f7, c.B.t5, c.B.l5, c.B.f8, c.B.t6, c.B.l6, c.B.f10, c.B.t7, c.B.l7, c.Q.t, c.Q.f1, c.Q.t1, c.Q.l1, c.Q.f3, c.Q.t2, c.Q.l2, c.Q.f4, c.Q.t3, c.Q.l3, c.Q.f5, c.Q.t4, c.Q.l4, c.Q.f7, c.Q.t5, c.Q.l5, c.Q.f11, c.Q.t6, c.Q.l6, c.Q.f12, c.Q.t7, c.Q.l7, c.Q.f13, c.Q.t8, c.Q.l8, c.Q.f14, c.Q.t9, c.Q.l9, c.Q.f16, c.Q.t10, c.Q.l10, c.nw, c.np, c.nv, c.nb, c.yr, c.pot, c.pd, c.bud, e9, true_and]
  refine ⟨⟨p0, by omega⟩, fun y => absurd y hm.2.1, fun _ => ⟨fun y => absurd y hm.2.2.1, fun _ => ⟨fun y => absurd y hm.2.2.2, fun _ => c158 ?_⟩⟩⟩
  rw [if_pos hm.1]
  refine ⟨fun y => absurd y (by decide), fun _ => ?_⟩
  simp only [c.M.t, c.M.f12, c.M.f14, c.M.f15, c.M.f1, c.M.t1, c.M.l1, c.M.f5, c.M.t2, c.M.l2, c.M.f6, c.M.t3, c.M.l3, c.M.f7, c.M.t4, c.M.l4, c.M.f8, c.M.t5, c.M.l5, c.M.f9, c.M.t6, c.M.l6, c.B.t, c.B.f11, c.B.f3, c.B.t1, c.B.l1, c.B.f4, c.B.t2, c.B.l2, c.B.f5, c.B.t3, c.B.l3, c.B.f6, c.B.t4, c.B.l4, c.B.f7, c.B.t5, c.B.l5, c.B.f8, c.B.t6, c.B.l6, c.B.f10, c.B.t7, c.B.l7, c.Q.t, c.Q.f1, c.Q.t1, c.Q.l1, c.Q.f3, c.Q.t2, c.Q.l2, c.Q.f4, c.Q.t3, c.Q.l3, c.Q.f5, c.Q.t4, c.Q.l4, c.Q.f7, c.Q.t5, c.Q.l5, c.Q.f11, c.Q.t6, c.Q.l6, c.Q.f12, c.Q.t7, c.Q.l7, c.Q.f13, c.Q.t8, c.Q.l8, c.Q.f14, c.Q.t9, c.Q.l9, c.Q.f16, c.Q.t10, c.Q.l10, c.nw, c.np, c.nv, c.nb, c.yr, c.pot, c.pd, c.bud, ex, true_and]
  refine ⟨⟨by omega, by omega⟩, c150 c hc hx hy ⟨⟨c.B.t7, by omega, by rw [c.B.l7]; exact hl⟩, ?_⟩⟩
  rw [w32_id (x := pos + 1 + 1) (by omega) (by omega), show pos + 1 + 1 = pos + 2 by omega]
  exact k1
theorem m_un (c : MM h u q s e b pp ss) (e9 : am_m h (q + 9) pos = mco co) (hs : stk h (b + 7) (v :: st)) (hc : co = 9 ∨ co = 10) (p0 : 0 ≤ pos) (p1 : pos < en) (p2 : en ≤ 800) (hl : (st.length : Int) < 400) (k : ∀ y5, WP (d + 3) 149 (5, [(2, b), y1, (0, en), (0, (st.length : Int)), (0, pos + 1), y5], [], am_w h (b + 7) (st.length : Int) (if co = 9 then w32 (-v) else w32 (1 - v)), 0, 0) K) :
    WP (d + 3) 149 (5, [(2, b), y1, (0, en), (0, (st.length : Int)), (0, pos), y5], [], h, 0, 0) K := by
  have k1 := k (0, mco co)
  have et := stk_top hs
  refine v149_5 ⟨fun _ => ?_, fun y => absurd p1 y⟩
  rw [w32_id (x := pos + 1) (by omega) (by omega)]
  rcases hc with rfl | rfl
  · rw [show mco 9 = 33 from rfl] at e9 k1
    rw [if_pos rfl] at k1
    simp only [c.M.t, c.M.f12, c.M.f14, c.M.f15, c.M.f1, c.M.t1, c.M.l1, c.M.f5, c.M.t2, c.M.l2, c.M.f6, c.M.t3, c.M.l3, c.M.f7, c.M.t4, c.M.l4, c.M.f8, c.M.t5, c.M.l5, c.M.f9, c.M.t6, c.M.l6, c.B.t, c.B.f11, c.B.f3, c.B.t1, c.B.l1, c.B.f4, c.B.t2, c.B.l2, c.B.f5, c.B.t3, c.B.l3, c.B.f6, c.B.t4, c.B.l4, c.B.f7, c.B.t5, c.B.l5, c.B.f8, c.B.t6, c.B.l6, c.B.f10, c.B.t7, c.B.l7, c.Q.t, c.Q.f1, c.Q.t1, c.Q.l1, c.Q.f3, c.Q.t2, c.Q.l2, c.Q.f4, c.Q.t3, c.Q.l3, c.Q.f5, c.Q.t4, c.Q.l4, c.Q.f7, c.Q.t5, c.Q.l5, c.Q.f11, c.Q.t6, c.Q.l6, c.Q.f12, c.Q.t7, c.Q.l7, c.Q.f13, c.Q.t8, c.Q.l8, c.Q.f14, c.Q.t9, c.Q.l9, c.Q.f16, c.Q.t10, c.Q.l10, c.nw, c.np, c.nv, c.nb, c.yr, c.pot, c.pd, c.bud, e9, true_and]
    refine ⟨⟨p0, by omega⟩, fun y => absurd y (by decide), fun _ => ⟨fun y => absurd y (by decide), fun _ => ⟨fun y => absurd y (by decide), fun _ => c158 ?_⟩⟩⟩
    rw [if_neg (by omega)]
    refine ⟨fun _ => ⟨fun _ => ⟨c.B.t, fun _ => ?_, fun y => absurd trivial y⟩, fun y => absurd trivial y⟩, fun y => absurd rfl y⟩
    simp only [c.M.t, c.M.f12, c.M.f14, c.M.f15, c.M.f1, c.M.t1, c.M.l1, c.M.f5, c.M.t2, c.M.l2, c.M.f6, c.M.t3, c.M.l3, c.M.f7, c.M.t4, c.M.l4, c.M.f8, c.M.t5, c.M.l5, c.M.f9, c.M.t6, c.M.l6, c.B.t, c.B.f11, c.B.f3, c.B.t1, c.B.l1, c.B.f4, c.B.t2, c.B.l2, c.B.f5, c.B.t3, c.B.l3, c.B.f6, c.B.t4, c.B.l4, c.B.f7, c.B.t5, c.B.l5, c.B.f8, c.B.t6, c.B.l6, c.B.f10, c.B.t7, c.B.l7, c.Q.t, c.Q.f1, c.Q.t1, c.Q.l1, c.Q.f3, c.Q.t2, c.Q.l2, c.Q.f4, c.Q.t3, c.Q.l3, c.Q.f5, c.Q.t4, c.Q.l4, c.Q.f7, c.Q.t5, c.Q.l5, c.Q.f11, c.Q.t6, c.Q.l6, c.Q.f12, c.Q.t7, c.Q.l7, c.Q.f13, c.Q.t8, c.Q.l8, c.Q.f14, c.Q.t9, c.Q.l9, c.Q.f16, c.Q.t10, c.Q.l10, c.nw, c.np, c.nv, c.nb, c.yr, c.pot, c.pd, c.bud, et, true_and]
    exact ⟨⟨by omega, hl⟩, ⟨by omega, hl⟩, k1⟩
  · rw [show mco 10 = 17 from rfl] at e9 k1
    rw [if_neg (by decide)] at k1
    simp only [c.M.t, c.M.f12, c.M.f14, c.M.f15, c.M.f1, c.M.t1, c.M.l1, c.M.f5, c.M.t2, c.M.l2, c.M.f6, c.M.t3, c.M.l3, c.M.f7, c.M.t4, c.M.l4, c.M.f8, c.M.t5, c.M.l5, c.M.f9, c.M.t6, c.M.l6, c.B.t, c.B.f11, c.B.f3, c.B.t1, c.B.l1, c.B.f4, c.B.t2, c.B.l2, c.B.f5, c.B.t3, c.B.l3, c.B.f6, c.B.t4, c.B.l4, c.B.f7, c.B.t5, c.B.l5, c.B.f8, c.B.t6, c.B.l6, c.B.f10, c.B.t7, c.B.l7, c.Q.t, c.Q.f1, c.Q.t1, c.Q.l1, c.Q.f3, c.Q.t2, c.Q.l2, c.Q.f4, c.Q.t3, c.Q.l3, c.Q.f5, c.Q.t4, c.Q.l4, c.Q.f7, c.Q.t5, c.Q.l5, c.Q.f11, c.Q.t6, c.Q.l6, c.Q.f12, c.Q.t7, c.Q.l7, c.Q.f13, c.Q.t8, c.Q.l8, c.Q.f14, c.Q.t9, c.Q.l9, c.Q.f16, c.Q.t10, c.Q.l10, c.nw, c.np, c.nv, c.nb, c.yr, c.pot, c.pd, c.bud, e9, true_and]
    refine ⟨⟨p0, by omega⟩, fun y => absurd y (by decide), fun _ => ⟨fun y => absurd y (by decide), fun _ => ⟨fun y => absurd y (by decide), fun _ => c158 ?_⟩⟩⟩
    rw [if_neg (by omega)]
    refine ⟨fun _ => ⟨fun y => absurd y (by decide), fun _ => ⟨fun _ => ⟨c.B.t, fun y => absurd y (by decide), fun _ => ?_⟩, fun y => absurd trivial y⟩⟩, fun y => absurd rfl y⟩
    simp only [c.M.t, c.M.f12, c.M.f14, c.M.f15, c.M.f1, c.M.t1, c.M.l1, c.M.f5, c.M.t2, c.M.l2, c.M.f6, c.M.t3, c.M.l3, c.M.f7, c.M.t4, c.M.l4, c.M.f8, c.M.t5, c.M.l5, c.M.f9, c.M.t6, c.M.l6, c.B.t, c.B.f11, c.B.f3, c.B.t1, c.B.l1, c.B.f4, c.B.t2, c.B.l2, c.B.f5, c.B.t3, c.B.l3, c.B.f6, c.B.t4, c.B.l4, c.B.f7, c.B.t5, c.B.l5, c.B.f8, c.B.t6, c.B.l6, c.B.f10, c.B.t7, c.B.l7, c.Q.t, c.Q.f1, c.Q.t1, c.Q.l1, c.Q.f3, c.Q.t2, c.Q.l2, c.Q.f4, c.Q.t3, c.Q.l3, c.Q.f5, c.Q.t4, c.Q.l4, c.Q.f7, c.Q.t5, c.Q.l5, c.Q.f11, c.Q.t6, c.Q.l6, c.Q.f12, c.Q.t7, c.Q.l7, c.Q.f13, c.Q.t8, c.Q.l8, c.Q.f14, c.Q.t9, c.Q.l9, c.Q.f16, c.Q.t10, c.Q.l10, c.nw, c.np, c.nv, c.nb, c.yr, c.pot, c.pd, c.bud, et, true_and]
    exact ⟨⟨by omega, hl⟩, ⟨by omega, hl⟩, k1⟩
theorem m_bin (c : MM h u q s e b pp ss) (e9 : am_m h (q + 9) pos = mco co) (hs : stk h (b + 7) (v :: w :: st)) (hc : 12 ≤ co ∧ co ≤ 24) (p0 : 0 ≤ pos) (p1 : pos < en) (p2 : en ≤ 800) (hl : (st.length : Int) + 1 < 400) (k : ∀ y5, WP (d + 3) 149 (5, [(2, b), y1, (0, en), (0, (st.length : Int)), (0, pos + 1), y5], [], am_w h (b + 7) (st.length : Int) (mbo co w v), 0, 0) K) :
    WP (d + 3) 149 (5, [(2, b), y1, (0, en), (0, (st.length : Int) + 1), (0, pos), y5], [], h, 0, 0) K := by
  have k1 := k (0, mco co)
  have et : am_m h (b + 7) ((st.length : Int) + 1) = v := by
    have := stk_top hs
    simpa using this
  have ew := stk_top hs.2
  have hm : ¬ (mco co = 32 ∨ mco co = 3 ∨ (13 ≤ mco co ∧ mco co ≤ 16)) ∧ mco co ≠ 11 ∧ mco co ≠ 12 ∧ mco co ≠ 7 ∧ mco co ≠ 33 ∧ mco co ≠ 17 := by
    rcases (show co = 12 ∨ co = 13 ∨ co = 14 ∨ co = 15 ∨ co = 16 ∨ co = 17 ∨ co = 18 ∨ co = 19 ∨ co = 20 ∨ co = 21 ∨ co = 22 ∨ co = 23 ∨ co = 24 by omega) with rfl | rfl | rfl | rfl | rfl | rfl | rfl | rfl | rfl | rfl | rfl | rfl | rfl <;> decide
  refine v149_5 ⟨fun _ => ?_, fun y => absurd p1 y⟩
  rw [w32_id (x := pos + 1) (by omega) (by omega), w32_id (x := (st.length : Int) + 1 + (-1)) (by omega) (by omega), show (st.length : Int) + 1 + (-1) = (st.length : Int) by omega, w32_id (x := (st.length : Int) + 1) (by omega) (by omega)]
  simp only [c.M.t, c.M.f12, c.M.f14, c.M.f15, c.M.f1, c.M.t1, c.M.l1, c.M.f5, c.M.t2, c.M.l2, c.M.f6, c.M.t3, c.M.l3, c.M.f7, c.M.t4, c.M.l4, c.M.f8, c.M.t5, c.M.l5, c.M.f9, c.M.t6, c.M.l6, c.B.t, c.B.f11, c.B.f3, c.B.t1, c.B.l1, c.B.f4, c.B.t2, c.B.l2, c.B.f5, c.B.t3, c.B.l3, c.B.f6, c.B.t4, c.B.l4, c.B.f7, c.B.t5, c.B.l5, c.B.f8, c.B.t6, c.B.l6, c.B.f10, c.B.t7, c.B.l7, c.Q.t, c.Q.f1, c.Q.t1, c.Q.l1, c.Q.f3, c.Q.t2, c.Q.l2, c.Q.f4, c.Q.t3, c.Q.l3, c.Q.f5, c.Q.t4, c.Q.l4, c.Q.f7, c.Q.t5, c.Q.l5, c.Q.f11, c.Q.t6, c.Q.l6, c.Q.f12, c.Q.t7, c.Q.l7, c.Q.f13, c.Q.t8, c.Q.l8, c.Q.f14, c.Q.t9, c.Q.l9, c.Q.f16, c.Q.t10, c.Q.l10, c.nw, c.np, c.nv, c.nb, c.yr, c.pot, c.pd, c.bud, e9, true_and]
  refine ⟨⟨p0, by omega⟩, fun y => absurd y hm.2.1, fun _ => ⟨fun y => absurd y hm.2.2.1, fun _ => ⟨fun y => absurd y hm.2.2.2.1, fun _ => c158 ?_⟩⟩⟩
  rw [if_neg hm.1]
  refine ⟨fun _ => ⟨fun y => absurd y hm.2.2.2.2.1, fun _ => ⟨fun y => absurd y hm.2.2.2.2.2, fun _ => ?_⟩⟩, fun y => absurd rfl y⟩
  simp only [c.M.t, c.M.f12, c.M.f14, c.M.f15, c.M.f1, c.M.t1, c.M.l1, c.M.f5, c.M.t2, c.M.l2, c.M.f6, c.M.t3, c.M.l3, c.M.f7, c.M.t4, c.M.l4, c.M.f8, c.M.t5, c.M.l5, c.M.f9, c.M.t6, c.M.l6, c.B.t, c.B.f11, c.B.f3, c.B.t1, c.B.l1, c.B.f4, c.B.t2, c.B.l2, c.B.f5, c.B.t3, c.B.l3, c.B.f6, c.B.t4, c.B.l4, c.B.f7, c.B.t5, c.B.l5, c.B.f8, c.B.t6, c.B.l6, c.B.f10, c.B.t7, c.B.l7, c.Q.t, c.Q.f1, c.Q.t1, c.Q.l1, c.Q.f3, c.Q.t2, c.Q.l2, c.Q.f4, c.Q.t3, c.Q.l3, c.Q.f5, c.Q.t4, c.Q.l4, c.Q.f7, c.Q.t5, c.Q.l5, c.Q.f11, c.Q.t6, c.Q.l6, c.Q.f12, c.Q.t7, c.Q.l7, c.Q.f13, c.Q.t8, c.Q.l8, c.Q.f14, c.Q.t9, c.Q.l9, c.Q.f16, c.Q.t10, c.Q.l10, c.nw, c.np, c.nv, c.nb, c.yr, c.pot, c.pd, c.bud, et, ew, true_and]
  exact ⟨⟨by omega, by omega⟩, ⟨by omega, by omega⟩, c159 hc ⟨⟨c.B.t7, by omega, by rw [c.B.l7]; omega⟩, k1⟩⟩
end
/-- only the stack of the state at b has changed -/
def Fm (b : Int) (h h' : AH) : Prop := am_n h' = am_n h ∧ am_sl h' = am_sl h ∧ (∀ j, am_sx h' j = am_sx h j) ∧ (∀ c, am_t h' c = am_t h c ∧ am_l h' c = am_l h c) ∧ ∀ c i, c ≠ b + 7 → am_m h' c i = am_m h c i
theorem Fm.rf {b : Int} {h : AH} : Fm b h h := ⟨rfl, rfl, fun _ => rfl, fun _ => ⟨rfl, rfl⟩, fun _ _ _ => rfl⟩
theorem Fm.tr {b : Int} {h h1 h2 : AH} (x : Fm b h h1) (y : Fm b h1 h2) : Fm b h h2 := ⟨y.1.trans x.1, y.2.1.trans x.2.1, fun j => (y.2.2.1 j).trans (x.2.2.1 j), fun c => ⟨(y.2.2.2.1 c).1.trans (x.2.2.2.1 c).1, (y.2.2.2.1 c).2.trans (x.2.2.2.1 c).2⟩, fun c i z1 => (y.2.2.2.2 c i z1).trans (x.2.2.2.2 c i z1)⟩
theorem Fm.mpush {h h1 : AH} {b n v : Int} (x : Fm b h h1) : Fm b h (am_w h1 (b + 7) n v) := ⟨x.1, x.2.1, x.2.2.1, x.2.2.2.1, fun c i z1 => by rw [am_m_w, if_neg (fun z => z1 z.1)]; exact x.2.2.2.2 c i z1⟩
theorem Fm.fr {b : Int} {h h1 : AH} (x : Fm b h h1) : Fr b 8 h h1 := ⟨Int.le_of_eq x.1.symm, x.2.1, x.2.2.1, fun c _ => x.2.2.2.1 c, fun c _ z2 i => x.2.2.2.2 c i (by omega)⟩
section
variable {d : Nat} {h0 : AH} {u q s e b en : Int} {pp ss : TT} {K : AK} {y1 : AV}
set_option maxRecDepth 4000 in
theorem m_run : ∀ (L : List Op) {h : AH} {pos : Int} {st : List Int} {t : List Bool} {y5 : AV}, MM h u q s e b pp ss → stk h (b + 7) st → spm h q en pos L → (st.length : Int) + (L.length : Int) ≤ 400 → tst pp L t [true] → kd t st → Fm b h0 h →
    (∀ h2 v, evs pp ss L st = [v] → Fm b h0 h2 → MM h2 u q s e b pp ss → K 0 v h2) → WP (d + 3) 149 (5, [(2, b), y1, (0, en), (0, (st.length : Int) - 1), (0, pos), y5], [], h, 0, 0) K
  | [], h, pos, st, t, y5, c, hs, hp, hl, ht, hk, hf, kk => by
    have ht : t = [true] := ht
    subst ht
    obtain ⟨p1, p0, p2⟩ := hp
    match st, hk with
    | [], hk => exact hk.elim
    | w1 :: w2 :: st, hk => exact hk.2.elim
    | [v], hk =>
      have e1 : am_m h (b + 7) 0 = v := hs.1
      refine v149_5 ⟨fun y => absurd y (by omega), fun _ => ?_⟩
      simp only [c.M.t, c.M.f12, c.M.f14, c.M.f15, c.M.f1, c.M.t1, c.M.l1, c.M.f5, c.M.t2, c.M.l2, c.M.f6, c.M.t3, c.M.l3, c.M.f7, c.M.t4, c.M.l4, c.M.f8, c.M.t5, c.M.l5, c.M.f9, c.M.t6, c.M.l6, c.B.t, c.B.f11, c.B.f3, c.B.t1, c.B.l1, c.B.f4, c.B.t2, c.B.l2, c.B.f5, c.B.t3, c.B.l3, c.B.f6, c.B.t4, c.B.l4, c.B.f7, c.B.t5, c.B.l5, c.B.f8, c.B.t6, c.B.l6, c.B.f10, c.B.t7, c.B.l7, c.Q.t, c.Q.f1, c.Q.t1, c.Q.l1, c.Q.f3, c.Q.t2, c.Q.l2, c.Q.f4, c.Q.t3, c.Q.l3, c.Q.f5, c.Q.t4, c.Q.l4, c.Q.f7, c.Q.t5, c.Q.l5, c.Q.f11, c.Q.t6, c.Q.l6, c.Q.f12, c.Q.t7, c.Q.l7, c.Q.f13, c.Q.t8, c.Q.l8, c.Q.f14, c.Q.t9, c.Q.l9, c.Q.f16, c.Q.t10, c.Q.l10, c.nw, c.np, c.nv, c.nb, c.yr, c.pot, c.pd, c.bud, e1, true_and]
      exact ⟨⟨by omega, by omega⟩, kk _ v rfl hf c⟩
  | o :: r, h, pos, st, t, y5, c, hs, hp, hl, ht, hk, hf, kk => by
    obtain ⟨t1, ht1, ht2⟩ := ht
    have hk1 := kd_evo (ss := ss) c.S ht1 hk
    have nv := c.I.nv
    have ap := c.ap
    have hlr : (((o :: r).length : Nat) : Int) = (r.length : Int) + 1 := by simp
    unfold spm at hp
    obtain ⟨e9, p0, hp⟩ := hp
    have w9 : ∀ {hh : AH} {n v : Int}, ∀ i, am_m (am_w hh (b + 7) n v) (q + 9) i = am_m hh (q + 9) i := fun i => by
      rw [am_m_w, if_neg (by omega)]
    have lc : ∀ x : Int, (((x :: st).length : Nat) : Int) = (st.length : Int) + 1 := fun x => by simp
    have psh : ∀ x, (o.1 = 1 ∨ (4 ≤ o.1 ∧ o.1 ≤ 8)) → o.2.1 = x → ((o.1 = 4 ∨ o.1 = 5 ∨ o.1 = 8) → 0 ≤ x ∧ x < pp 1 0) → ((o.1 = 6 ∨ o.1 = 7) → 0 ≤ x ∧ x < pp 2 0) → WP (d + 3) 149 (5, [(2, b), y1, (0, en), (0, (st.length : Int) - 1), (0, pos), y5], [], h, 0, 0) K := by
      intro x hc ex hx hy
      rw [if_neg (by omega), if_pos hc] at hp
      obtain ⟨f9, hp⟩ := hp
      have hb := spm_bd hp
      rw [ex] at f9
      rw [evo_s (by omega), ex] at hk1
      refine m_push c e9 f9 hc hx hy p0 (by omega) hb.2.2 (by omega) (fun y5 => ?_)
      have := m_run (y5 := y5) r (c.wx (b' := b + 7) (i := (st.length : Int)) (v := sv pp ss o.1 x) (Or.inl rfl)) (stk_push hs) (spm_fr w9 hp) (by rw [lc]; omega) ht2 hk1 hf.mpush (fun h2 v ev2 => kk h2 v (by
        show evs pp ss r (evo pp ss o st) = [v]
        rw [evo_s (by omega), ex]
        exact ev2))
      rw [lc, show (st.length : Int) + 1 - 1 = (st.length : Int) by omega] at this
      exact this
    have ypr : (o.1 = 2 ∨ o.1 = 3) → WP (d + 3) 149 (5, [(2, b), y1, (0, en), (0, (st.length : Int) - 1), (0, pos), y5], [], h, 0, 0) K := by
      intro hc
      rw [if_neg (by omega), if_neg (by omega)] at hp
      have hb := spm_bd hp
      rw [evo_s (by omega)] at hk1
      refine m_yp (x := o.2.1) c e9 hc p0 (by omega) hb.2.2 (by omega) (fun y5 => ?_)
      have := m_run (y5 := y5) r (c.wx (b' := b + 7) (i := (st.length : Int)) (v := sv pp ss o.1 o.2.1) (Or.inl rfl)) (stk_push hs) (spm_fr w9 hp) (by rw [lc]; omega) ht2 hk1 hf.mpush (fun h2 v ev2 => kk h2 v (by
        show evs pp ss r (evo pp ss o st) = [v]
        rw [evo_s (by omega)]
        exact ev2))
      rw [lc, show (st.length : Int) + 1 - 1 = (st.length : Int) by omega] at this
      exact this
    have unr : (o.1 = 9 ∨ o.1 = 10) → ∀ t0 b1, t = b1 :: t0 → WP (d + 3) 149 (5, [(2, b), y1, (0, en), (0, (st.length : Int) - 1), (0, pos), y5], [], h, 0, 0) K := by
      intro hc t0 b1 et
      subst et
      obtain ⟨v, st, rfl, g1, g2⟩ := kd_inv hk
      rw [if_neg (by omega), if_neg (by omega)] at hp
      have hb := spm_bd hp
      have eu : evo pp ss o (v :: st) = (if o.1 = 9 then w32 (-v) else w32 (1 - v)) :: st := by
        rcases hc with hc | hc
        · rw [evo_9 hc, if_pos hc]
        · rw [evo_10 hc, if_neg (by omega)]
      rw [eu] at hk1
      have l1 : (((v :: st).length : Nat) : Int) = (st.length : Int) + 1 := by simp
      rw [l1, show (st.length : Int) + 1 - 1 = (st.length : Int) by omega]
      refine m_un c e9 hs hc p0 (by omega) hb.2.2 (by omega) (fun y5 => ?_)
      have := m_run (y5 := y5) r (c.wx (b' := b + 7) (i := (st.length : Int)) (v := if o.1 = 9 then w32 (-v) else w32 (1 - v)) (Or.inl rfl)) (stk_push hs.2) (spm_fr w9 hp) (by simp; omega) ht2 hk1 hf.mpush (fun h2 v' ev2 => kk h2 v' (by
        show evs pp ss r (evo pp ss o (v :: st)) = [v']
        rw [eu]
        exact ev2))
      rw [show ((((if o.1 = 9 then w32 (-v) else w32 (1 - v)) :: st).length : Nat) : Int) - 1 = (st.length : Int) by simp] at this
      exact this
    have binr : (12 ≤ o.1 ∧ o.1 ≤ 24) → ∀ t0 b1 b2, t = b1 :: b2 :: t0 → (23 ≤ o.1 → b1 = true ∧ b2 = true) → WP (d + 3) 149 (5, [(2, b), y1, (0, en), (0, (st.length : Int) - 1), (0, pos), y5], [], h, 0, 0) K := by
      intro hc t0 b1 b2 et hbt
      subst et
      obtain ⟨v, st, rfl, g1, g2⟩ := kd_inv hk
      obtain ⟨w, st, rfl, g3, g4⟩ := kd_inv g2
      rw [if_neg (by omega), if_neg (by omega)] at hp
      have hb := spm_bd hp
      have em : mbo o.1 w v = if o.1 < 18 then rv o.1 w v else cv o.1 w v := mbo_eq hc (fun z => by
        obtain ⟨z1, z2⟩ := hbt z
        exact ⟨g3 z2, g1 z1⟩)
      have eb : evo pp ss o (v :: w :: st) = mbo o.1 w v :: st := by rw [evo_b hc.1, em]
      rw [eb] at hk1
      have l1 : (((v :: w :: st).length : Nat) : Int) = (st.length : Int) + 2 := by simp; omega
      rw [l1, show (st.length : Int) + 2 - 1 = (st.length : Int) + 1 by omega]
      refine m_bin c e9 hs hc p0 (by omega) hb.2.2 (by omega) (fun y5 => ?_)
      have := m_run (y5 := y5) r (c.wx (b' := b + 7) (i := (st.length : Int)) (v := mbo o.1 w v) (Or.inl rfl)) (stk_push hs.2.2) (spm_fr w9 hp) (by simp; omega) ht2 hk1 hf.mpush (fun h2 v' ev2 => kk h2 v' (by
        show evs pp ss r (evo pp ss o (v :: w :: st)) = [v']
        rw [eb]
        exact ev2))
      rw [show (((mbo o.1 w v :: st).length : Nat) : Int) - 1 = (st.length : Int) by simp] at this
      exact this
    rcases ht1 with ⟨e, rfl⟩ | ⟨e, rfl⟩ | ⟨e, rfl⟩ | ⟨e, hr, rfl⟩ | ⟨e, hr, rfl⟩ | ⟨e, hr, rfl⟩ | ⟨e, hr1, hr2, rfl⟩ | ⟨e, t0, rfl, rfl⟩ | ⟨e, t0, rfl, rfl⟩ | ⟨e, t0, rfl, rfl⟩ | ⟨e, t0, rfl, rfl⟩ | ⟨e, t0, rfl, rfl⟩
    · exact psh _ (by omega) rfl (fun z => absurd z (by omega)) (fun z => absurd z (by omega))
    · exact ypr (by omega)
    · exact ypr (by omega)
    · exact psh _ (by omega) rfl (fun _ => hr) (fun z => absurd z (by omega))
    · exact psh _ (by omega) rfl (fun z => absurd z (by omega)) (fun _ => hr)
    · exact psh _ (by omega) rfl (fun _ => hr) (fun z => absurd z (by omega))
    · rw [if_pos e] at hp
      obtain ⟨f9, g9, hp⟩ := hp
      have hb := spm_bd hp
      rw [e] at e9
      rw [evo_11 e] at hk1
      refine m_likes c e9 f9 g9 hr1 hr2 p0 (by omega) hb.2.2 (by omega) (fun y5 => ?_)
      have := m_run (y5 := y5) r (c.wx (b' := b + 7) (i := (st.length : Int)) (v := ss 9 (12 * o.2.1 + o.2.2)) (Or.inl rfl)) (stk_push hs) (spm_fr w9 hp) (by rw [lc]; omega) ht2 hk1 hf.mpush (fun h2 v ev2 => kk h2 v (by
        show evs pp ss r (evo pp ss o st) = [v]
        rw [evo_11 e]
        exact ev2))
      rw [lc, show (st.length : Int) + 1 - 1 = (st.length : Int) by omega] at this
      exact this
    · exact unr (Or.inl e) _ _ rfl
    · exact unr (Or.inr e) _ _ rfl
    · exact binr (by omega) _ _ _ rfl (fun z => absurd z (by omega))
    · exact binr (by omega) _ _ _ rfl (fun z => absurd z (by omega))
    · exact binr (by omega) _ _ _ rfl (fun z => ⟨rfl, rfl⟩)
end
/-- the tests of the reference's plan at q, as operations -/
def MT (h : AH) (q : Int) (pp : TT) (tt : Int → List Op) : Prop := ∀ i, 0 ≤ i → i < pp 3 0 → tst pp (tt i) [] [true] ∧ ((tt i).length : Int) ≤ 400 ∧ spm h q (am_m h (q + 8) i) (am_m h (q + 7) i) (tt i)
theorem MT.fr {h h1 : AH} {q lo n : Int} {pp : TT} {tt : Int → List Op} (x : MT h q pp tt) (x1 : P7 h q) (fr : Fr lo n h h1) (ap : q + 11 ≤ lo ∨ lo + n ≤ q) : MT h1 q pp tt := by
  have hp := x1.p
  have hb := x1.b
  have e : ∀ j, 0 ≤ j → j < 11 → ∀ i, am_m h1 (q + j) i = am_m h (q + j) i := fun j y1 y2 i => fr.2.2.2.2 (q + j) (by omega) (by omega) i
  intro i z1 z2
  obtain ⟨g1, g2, g3⟩ := x i z1 z2
  refine ⟨g1, g2, ?_⟩
  rw [e 7 (by omega) (by omega), e 8 (by omega) (by omega)]
  exact spm_fr (e 9 (by omega) (by omega)) g3
theorem c149 {d : Nat} {h : AH} {u q s e b i : Int} {pp ss : TT} {tt : Int → List Op} {K : AK} (c : MM h u q s e b pp ss) (ct : MT h q pp tt) (h0 : 0 ≤ i) (h1 : i < pp 3 0) (k : ∀ h2, Fm b h h2 → MM h2 u q s e b pp ss → K 0 (tv pp ss (tt i)) h2) : am_call (d + 3) 149 [(2, b), (0, am_m h (q + 7) i), (0, am_m h (q + 8) i)] h K := by
  refine v149 ?_
  obtain ⟨g1, g2, g3⟩ := ct i h0 h1
  refine m_run (h0 := h) (tt i) (st := []) (t := []) c trivial g3 (by simp; omega) g1 trivial Fm.rf (fun h2 v ev2 f2 c2 => ?_)
  have kq := k h2 f2 c2
  rw [(tv_one (ss := ss) c.S g1).1] at ev2
  cases ev2
  exact kq
theorem c137 {d : Nat} {h : AH} {u q s e b p : Int} {pp ss : TT} {tt : Int → List Op} {K : AK} (c : MM h u q s e b pp ss) (ct : MT h q pp tt) (k : ∀ h2, Fm b h h2 → MM h2 u q s e b pp ss → K 0 (if s_bn pp ss tt p = true then 1 else 0) h2) : am_call (d + 4) 137 [(2, b), (0, p)] h K := by
  refine v137 ?_
  have nb := c.I.nb
  have c0 := c
  have gen : ∀ j : Nat, ∀ i : Nat, i + j = (pp 3 0).toNat → ∀ h1, Fm b h h1 → MM h1 u q s e b pp ss → tbn pp ss tt p i = false → WP (d + 4) 137 (2, [(2, b), (0, p), (0, (i : Int))], [], h1, 0, 0) K := by
    intro j
    induction j with
    | zero =>
      intro i hij h1 f1 c hb
      refine v137_2 ?_
      simp only [c.M.t, c.M.f12, c.M.f14, c.M.f15, c.M.f1, c.M.t1, c.M.l1, c.M.f5, c.M.t2, c.M.l2, c.M.f6, c.M.t3, c.M.l3, c.M.f7, c.M.t4, c.M.l4, c.M.f8, c.M.t5, c.M.l5, c.M.f9, c.M.t6, c.M.l6, c.B.t, c.B.f11, c.B.f3, c.B.t1, c.B.l1, c.B.f4, c.B.t2, c.B.l2, c.B.f5, c.B.t3, c.B.l3, c.B.f6, c.B.t4, c.B.l4, c.B.f7, c.B.t5, c.B.l5, c.B.f8, c.B.t6, c.B.l6, c.B.f10, c.B.t7, c.B.l7, c.Q.t, c.Q.f1, c.Q.t1, c.Q.l1, c.Q.f3, c.Q.t2, c.Q.l2, c.Q.f4, c.Q.t3, c.Q.l3, c.Q.f5, c.Q.t4, c.Q.l4, c.Q.f7, c.Q.t5, c.Q.l5, c.Q.f11, c.Q.t6, c.Q.l6, c.Q.f12, c.Q.t7, c.Q.l7, c.Q.f13, c.Q.t8, c.Q.l8, c.Q.f14, c.Q.t9, c.Q.l9, c.Q.f16, c.Q.t10, c.Q.l10, c.nw, c.np, c.nv, c.nb, c.yr, c.pot, c.pd, c.bud, true_and]
      refine ⟨fun z => absurd z (by omega), fun _ => ⟨Or.inl trivial, ?_⟩⟩
      have kq := k h1 f1 c
      unfold s_bn at kq
      rw [show (pp 3 0).toNat = i by omega, hb] at kq
      exact kq
    | succ j ih =>
      intro i hij h1 f1 c1 hb
      have c := c1
      have ap := c.ap
      have e1 := c.banned (i := (i : Int)) (by omega) (by omega)
      have tail : ∀ h2, Fm b h h2 → MM h2 u q s e b pp ss → tbn pp ss tt p (i + 1) = false → WP (d + 4) 137 (2, [(2, b), (0, p), (0, w32 ((i : Int) + 1))], [], h2, 0, 0) K := fun h2 f2 c2 hb2 => by
        rw [w32_nat (by omega)]
        exact ih (i + 1) (by omega) h2 f2 c2 hb2
      have stop : ∀ h2, Fm b h h2 → MM h2 u q s e b pp ss → tbn pp ss tt p (i + 1) = true → K 0 1 h2 := fun h2 f2 c2 hb2 => by
        have kq := k h2 f2 c2
        have mono : ∀ m : Nat, i + 1 ≤ m → tbn pp ss tt p m = true := by
          intro m
          induction m with
          | zero => intro hm; omega
          | succ m ihm =>
            intro hm
            by_cases hmi : m = i
            · subst hmi; exact hb2
            · show (tbn pp ss tt p m || _) = true
              rw [ihm (by omega)]
              rfl
        unfold s_bn at kq
        rw [mono _ (by omega)] at kq
        exact kq
      refine v137_2 ?_
      simp only [c.M.t, c.M.f12, c.M.f14, c.M.f15, c.M.f1, c.M.t1, c.M.l1, c.M.f5, c.M.t2, c.M.l2, c.M.f6, c.M.t3, c.M.l3, c.M.f7, c.M.t4, c.M.l4, c.M.f8, c.M.t5, c.M.l5, c.M.f9, c.M.t6, c.M.l6, c.B.t, c.B.f11, c.B.f3, c.B.t1, c.B.l1, c.B.f4, c.B.t2, c.B.l2, c.B.f5, c.B.t3, c.B.l3, c.B.f6, c.B.t4, c.B.l4, c.B.f7, c.B.t5, c.B.l5, c.B.f8, c.B.t6, c.B.l6, c.B.f10, c.B.t7, c.B.l7, c.Q.t, c.Q.f1, c.Q.t1, c.Q.l1, c.Q.f3, c.Q.t2, c.Q.l2, c.Q.f4, c.Q.t3, c.Q.l3, c.Q.f5, c.Q.t4, c.Q.l4, c.Q.f7, c.Q.t5, c.Q.l5, c.Q.f11, c.Q.t6, c.Q.l6, c.Q.f12, c.Q.t7, c.Q.l7, c.Q.f13, c.Q.t8, c.Q.l8, c.Q.f14, c.Q.t9, c.Q.l9, c.Q.f16, c.Q.t10, c.Q.l10, c.nw, c.np, c.nv, c.nb, c.yr, c.pot, c.pd, c.bud, e1, true_and]
      refine ⟨fun _ => ⟨⟨by omega, by omega⟩, fun z => ⟨⟨by omega, by omega⟩, ⟨by omega, by omega⟩, c149 c (ct.fr c0.Q f1.fr (by omega)) (by omega) (by omega) (fun h2 f2 c2 => ?_)⟩, fun z => tail h1 f1 c1 ?_⟩, fun z => absurd (show (i : Int) < pp 3 0 by omega) z⟩
      · have z2 := (tv_one (ss := ss) c.S (ct (i : Int) (by omega) (by omega)).1).2
        refine ⟨fun z3 => ⟨Or.inr trivial, stop h2 (f1.tr f2) c2 ?_⟩, fun z3 => tail h2 (f1.tr f2) c2 ?_⟩
        · show (tbn pp ss tt p i || (decide (pp 7 (i : Int) = p) && decide (tv pp ss (tt (i : Int)) = 1))) = true
          rw [hb, z3, z]
          simp
        · show (tbn pp ss tt p i || (decide (pp 7 (i : Int) = p) && decide (tv pp ss (tt (i : Int)) = 1))) = false
          rw [hb]
          simp [z3]
      · show (tbn pp ss tt p i || (decide (pp 7 (i : Int) = p) && decide (tv pp ss (tt (i : Int)) = 1))) = false
        rw [hb]
        simp [z]
  exact gen _ 0 (Nat.zero_add _) h Fm.rf c rfl
