/-! ===== advice, spare, digest: the reference ===== -/
theorem c223 {d : Nat} {h : AH} {pp ss : TT} {tt : Int → List Op} {tp : Int → Int} {tl er q v n : Int} {K : AK} (g : GM h pp ss tt tl tp er q) (hy : ss 0 0 + 100 < 2000000000) (k0 : (0 ≤ v ∧ v < pp 2 0) ∧ 1 ≤ n ∧ n ≤ 20 → ∀ h2, Fr 53 34 h h2 → GT h2 pp ss tt tl tp er q 0 → K 0 (s_av pp ss tt v n.toNat (pp 1 0).toNat).1 h2) (k2 : (0 ≤ v ∧ v < pp 2 0) ∧ ¬ (1 ≤ n ∧ n ≤ 20) → ∀ h2, Fr 53 34 h h2 → GT h2 pp ss tt tl tp er q 2 → K 0 0 h2) (k1 : ¬ (0 ≤ v ∧ v < pp 2 0) → ∀ h2, Fr 53 34 h h2 → GT h2 pp ss tt tl tp er q 1 → K 0 0 h2) : am_call (d + 9) 223 [(2, 53), (0, v), (0, n)] h K := by
  have np := g.c.I.np
  have nv := g.c.I.nv
  have y0 := g.c.S.yr
  have hq := g.qd
  have gt := g.t0 (v := 0)
  refine v223 ⟨g.c.M.t, gt.1.c.M.t, c157 gt.1 ⟨fun z => ⟨gt.1.c.M.t, c153 gt.1 (fun h2 f2 g2 => k1 (if1 z) h2 (f0.tr f2) g2)⟩, fun z => c154 ⟨fun z3 => ⟨gt.1.c.M.t, c153 gt.1 (fun h2 f2 g2 => k2 ⟨if0 z, if1 z3⟩ h2 (f0.tr f2) g2)⟩, fun z3 => ?_⟩⟩⟩
  have zv := if0 z
  have zn := if0 z3
  have H : ∀ j : Nat, ∀ i : Nat, i + j = (pp 1 0).toNat → ∀ h1 y6, Fr 53 34 h h1 → GT h1 pp ss tt tl tp er q 0 → WP (d + 9) 223 (61, [(2, 53), (0, v), (0, n), (0, (s_av pp ss tt v n.toNat i).1), (0, (s_av pp ss tt v n.toNat i).2), (0, (i : Int)), y6], [], h1, 0, 0) K := by
    intro j
    induction j with
    | zero =>
      intro i hij h1 y6 f g1
      refine v223_61 ?_
      simp only [g1.1.c.M.t, g1.1.c.M.f12, g1.1.c.M.f14, g1.1.c.M.f15, g1.1.c.M.f1, g1.1.c.M.t1, g1.1.c.M.l1, g1.1.c.M.f5, g1.1.c.M.t2, g1.1.c.M.l2, g1.1.c.M.f6, g1.1.c.M.t3, g1.1.c.M.l3, g1.1.c.M.f7, g1.1.c.M.t4, g1.1.c.M.l4, g1.1.c.M.f8, g1.1.c.M.t5, g1.1.c.M.l5, g1.1.c.M.f9, g1.1.c.M.t6, g1.1.c.M.l6, g1.1.c.B.t, g1.1.c.B.f11, g1.1.c.B.f3, g1.1.c.B.t1, g1.1.c.B.l1, g1.1.c.B.f4, g1.1.c.B.t2, g1.1.c.B.l2, g1.1.c.B.f5, g1.1.c.B.t3, g1.1.c.B.l3, g1.1.c.B.f6, g1.1.c.B.t4, g1.1.c.B.l4, g1.1.c.B.f7, g1.1.c.B.t5, g1.1.c.B.l5, g1.1.c.B.f8, g1.1.c.B.t6, g1.1.c.B.l6, g1.1.c.B.f10, g1.1.c.B.t7, g1.1.c.B.l7, g1.1.c.Q.t, g1.1.c.Q.f1, g1.1.c.Q.t1, g1.1.c.Q.l1, g1.1.c.Q.f3, g1.1.c.Q.t2, g1.1.c.Q.l2, g1.1.c.Q.f4, g1.1.c.Q.t3, g1.1.c.Q.l3, g1.1.c.Q.f5, g1.1.c.Q.t4, g1.1.c.Q.l4, g1.1.c.Q.f7, g1.1.c.Q.t5, g1.1.c.Q.l5, g1.1.c.Q.f11, g1.1.c.Q.t6, g1.1.c.Q.l6, g1.1.c.Q.f12, g1.1.c.Q.t7, g1.1.c.Q.l7, g1.1.c.Q.f13, g1.1.c.Q.t8, g1.1.c.Q.l8, g1.1.c.Q.f14, g1.1.c.Q.t9, g1.1.c.Q.l9, g1.1.c.Q.f16, g1.1.c.Q.t10, g1.1.c.Q.l10, g1.1.c.nw, g1.1.c.np, g1.1.c.nv, g1.1.c.nb, g1.1.c.yr, g1.1.c.pot, g1.1.c.pd, g1.1.c.bud, true_and]
      refine ⟨fun z => absurd z (by omega), fun _ => ?_⟩
      have k3 := k0 ⟨zv, zn⟩ h1 f g1
      rw [show (pp 1 0).toNat = i by omega] at k3
      exact k3
    | succ j ih =>
      intro i hij h1 y6 f g1
      have G := ih (i + 1) (by omega)
      have es : s_av pp ss tt v n.toNat (i + 1) = if ss 7 (i : Int) = -1 ∧ ss 9 (12 * v + (i : Int)) = 0 ∧ (s_av pp ss tt v n.toNat i).2 < s_pl pp (s_ys pp tt (-1) n.toNat (su ss 9 (12 * v + (i : Int)) 1)) v then ((i : Int), s_pl pp (s_ys pp tt (-1) n.toNat (su ss 9 (12 * v + (i : Int)) 1)) v) else s_av pp ss tt v n.toNat i := rfl
      rw [es] at G
      generalize s_av pp ss tt v n.toNat i = r at G ⊢
      have eb := g1.1.c.built (i := (i : Int)) (by omega) (by omega)
      refine v223_61 ?_
      simp only [g1.1.c.M.t, g1.1.c.M.f12, g1.1.c.M.f14, g1.1.c.M.f15, g1.1.c.M.f1, g1.1.c.M.t1, g1.1.c.M.l1, g1.1.c.M.f5, g1.1.c.M.t2, g1.1.c.M.l2, g1.1.c.M.f6, g1.1.c.M.t3, g1.1.c.M.l3, g1.1.c.M.f7, g1.1.c.M.t4, g1.1.c.M.l4, g1.1.c.M.f8, g1.1.c.M.t5, g1.1.c.M.l5, g1.1.c.M.f9, g1.1.c.M.t6, g1.1.c.M.l6, g1.1.c.B.t, g1.1.c.B.f11, g1.1.c.B.f3, g1.1.c.B.t1, g1.1.c.B.l1, g1.1.c.B.f4, g1.1.c.B.t2, g1.1.c.B.l2, g1.1.c.B.f5, g1.1.c.B.t3, g1.1.c.B.l3, g1.1.c.B.f6, g1.1.c.B.t4, g1.1.c.B.l4, g1.1.c.B.f7, g1.1.c.B.t5, g1.1.c.B.l5, g1.1.c.B.f8, g1.1.c.B.t6, g1.1.c.B.l6, g1.1.c.B.f10, g1.1.c.B.t7, g1.1.c.B.l7, g1.1.c.Q.t, g1.1.c.Q.f1, g1.1.c.Q.t1, g1.1.c.Q.l1, g1.1.c.Q.f3, g1.1.c.Q.t2, g1.1.c.Q.l2, g1.1.c.Q.f4, g1.1.c.Q.t3, g1.1.c.Q.l3, g1.1.c.Q.f5, g1.1.c.Q.t4, g1.1.c.Q.l4, g1.1.c.Q.f7, g1.1.c.Q.t5, g1.1.c.Q.l5, g1.1.c.Q.f11, g1.1.c.Q.t6, g1.1.c.Q.l6, g1.1.c.Q.f12, g1.1.c.Q.t7, g1.1.c.Q.l7, g1.1.c.Q.f13, g1.1.c.Q.t8, g1.1.c.Q.l8, g1.1.c.Q.f14, g1.1.c.Q.t9, g1.1.c.Q.l9, g1.1.c.Q.f16, g1.1.c.Q.t10, g1.1.c.Q.l10, g1.1.c.nw, g1.1.c.np, g1.1.c.nv, g1.1.c.nb, g1.1.c.yr, g1.1.c.pot, g1.1.c.pd, g1.1.c.bud, eb, true_and]
      rw [w32_nat (by omega)]
      refine ⟨fun _ => ⟨⟨by omega, by omega⟩, fun z7 => ?_, fun z7 => ?_⟩, fun z => absurd (show (i : Int) < pp 1 0 by omega) z⟩
      · refine c132 g1.1.c zv.1 zv.2 (by omega) (by omega) ?_
        show _ ∧ _
        refine ⟨fun z9 => ?_, fun z9 => ?_⟩
        · simp only [g1.1.c.M.t, g1.1.c.M.f12, g1.1.c.M.f14, g1.1.c.M.f15, g1.1.c.M.f1, g1.1.c.M.t1, g1.1.c.M.l1, g1.1.c.M.f5, g1.1.c.M.t2, g1.1.c.M.l2, g1.1.c.M.f6, g1.1.c.M.t3, g1.1.c.M.l3, g1.1.c.M.f7, g1.1.c.M.t4, g1.1.c.M.l4, g1.1.c.M.f8, g1.1.c.M.t5, g1.1.c.M.l5, g1.1.c.M.f9, g1.1.c.M.t6, g1.1.c.M.l6, g1.1.c.B.t, g1.1.c.B.f11, g1.1.c.B.f3, g1.1.c.B.t1, g1.1.c.B.l1, g1.1.c.B.f4, g1.1.c.B.t2, g1.1.c.B.l2, g1.1.c.B.f5, g1.1.c.B.t3, g1.1.c.B.l3, g1.1.c.B.f6, g1.1.c.B.t4, g1.1.c.B.l4, g1.1.c.B.f7, g1.1.c.B.t5, g1.1.c.B.l5, g1.1.c.B.f8, g1.1.c.B.t6, g1.1.c.B.l6, g1.1.c.B.f10, g1.1.c.B.t7, g1.1.c.B.l7, g1.1.c.Q.t, g1.1.c.Q.f1, g1.1.c.Q.t1, g1.1.c.Q.l1, g1.1.c.Q.f3, g1.1.c.Q.t2, g1.1.c.Q.l2, g1.1.c.Q.f4, g1.1.c.Q.t3, g1.1.c.Q.l3, g1.1.c.Q.f5, g1.1.c.Q.t4, g1.1.c.Q.l4, g1.1.c.Q.f7, g1.1.c.Q.t5, g1.1.c.Q.l5, g1.1.c.Q.f11, g1.1.c.Q.t6, g1.1.c.Q.l6, g1.1.c.Q.f12, g1.1.c.Q.t7, g1.1.c.Q.l7, g1.1.c.Q.f13, g1.1.c.Q.t8, g1.1.c.Q.l8, g1.1.c.Q.f14, g1.1.c.Q.t9, g1.1.c.Q.l9, g1.1.c.Q.f16, g1.1.c.Q.t10, g1.1.c.Q.l10, g1.1.c.nw, g1.1.c.np, g1.1.c.nv, g1.1.c.nb, g1.1.c.yr, g1.1.c.pot, g1.1.c.pd, g1.1.c.bud, g1.1.c.M.f15, g1.1.ah.t, true_and]
          refine u130 g1 (fun h2 f2 c2 l2 ct2 g2 => ?_)
          have fb := c2.fb zv.1 zv.2
          have c3 := c2.u9 (p := (i : Int)) (x := 1) (y := am_or (am_m h2 (79 + 3) v) (am_shl 1 (i : Int))) zv.1 zv.2 (by omega) (by omega) (Or.inr rfl) (on_rg fb.1 fb.2 (by omega) (by omega)) (fun m z5 z6 => on_bit (by omega) (by omega) z5 z6)
          have f3 : Fr 79 8 h2 (am_w h2 (79 + 3) v (am_or (am_m h2 (79 + 3) v) (am_shl 1 (i : Int)))) := Fr.rf.w (by decide) (by decide)
          have g3 := g2.aw f3 c3.B
          show _ ∧ _
          simp only [c2.M.t, c2.M.f12, c2.M.f14, c2.M.f15, c2.M.f1, c2.M.t1, c2.M.l1, c2.M.f5, c2.M.t2, c2.M.l2, c2.M.f6, c2.M.t3, c2.M.l3, c2.M.f7, c2.M.t4, c2.M.l4, c2.M.f8, c2.M.t5, c2.M.l5, c2.M.f9, c2.M.t6, c2.M.l6, c2.B.t, c2.B.f11, c2.B.f3, c2.B.t1, c2.B.l1, c2.B.f4, c2.B.t2, c2.B.l2, c2.B.f5, c2.B.t3, c2.B.l3, c2.B.f6, c2.B.t4, c2.B.l4, c2.B.f7, c2.B.t5, c2.B.l5, c2.B.f8, c2.B.t6, c2.B.l6, c2.B.f10, c2.B.t7, c2.B.l7, c2.Q.t, c2.Q.f1, c2.Q.t1, c2.Q.l1, c2.Q.f3, c2.Q.t2, c2.Q.l2, c2.Q.f4, c2.Q.t3, c2.Q.l3, c2.Q.f5, c2.Q.t4, c2.Q.l4, c2.Q.f7, c2.Q.t5, c2.Q.l5, c2.Q.f11, c2.Q.t6, c2.Q.l6, c2.Q.f12, c2.Q.t7, c2.Q.l7, c2.Q.f13, c2.Q.t8, c2.Q.l8, c2.Q.f14, c2.Q.t9, c2.Q.l9, c2.Q.f16, c2.Q.t10, c2.Q.l10, c2.nw, c2.np, c2.nv, c2.nb, c2.yr, c2.pot, c2.pd, c2.bud, c2.M.f15, true_and]
          simp only [c3.M.t, c3.M.f12, c3.M.f14, c3.M.f15, c3.M.f1, c3.M.t1, c3.M.l1, c3.M.f5, c3.M.t2, c3.M.l2, c3.M.f6, c3.M.t3, c3.M.l3, c3.M.f7, c3.M.t4, c3.M.l4, c3.M.f8, c3.M.t5, c3.M.l5, c3.M.f9, c3.M.t6, c3.M.l6, c3.B.t, c3.B.f11, c3.B.f3, c3.B.t1, c3.B.l1, c3.B.f4, c3.B.t2, c3.B.l2, c3.B.f5, c3.B.t3, c3.B.l3, c3.B.f6, c3.B.t4, c3.B.l4, c3.B.f7, c3.B.t5, c3.B.l5, c3.B.f8, c3.B.t6, c3.B.l6, c3.B.f10, c3.B.t7, c3.B.l7, c3.Q.t, c3.Q.f1, c3.Q.t1, c3.Q.l1, c3.Q.f3, c3.Q.t2, c3.Q.l2, c3.Q.f4, c3.Q.t3, c3.Q.l3, c3.Q.f5, c3.Q.t4, c3.Q.l4, c3.Q.f7, c3.Q.t5, c3.Q.l5, c3.Q.f11, c3.Q.t6, c3.Q.l6, c3.Q.f12, c3.Q.t7, c3.Q.l7, c3.Q.f13, c3.Q.t8, c3.Q.l8, c3.Q.f14, c3.Q.t9, c3.Q.l9, c3.Q.f16, c3.Q.t10, c3.Q.l10, c3.nw, c3.np, c3.nv, c3.nb, c3.yr, c3.pot, c3.pd, c3.bud, c3.M.f15, true_and]
          refine ⟨⟨zv.1, by omega⟩, ⟨zv.1, by omega⟩, ?_⟩
          refine c145 (lo := -1) c3 (by rw [am_m_w, if_neg (by omega)]; exact l2) (ct2.fr c2.Q f3 (by omega)) (by omega) (by rw [su_ne (by omega)]; omega) (hb_su g.hb (by decide) (by decide)) (fun h4 f4 c4 l4 hb4 => ?_)
          have g4 := g3.aw f4 c4.B
          have f04 : Fr 53 34 h h4 := f.tr ((f2.tr (f3.tr f4)).wide (by decide) (by decide))
          show _ ∧ _
          simp only [c4.B.t, true_and]
          refine c136 c4 zv.1 zv.2 ?_
          show _ ∧ _
          refine ⟨fun z5 => ?_, fun z5 => ?_⟩
          · rw [if_pos ⟨z7, z9, z5⟩] at G
            exact G h4 _ f04 g4
          · rw [if_neg (fun z => z5 z.2.2)] at G
            exact G h4 _ f04 g4
        · rw [if_neg (fun z => z9 z.2.1)] at G
          exact G h1 _ f g1
      · rw [if_neg (fun z => z7 z.1)] at G
        exact G h1 _ f g1
  have g1 := gt
  simp only [g1.1.c.M.t, g1.1.c.M.f12, g1.1.c.M.f14, g1.1.c.M.f15, g1.1.c.M.f1, g1.1.c.M.t1, g1.1.c.M.l1, g1.1.c.M.f5, g1.1.c.M.t2, g1.1.c.M.l2, g1.1.c.M.f6, g1.1.c.M.t3, g1.1.c.M.l3, g1.1.c.M.f7, g1.1.c.M.t4, g1.1.c.M.l4, g1.1.c.M.f8, g1.1.c.M.t5, g1.1.c.M.l5, g1.1.c.M.f9, g1.1.c.M.t6, g1.1.c.M.l6, g1.1.c.B.t, g1.1.c.B.f11, g1.1.c.B.f3, g1.1.c.B.t1, g1.1.c.B.l1, g1.1.c.B.f4, g1.1.c.B.t2, g1.1.c.B.l2, g1.1.c.B.f5, g1.1.c.B.t3, g1.1.c.B.l3, g1.1.c.B.f6, g1.1.c.B.t4, g1.1.c.B.l4, g1.1.c.B.f7, g1.1.c.B.t5, g1.1.c.B.l5, g1.1.c.B.f8, g1.1.c.B.t6, g1.1.c.B.l6, g1.1.c.B.f10, g1.1.c.B.t7, g1.1.c.B.l7, g1.1.c.Q.t, g1.1.c.Q.f1, g1.1.c.Q.t1, g1.1.c.Q.l1, g1.1.c.Q.f3, g1.1.c.Q.t2, g1.1.c.Q.l2, g1.1.c.Q.f4, g1.1.c.Q.t3, g1.1.c.Q.l3, g1.1.c.Q.f5, g1.1.c.Q.t4, g1.1.c.Q.l4, g1.1.c.Q.f7, g1.1.c.Q.t5, g1.1.c.Q.l5, g1.1.c.Q.f11, g1.1.c.Q.t6, g1.1.c.Q.l6, g1.1.c.Q.f12, g1.1.c.Q.t7, g1.1.c.Q.l7, g1.1.c.Q.f13, g1.1.c.Q.t8, g1.1.c.Q.l8, g1.1.c.Q.f14, g1.1.c.Q.t9, g1.1.c.Q.l9, g1.1.c.Q.f16, g1.1.c.Q.t10, g1.1.c.Q.l10, g1.1.c.nw, g1.1.c.np, g1.1.c.nv, g1.1.c.nb, g1.1.c.yr, g1.1.c.pot, g1.1.c.pd, g1.1.c.bud, g1.1.c.M.f15, g1.1.ah.t, true_and]
  refine u130 g1 (fun h2 f2 c2 l2 ct2 g2 => ?_)
  show _ ∧ _
  simp only [c2.B.t, true_and]
  refine c145 c2 l2 ct2 (by omega) (by omega) g.hb (fun h3 f3 c3 l3 hb3 => ?_)
  show _ ∧ _
  simp only [c3.B.t, true_and]
  refine c136 c3 zv.1 zv.2 ?_
  exact H _ 0 (Nat.zero_add _) h3 _ (f0.tr ((f2.tr f3).wide (by decide) (by decide))) (g2.aw f3 c3.B)
theorem c224 {d : Nat} {h : AH} {pp ss : TT} {tt : Int → List Op} {tp : Int → Int} {tl er q n : Int} {K : AK} (g : GM h pp ss tt tl tp er q) (hy : ss 0 0 + 100 < 2000000000) (k0 : 1 ≤ n ∧ n ≤ 20 → ∀ h2, Fr 53 34 h h2 → GT h2 pp ss tt tl tp er q 0 → K 0 (s_sp pp ss tt n.toNat (pp 1 0).toNat).1 h2) (k1 : ¬ (1 ≤ n ∧ n ≤ 20) → ∀ h2, Fr 53 34 h h2 → GT h2 pp ss tt tl tp er q 1 → K 0 0 h2) : am_call (d + 9) 224 [(2, 53), (0, n)] h K := by
  have np := g.c.I.np
  have y0 := g.c.S.yr
  have hq := g.qd
  have gt := g.t0 (v := 0)
  refine v224 ⟨g.c.M.t, c154 ⟨fun z => ⟨gt.1.c.M.t, c153 gt.1 (fun h2 f2 g2 => k1 (if1 z) h2 (f0.tr f2) g2)⟩, fun z => ?_⟩⟩
  have zn := if0 z
  suffices H : ∀ j : Nat, ∀ i : Nat, i + j = (pp 1 0).toNat → ∀ h1 y5, Fr 53 34 h h1 → GT h1 pp ss tt tl tp er q 0 → WP (d + 9) 224 (28, [(2, 53), (0, n), (0, (s_sp pp ss tt n.toNat i).1), (0, (s_sp pp ss tt n.toNat i).2), (0, (i : Int)), y5], [], h1, 0, 0) K from H _ 0 (Nat.zero_add _) _ _ f0 gt
  intro j
  induction j with
  | zero =>
    intro i hij h1 y5 f g1
    refine v224_28 ?_
    simp only [g1.1.c.M.t, g1.1.c.M.f12, g1.1.c.M.f14, g1.1.c.M.f15, g1.1.c.M.f1, g1.1.c.M.t1, g1.1.c.M.l1, g1.1.c.M.f5, g1.1.c.M.t2, g1.1.c.M.l2, g1.1.c.M.f6, g1.1.c.M.t3, g1.1.c.M.l3, g1.1.c.M.f7, g1.1.c.M.t4, g1.1.c.M.l4, g1.1.c.M.f8, g1.1.c.M.t5, g1.1.c.M.l5, g1.1.c.M.f9, g1.1.c.M.t6, g1.1.c.M.l6, g1.1.c.B.t, g1.1.c.B.f11, g1.1.c.B.f3, g1.1.c.B.t1, g1.1.c.B.l1, g1.1.c.B.f4, g1.1.c.B.t2, g1.1.c.B.l2, g1.1.c.B.f5, g1.1.c.B.t3, g1.1.c.B.l3, g1.1.c.B.f6, g1.1.c.B.t4, g1.1.c.B.l4, g1.1.c.B.f7, g1.1.c.B.t5, g1.1.c.B.l5, g1.1.c.B.f8, g1.1.c.B.t6, g1.1.c.B.l6, g1.1.c.B.f10, g1.1.c.B.t7, g1.1.c.B.l7, g1.1.c.Q.t, g1.1.c.Q.f1, g1.1.c.Q.t1, g1.1.c.Q.l1, g1.1.c.Q.f3, g1.1.c.Q.t2, g1.1.c.Q.l2, g1.1.c.Q.f4, g1.1.c.Q.t3, g1.1.c.Q.l3, g1.1.c.Q.f5, g1.1.c.Q.t4, g1.1.c.Q.l4, g1.1.c.Q.f7, g1.1.c.Q.t5, g1.1.c.Q.l5, g1.1.c.Q.f11, g1.1.c.Q.t6, g1.1.c.Q.l6, g1.1.c.Q.f12, g1.1.c.Q.t7, g1.1.c.Q.l7, g1.1.c.Q.f13, g1.1.c.Q.t8, g1.1.c.Q.l8, g1.1.c.Q.f14, g1.1.c.Q.t9, g1.1.c.Q.l9, g1.1.c.Q.f16, g1.1.c.Q.t10, g1.1.c.Q.l10, g1.1.c.nw, g1.1.c.np, g1.1.c.nv, g1.1.c.nb, g1.1.c.yr, g1.1.c.pot, g1.1.c.pd, g1.1.c.bud, true_and]
    refine ⟨fun z => absurd z (by omega), fun _ => ?_⟩
    have k3 := k0 zn h1 f g1
    rw [show (pp 1 0).toNat = i by omega] at k3
    exact k3
  | succ j ih =>
    intro i hij h1 y5 f g1
    have G := ih (i + 1) (by omega)
    have es : s_sp pp ss tt n.toNat (i + 1) = if ss 7 (i : Int) = -1 ∧ (s_sp pp ss tt n.toNat i).2 < s_bc pp (s_ys pp tt (i : Int) n.toNat ss) then ((i : Int), s_bc pp (s_ys pp tt (i : Int) n.toNat ss)) else s_sp pp ss tt n.toNat i := rfl
    rw [es] at G
    generalize s_sp pp ss tt n.toNat i = r at G ⊢
    have eb := g1.1.c.built (i := (i : Int)) (by omega) (by omega)
    refine v224_28 ?_
    simp only [g1.1.c.M.t, g1.1.c.M.f12, g1.1.c.M.f14, g1.1.c.M.f15, g1.1.c.M.f1, g1.1.c.M.t1, g1.1.c.M.l1, g1.1.c.M.f5, g1.1.c.M.t2, g1.1.c.M.l2, g1.1.c.M.f6, g1.1.c.M.t3, g1.1.c.M.l3, g1.1.c.M.f7, g1.1.c.M.t4, g1.1.c.M.l4, g1.1.c.M.f8, g1.1.c.M.t5, g1.1.c.M.l5, g1.1.c.M.f9, g1.1.c.M.t6, g1.1.c.M.l6, g1.1.c.B.t, g1.1.c.B.f11, g1.1.c.B.f3, g1.1.c.B.t1, g1.1.c.B.l1, g1.1.c.B.f4, g1.1.c.B.t2, g1.1.c.B.l2, g1.1.c.B.f5, g1.1.c.B.t3, g1.1.c.B.l3, g1.1.c.B.f6, g1.1.c.B.t4, g1.1.c.B.l4, g1.1.c.B.f7, g1.1.c.B.t5, g1.1.c.B.l5, g1.1.c.B.f8, g1.1.c.B.t6, g1.1.c.B.l6, g1.1.c.B.f10, g1.1.c.B.t7, g1.1.c.B.l7, g1.1.c.Q.t, g1.1.c.Q.f1, g1.1.c.Q.t1, g1.1.c.Q.l1, g1.1.c.Q.f3, g1.1.c.Q.t2, g1.1.c.Q.l2, g1.1.c.Q.f4, g1.1.c.Q.t3, g1.1.c.Q.l3, g1.1.c.Q.f5, g1.1.c.Q.t4, g1.1.c.Q.l4, g1.1.c.Q.f7, g1.1.c.Q.t5, g1.1.c.Q.l5, g1.1.c.Q.f11, g1.1.c.Q.t6, g1.1.c.Q.l6, g1.1.c.Q.f12, g1.1.c.Q.t7, g1.1.c.Q.l7, g1.1.c.Q.f13, g1.1.c.Q.t8, g1.1.c.Q.l8, g1.1.c.Q.f14, g1.1.c.Q.t9, g1.1.c.Q.l9, g1.1.c.Q.f16, g1.1.c.Q.t10, g1.1.c.Q.l10, g1.1.c.nw, g1.1.c.np, g1.1.c.nv, g1.1.c.nb, g1.1.c.yr, g1.1.c.pot, g1.1.c.pd, g1.1.c.bud, eb, true_and]
    rw [w32_nat (by omega)]
    refine ⟨fun _ => ⟨⟨by omega, by omega⟩, fun z7 => ?_, fun z7 => ?_⟩, fun z => absurd (show (i : Int) < pp 1 0 by omega) z⟩
    · simp only [g1.1.c.M.t, g1.1.c.M.f12, g1.1.c.M.f14, g1.1.c.M.f15, g1.1.c.M.f1, g1.1.c.M.t1, g1.1.c.M.l1, g1.1.c.M.f5, g1.1.c.M.t2, g1.1.c.M.l2, g1.1.c.M.f6, g1.1.c.M.t3, g1.1.c.M.l3, g1.1.c.M.f7, g1.1.c.M.t4, g1.1.c.M.l4, g1.1.c.M.f8, g1.1.c.M.t5, g1.1.c.M.l5, g1.1.c.M.f9, g1.1.c.M.t6, g1.1.c.M.l6, g1.1.c.B.t, g1.1.c.B.f11, g1.1.c.B.f3, g1.1.c.B.t1, g1.1.c.B.l1, g1.1.c.B.f4, g1.1.c.B.t2, g1.1.c.B.l2, g1.1.c.B.f5, g1.1.c.B.t3, g1.1.c.B.l3, g1.1.c.B.f6, g1.1.c.B.t4, g1.1.c.B.l4, g1.1.c.B.f7, g1.1.c.B.t5, g1.1.c.B.l5, g1.1.c.B.f8, g1.1.c.B.t6, g1.1.c.B.l6, g1.1.c.B.f10, g1.1.c.B.t7, g1.1.c.B.l7, g1.1.c.Q.t, g1.1.c.Q.f1, g1.1.c.Q.t1, g1.1.c.Q.l1, g1.1.c.Q.f3, g1.1.c.Q.t2, g1.1.c.Q.l2, g1.1.c.Q.f4, g1.1.c.Q.t3, g1.1.c.Q.l3, g1.1.c.Q.f5, g1.1.c.Q.t4, g1.1.c.Q.l4, g1.1.c.Q.f7, g1.1.c.Q.t5, g1.1.c.Q.l5, g1.1.c.Q.f11, g1.1.c.Q.t6, g1.1.c.Q.l6, g1.1.c.Q.f12, g1.1.c.Q.t7, g1.1.c.Q.l7, g1.1.c.Q.f13, g1.1.c.Q.t8, g1.1.c.Q.l8, g1.1.c.Q.f14, g1.1.c.Q.t9, g1.1.c.Q.l9, g1.1.c.Q.f16, g1.1.c.Q.t10, g1.1.c.Q.l10, g1.1.c.nw, g1.1.c.np, g1.1.c.nv, g1.1.c.nb, g1.1.c.yr, g1.1.c.pot, g1.1.c.pd, g1.1.c.bud, g1.1.c.M.f15, g1.1.ah.t, true_and]
      refine u130 g1 (fun h2 f2 c2 l2 ct2 g2 => ?_)
      have c3 := c2.wx (b' := 79) (i := 9) (v := (i : Int)) (Or.inr ⟨rfl, rfl⟩)
      have f3 : Fr 79 8 h2 (am_w h2 79 9 (i : Int)) := Fr.rf.w (by decide) (by decide)
      have g3 := g2.aw f3 c3.B
      show _ ∧ _
      simp only [c2.M.t, c2.M.f15, c2.B.t, true_and]
      simp only [c3.M.t, c3.M.f15, c3.B.t, true_and]
      refine c145 (lo := (i : Int)) c3 (by rw [am_m_w, if_pos ⟨rfl, rfl⟩]) (ct2.fr c2.Q f3 (by omega)) (by omega) (by omega) g.hb (fun h4 f4 c4 l4 hb4 => ?_)
      have g4 := g3.aw f4 c4.B
      have f04 : Fr 53 34 h h4 := f.tr ((f2.tr (f3.tr f4)).wide (by decide) (by decide))
      show _ ∧ _
      simp only [c4.B.t, true_and]
      refine c148 c4 (SB.ys g.c.I _ y0.1 g.sb) ?_
      have et : s_tot pp (s_ys pp tt (i : Int) n.toNat ss) 8 = s_bc pp (s_ys pp tt (i : Int) n.toNat ss) := rfl
      rw [et]
      show _ ∧ _
      refine ⟨fun z5 => ?_, fun z5 => ?_⟩
      · rw [if_pos ⟨z7, z5⟩] at G
        exact G h4 _ f04 g4
      · rw [if_neg (fun z => z5 z.2)] at G
        exact G h4 _ f04 g4
    · rw [if_neg (fun z => z7 z.1)] at G
      exact G h1 _ f g1
theorem c226 {d : Nat} {h : AH} {pp ss : TT} {tt : Int → List Op} {tp : Int → Int} {tl er q : Int} {K : AK} (g : GM h pp ss tt tl tp er q) (k : ∀ h2, Fr 53 34 h h2 → GT h2 pp ss tt tl tp er q 0 → K 0 (s_dg pp ss tt tl) h2) : am_call (d + 8) 226 [(2, 53)] h K := by
  have nw := g.c.I.nw
  have np := g.c.I.np
  have nv := g.c.I.nv
  have gt := g.t0 (v := 0)
  unfold s_dg at k
  have upd : ∀ {h1 h2 : AH}, GT h1 pp ss tt tl tp er q 0 → Fr 71 8 h1 h2 → MM h2 53 q 71 79 71 pp ss → am_m h2 71 9 = am_m h1 71 9 → GT h2 pp ss tt tl tp er q 0 := fun g1 f2 c2 l2 => g1.sw f2 c2 (l2.trans g1.1.lo) g.hb g.sb
  have HV : ∀ x, (∀ h2, Fr 53 34 h h2 → GT h2 pp ss tt tl tp er q 0 → K 0 (s_dd (s_do (fun v => s_df (s_ov pp ss v) 4) (pp 2 0).toNat x) (s_nx pp (s_col pp ss) tt (-1))) h2) → ∀ h1 y4 nc ns, Fr 53 34 h h1 → GT h1 pp ss tt tl tp er q 0 → WP (d + 8) 226 (153, [(2, 53), (1, x), (8, 0), (0, 0), y4], [], h1, nc, ns) K := by
    intro x k h1 y4 nc ns f1 g1
    suffices H : ∀ j : Nat, ∀ i : Nat, i + j = (pp 2 0).toNat → ∀ y4, WP (d + 8) 226 (153, [(2, 53), (1, s_do (fun v => s_df (s_ov pp ss v) 4) i x), (8, 0), (0, (i : Int)), y4], [], h1, nc, ns) K from H _ 0 (Nat.zero_add _) y4
    intro j
    induction j with
    | zero =>
      intro i hij y4
      refine v226_153 ?_
      simp only [g1.1.c.M.t, g1.1.c.M.f12, g1.1.c.M.f14, g1.1.c.M.f15, g1.1.c.M.f1, g1.1.c.M.t1, g1.1.c.M.l1, g1.1.c.M.f5, g1.1.c.M.t2, g1.1.c.M.l2, g1.1.c.M.f6, g1.1.c.M.t3, g1.1.c.M.l3, g1.1.c.M.f7, g1.1.c.M.t4, g1.1.c.M.l4, g1.1.c.M.f8, g1.1.c.M.t5, g1.1.c.M.l5, g1.1.c.M.f9, g1.1.c.M.t6, g1.1.c.M.l6, g1.1.c.B.t, g1.1.c.B.f11, g1.1.c.B.f3, g1.1.c.B.t1, g1.1.c.B.l1, g1.1.c.B.f4, g1.1.c.B.t2, g1.1.c.B.l2, g1.1.c.B.f5, g1.1.c.B.t3, g1.1.c.B.l3, g1.1.c.B.f6, g1.1.c.B.t4, g1.1.c.B.l4, g1.1.c.B.f7, g1.1.c.B.t5, g1.1.c.B.l5, g1.1.c.B.f8, g1.1.c.B.t6, g1.1.c.B.l6, g1.1.c.B.f10, g1.1.c.B.t7, g1.1.c.B.l7, g1.1.c.Q.t, g1.1.c.Q.f1, g1.1.c.Q.t1, g1.1.c.Q.l1, g1.1.c.Q.f3, g1.1.c.Q.t2, g1.1.c.Q.l2, g1.1.c.Q.f4, g1.1.c.Q.t3, g1.1.c.Q.l3, g1.1.c.Q.f5, g1.1.c.Q.t4, g1.1.c.Q.l4, g1.1.c.Q.f7, g1.1.c.Q.t5, g1.1.c.Q.l5, g1.1.c.Q.f11, g1.1.c.Q.t6, g1.1.c.Q.l6, g1.1.c.Q.f12, g1.1.c.Q.t7, g1.1.c.Q.l7, g1.1.c.Q.f13, g1.1.c.Q.t8, g1.1.c.Q.l8, g1.1.c.Q.f14, g1.1.c.Q.t9, g1.1.c.Q.l9, g1.1.c.Q.f16, g1.1.c.Q.t10, g1.1.c.Q.l10, g1.1.c.nw, g1.1.c.np, g1.1.c.nv, g1.1.c.nb, g1.1.c.yr, g1.1.c.pot, g1.1.c.pd, g1.1.c.bud, true_and]
      refine ⟨fun z => absurd z (by omega), fun _ => c214 g1.1 (fun h2 f2 g2 => ?_)⟩
      have hn := g1.1.n
      have k1 := k h2 (f1.tr (f2.wide (by decide) (by decide))) ⟨g2, (f2.2.2.2.2 53 (by omega) (by omega) 0).trans g1.2⟩
      rw [show (pp 2 0).toNat = i by omega] at k1
      exact k1
    | succ j ih =>
      intro i hij y4
      have G := ih (i + 1) (by omega)
      rw [s_do_succ] at G
      generalize s_do (fun v => s_df (s_ov pp ss v) 4) i x = x1 at G ⊢
      refine v226_153 ?_
      simp only [g1.1.c.M.t, g1.1.c.M.f12, g1.1.c.M.f14, g1.1.c.M.f15, g1.1.c.M.f1, g1.1.c.M.t1, g1.1.c.M.l1, g1.1.c.M.f5, g1.1.c.M.t2, g1.1.c.M.l2, g1.1.c.M.f6, g1.1.c.M.t3, g1.1.c.M.l3, g1.1.c.M.f7, g1.1.c.M.t4, g1.1.c.M.l4, g1.1.c.M.f8, g1.1.c.M.t5, g1.1.c.M.l5, g1.1.c.M.f9, g1.1.c.M.t6, g1.1.c.M.l6, g1.1.c.B.t, g1.1.c.B.f11, g1.1.c.B.f3, g1.1.c.B.t1, g1.1.c.B.l1, g1.1.c.B.f4, g1.1.c.B.t2, g1.1.c.B.l2, g1.1.c.B.f5, g1.1.c.B.t3, g1.1.c.B.l3, g1.1.c.B.f6, g1.1.c.B.t4, g1.1.c.B.l4, g1.1.c.B.f7, g1.1.c.B.t5, g1.1.c.B.l5, g1.1.c.B.f8, g1.1.c.B.t6, g1.1.c.B.l6, g1.1.c.B.f10, g1.1.c.B.t7, g1.1.c.B.l7, g1.1.c.Q.t, g1.1.c.Q.f1, g1.1.c.Q.t1, g1.1.c.Q.l1, g1.1.c.Q.f3, g1.1.c.Q.t2, g1.1.c.Q.l2, g1.1.c.Q.f4, g1.1.c.Q.t3, g1.1.c.Q.l3, g1.1.c.Q.f5, g1.1.c.Q.t4, g1.1.c.Q.l4, g1.1.c.Q.f7, g1.1.c.Q.t5, g1.1.c.Q.l5, g1.1.c.Q.f11, g1.1.c.Q.t6, g1.1.c.Q.l6, g1.1.c.Q.f12, g1.1.c.Q.t7, g1.1.c.Q.l7, g1.1.c.Q.f13, g1.1.c.Q.t8, g1.1.c.Q.l8, g1.1.c.Q.f14, g1.1.c.Q.t9, g1.1.c.Q.l9, g1.1.c.Q.f16, g1.1.c.Q.t10, g1.1.c.Q.l10, g1.1.c.nw, g1.1.c.np, g1.1.c.nv, g1.1.c.nb, g1.1.c.yr, g1.1.c.pot, g1.1.c.pd, g1.1.c.bud, true_and]
      refine ⟨fun _ => ?_, fun z => absurd (show (i : Int) < pp 2 0 by omega) z⟩
      suffices H2 : ∀ j2 : Nat, ∀ i2 : Nat, i2 + j2 = 4 → WP (d + 8) 226 (167, [(2, 53), (1, s_df (s_ov pp ss (i : Int)) i2 x1), (8, 0), (0, (i : Int)), (0, (i2 : Int))], [], h1, nc, ns) K from H2 4 0 rfl
      intro j2
      induction j2 with
      | zero =>
        intro i2 hi2
        refine v226_167 ⟨fun _ => ?_, fun z => absurd (show (3 : Int) < (i2 : Int) by omega) z⟩
        rw [w32_nat (by omega), show i2 = 4 by omega]
        exact G _
      | succ j2 ih2 =>
        intro i2 hi2
        have G2 := ih2 (i2 + 1) (by omega)
        refine v226_167 ⟨fun z => absurd z (by omega), fun _ => ⟨g1.1.c.M.t, c210 g1.1.c (by omega) (by omega) ?_⟩⟩
        show WP _ _ _ _
        rw [w32_nat (by omega)]
        exact G2
  have HP : ∀ x, (∀ h2, Fr 53 34 h h2 → GT h2 pp ss tt tl tp er q 0 → K 0 (s_dd (s_do (fun v => s_df (s_ov pp ss v) 4) (pp 2 0).toNat (s_do (fun p x => s_dd (s_df (s_op pp ss tt p) 8 x) (s_sh pp ss p)) (pp 1 0).toNat x)) (s_nx pp (s_col pp ss) tt (-1))) h2) → ∀ h1 y4, Fr 53 34 h h1 → GT h1 pp ss tt tl tp er q 0 → WP (d + 8) 226 (87, [(2, 53), (1, x), (8, 0), (0, 0), y4], [], h1, 12, 72) K := by
    intro x k h1 y4 f1 g1
    suffices H : ∀ j : Nat, ∀ i : Nat, i + j = (pp 1 0).toNat → ∀ h1 y4, Fr 53 34 h h1 → GT h1 pp ss tt tl tp er q 0 → WP (d + 8) 226 (87, [(2, 53), (1, s_do (fun p x => s_dd (s_df (s_op pp ss tt p) 8 x) (s_sh pp ss p)) i x), (8, 0), (0, (i : Int)), y4], [], h1, 12 + 8 * i, 72 + 64 * i) K from H _ 0 (Nat.zero_add _) h1 y4 f1 g1
    clear h1 y4 f1 g1
    intro j
    induction j with
    | zero =>
      intro i hij h1 y4 f1 g1
      refine v226_87 ?_
      simp only [g1.1.c.M.t, g1.1.c.M.f12, g1.1.c.M.f14, g1.1.c.M.f15, g1.1.c.M.f1, g1.1.c.M.t1, g1.1.c.M.l1, g1.1.c.M.f5, g1.1.c.M.t2, g1.1.c.M.l2, g1.1.c.M.f6, g1.1.c.M.t3, g1.1.c.M.l3, g1.1.c.M.f7, g1.1.c.M.t4, g1.1.c.M.l4, g1.1.c.M.f8, g1.1.c.M.t5, g1.1.c.M.l5, g1.1.c.M.f9, g1.1.c.M.t6, g1.1.c.M.l6, g1.1.c.B.t, g1.1.c.B.f11, g1.1.c.B.f3, g1.1.c.B.t1, g1.1.c.B.l1, g1.1.c.B.f4, g1.1.c.B.t2, g1.1.c.B.l2, g1.1.c.B.f5, g1.1.c.B.t3, g1.1.c.B.l3, g1.1.c.B.f6, g1.1.c.B.t4, g1.1.c.B.l4, g1.1.c.B.f7, g1.1.c.B.t5, g1.1.c.B.l5, g1.1.c.B.f8, g1.1.c.B.t6, g1.1.c.B.l6, g1.1.c.B.f10, g1.1.c.B.t7, g1.1.c.B.l7, g1.1.c.Q.t, g1.1.c.Q.f1, g1.1.c.Q.t1, g1.1.c.Q.l1, g1.1.c.Q.f3, g1.1.c.Q.t2, g1.1.c.Q.l2, g1.1.c.Q.f4, g1.1.c.Q.t3, g1.1.c.Q.l3, g1.1.c.Q.f5, g1.1.c.Q.t4, g1.1.c.Q.l4, g1.1.c.Q.f7, g1.1.c.Q.t5, g1.1.c.Q.l5, g1.1.c.Q.f11, g1.1.c.Q.t6, g1.1.c.Q.l6, g1.1.c.Q.f12, g1.1.c.Q.t7, g1.1.c.Q.l7, g1.1.c.Q.f13, g1.1.c.Q.t8, g1.1.c.Q.l8, g1.1.c.Q.f14, g1.1.c.Q.t9, g1.1.c.Q.l9, g1.1.c.Q.f16, g1.1.c.Q.t10, g1.1.c.Q.l10, g1.1.c.nw, g1.1.c.np, g1.1.c.nv, g1.1.c.nb, g1.1.c.yr, g1.1.c.pot, g1.1.c.pd, g1.1.c.bud, true_and]
      refine ⟨fun z => absurd z (by omega), fun _ => HV _ (fun h2 f2 g2 => ?_) h1 _ _ _ f1 g1⟩
      have k1 := k h2 f2 g2
      rw [show (pp 1 0).toNat = i by omega] at k1
      exact k1
    | succ j ih =>
      intro i hij h1 y4 f1 g1
      have G := ih (i + 1) (by omega)
      rw [s_do_succ] at G
      generalize s_do (fun p x => s_dd (s_df (s_op pp ss tt p) 8 x) (s_sh pp ss p)) i x = x1 at G ⊢
      refine v226_87 ?_
      simp only [g1.1.c.M.t, g1.1.c.M.f12, g1.1.c.M.f14, g1.1.c.M.f15, g1.1.c.M.f1, g1.1.c.M.t1, g1.1.c.M.l1, g1.1.c.M.f5, g1.1.c.M.t2, g1.1.c.M.l2, g1.1.c.M.f6, g1.1.c.M.t3, g1.1.c.M.l3, g1.1.c.M.f7, g1.1.c.M.t4, g1.1.c.M.l4, g1.1.c.M.f8, g1.1.c.M.t5, g1.1.c.M.l5, g1.1.c.M.f9, g1.1.c.M.t6, g1.1.c.M.l6, g1.1.c.B.t, g1.1.c.B.f11, g1.1.c.B.f3, g1.1.c.B.t1, g1.1.c.B.l1, g1.1.c.B.f4, g1.1.c.B.t2, g1.1.c.B.l2, g1.1.c.B.f5, g1.1.c.B.t3, g1.1.c.B.l3, g1.1.c.B.f6, g1.1.c.B.t4, g1.1.c.B.l4, g1.1.c.B.f7, g1.1.c.B.t5, g1.1.c.B.l5, g1.1.c.B.f8, g1.1.c.B.t6, g1.1.c.B.l6, g1.1.c.B.f10, g1.1.c.B.t7, g1.1.c.B.l7, g1.1.c.Q.t, g1.1.c.Q.f1, g1.1.c.Q.t1, g1.1.c.Q.l1, g1.1.c.Q.f3, g1.1.c.Q.t2, g1.1.c.Q.l2, g1.1.c.Q.f4, g1.1.c.Q.t3, g1.1.c.Q.l3, g1.1.c.Q.f5, g1.1.c.Q.t4, g1.1.c.Q.l4, g1.1.c.Q.f7, g1.1.c.Q.t5, g1.1.c.Q.l5, g1.1.c.Q.f11, g1.1.c.Q.t6, g1.1.c.Q.l6, g1.1.c.Q.f12, g1.1.c.Q.t7, g1.1.c.Q.l7, g1.1.c.Q.f13, g1.1.c.Q.t8, g1.1.c.Q.l8, g1.1.c.Q.f14, g1.1.c.Q.t9, g1.1.c.Q.l9, g1.1.c.Q.f16, g1.1.c.Q.t10, g1.1.c.Q.l10, g1.1.c.nw, g1.1.c.np, g1.1.c.nv, g1.1.c.nb, g1.1.c.yr, g1.1.c.pot, g1.1.c.pd, g1.1.c.bud, true_and]
      refine ⟨fun _ => ?_, fun z => absurd (show (i : Int) < pp 1 0 by omega) z⟩
      suffices H2 : ∀ j2 : Nat, ∀ i2 : Nat, i2 + j2 = 8 → ∀ h1, Fr 53 34 h h1 → GT h1 pp ss tt tl tp er q 0 → WP (d + 8) 226 (101, [(2, 53), (1, s_df (s_op pp ss tt (i : Int)) i2 x1), (8, 0), (0, (i : Int)), (0, (i2 : Int))], [], h1, 12 + 8 * i + i2, 72 + 64 * i + 8 * i2) K from H2 8 0 rfl h1 f1 g1
      clear h1 f1 g1
      intro j2
      induction j2 with
      | zero =>
        intro i2 hi2 h1 f1 g1
        refine v226_101 ⟨fun _ => ?_, fun z => absurd (show (7 : Int) < (i2 : Int) by omega) z⟩
        simp only [g1.1.c.M.t, g1.1.c.M.f12, g1.1.c.M.f14, g1.1.c.M.f15, g1.1.c.M.f1, g1.1.c.M.t1, g1.1.c.M.l1, g1.1.c.M.f5, g1.1.c.M.t2, g1.1.c.M.l2, g1.1.c.M.f6, g1.1.c.M.t3, g1.1.c.M.l3, g1.1.c.M.f7, g1.1.c.M.t4, g1.1.c.M.l4, g1.1.c.M.f8, g1.1.c.M.t5, g1.1.c.M.l5, g1.1.c.M.f9, g1.1.c.M.t6, g1.1.c.M.l6, g1.1.c.B.t, g1.1.c.B.f11, g1.1.c.B.f3, g1.1.c.B.t1, g1.1.c.B.l1, g1.1.c.B.f4, g1.1.c.B.t2, g1.1.c.B.l2, g1.1.c.B.f5, g1.1.c.B.t3, g1.1.c.B.l3, g1.1.c.B.f6, g1.1.c.B.t4, g1.1.c.B.l4, g1.1.c.B.f7, g1.1.c.B.t5, g1.1.c.B.l5, g1.1.c.B.f8, g1.1.c.B.t6, g1.1.c.B.l6, g1.1.c.B.f10, g1.1.c.B.t7, g1.1.c.B.l7, g1.1.c.Q.t, g1.1.c.Q.f1, g1.1.c.Q.t1, g1.1.c.Q.l1, g1.1.c.Q.f3, g1.1.c.Q.t2, g1.1.c.Q.l2, g1.1.c.Q.f4, g1.1.c.Q.t3, g1.1.c.Q.l3, g1.1.c.Q.f5, g1.1.c.Q.t4, g1.1.c.Q.l4, g1.1.c.Q.f7, g1.1.c.Q.t5, g1.1.c.Q.l5, g1.1.c.Q.f11, g1.1.c.Q.t6, g1.1.c.Q.l6, g1.1.c.Q.f12, g1.1.c.Q.t7, g1.1.c.Q.l7, g1.1.c.Q.f13, g1.1.c.Q.t8, g1.1.c.Q.l8, g1.1.c.Q.f14, g1.1.c.Q.t9, g1.1.c.Q.l9, g1.1.c.Q.f16, g1.1.c.Q.t10, g1.1.c.Q.l10, g1.1.c.nw, g1.1.c.np, g1.1.c.nv, g1.1.c.nb, g1.1.c.yr, g1.1.c.pot, g1.1.c.pd, g1.1.c.bud, true_and]
        refine c135 g1.1.c (by omega) (by omega) ?_
        show WP _ _ _ _
        rw [w32_nat (by omega), show i2 = 8 by omega, show 12 + 8 * i + 8 = 12 + 8 * (i + 1) by omega, show 72 + 64 * i + 8 * 8 = 72 + 64 * (i + 1) by omega]
        exact G h1 _ f1 g1
      | succ j2 ih2 =>
        intro i2 hi2 h1 f1 g1
        have G2 := ih2 (i2 + 1) (by omega)
        refine v226_101 ⟨fun z => absurd z (by omega), fun _ => ⟨⟨g1.1.c.M.t, by omega, by omega⟩, c207 g1.1.c g1.1.ct (by omega) (by omega) (by omega) (by omega) (fun h2 f2 c2 l2 => ?_)⟩⟩
        show WP _ _ _ _
        rw [w32_nat (by omega)]
        exact G2 h2 (f1.tr (f2.wide (by decide) (by decide))) (upd g1 f2 c2 l2)
  have HW : ∀ x, (∀ h2, Fr 53 34 h h2 → GT h2 pp ss tt tl tp er q 0 → K 0 (s_dd (s_do (fun v => s_df (s_ov pp ss v) 4) (pp 2 0).toNat (s_do (fun p x => s_dd (s_df (s_op pp ss tt p) 8 x) (s_sh pp ss p)) (pp 1 0).toNat (s_do (fun w => s_df (s_ow pp ss w) 4) (pp 0 0).toNat x))) (s_nx pp (s_col pp ss) tt (-1))) h2) → ∀ h1 y4, Fr 53 34 h h1 → GT h1 pp ss tt tl tp er q 0 → WP (d + 8) 226 (38, [(2, 53), (1, x), (8, 0), (0, 0), y4], [], h1, 12, 72) K := by
    intro x k h1 y4 f1 g1
    suffices H : ∀ j : Nat, ∀ i : Nat, i + j = (pp 0 0).toNat → ∀ y4, WP (d + 8) 226 (38, [(2, 53), (1, s_do (fun w => s_df (s_ow pp ss w) 4) i x), (8, 0), (0, (i : Int)), y4], [], h1, 12, 72) K from H _ 0 (Nat.zero_add _) y4
    intro j
    induction j with
    | zero =>
      intro i hij y4
      refine v226_38 ?_
      simp only [g1.1.c.M.t, g1.1.c.M.f12, g1.1.c.M.f14, g1.1.c.M.f15, g1.1.c.M.f1, g1.1.c.M.t1, g1.1.c.M.l1, g1.1.c.M.f5, g1.1.c.M.t2, g1.1.c.M.l2, g1.1.c.M.f6, g1.1.c.M.t3, g1.1.c.M.l3, g1.1.c.M.f7, g1.1.c.M.t4, g1.1.c.M.l4, g1.1.c.M.f8, g1.1.c.M.t5, g1.1.c.M.l5, g1.1.c.M.f9, g1.1.c.M.t6, g1.1.c.M.l6, g1.1.c.B.t, g1.1.c.B.f11, g1.1.c.B.f3, g1.1.c.B.t1, g1.1.c.B.l1, g1.1.c.B.f4, g1.1.c.B.t2, g1.1.c.B.l2, g1.1.c.B.f5, g1.1.c.B.t3, g1.1.c.B.l3, g1.1.c.B.f6, g1.1.c.B.t4, g1.1.c.B.l4, g1.1.c.B.f7, g1.1.c.B.t5, g1.1.c.B.l5, g1.1.c.B.f8, g1.1.c.B.t6, g1.1.c.B.l6, g1.1.c.B.f10, g1.1.c.B.t7, g1.1.c.B.l7, g1.1.c.Q.t, g1.1.c.Q.f1, g1.1.c.Q.t1, g1.1.c.Q.l1, g1.1.c.Q.f3, g1.1.c.Q.t2, g1.1.c.Q.l2, g1.1.c.Q.f4, g1.1.c.Q.t3, g1.1.c.Q.l3, g1.1.c.Q.f5, g1.1.c.Q.t4, g1.1.c.Q.l4, g1.1.c.Q.f7, g1.1.c.Q.t5, g1.1.c.Q.l5, g1.1.c.Q.f11, g1.1.c.Q.t6, g1.1.c.Q.l6, g1.1.c.Q.f12, g1.1.c.Q.t7, g1.1.c.Q.l7, g1.1.c.Q.f13, g1.1.c.Q.t8, g1.1.c.Q.l8, g1.1.c.Q.f14, g1.1.c.Q.t9, g1.1.c.Q.l9, g1.1.c.Q.f16, g1.1.c.Q.t10, g1.1.c.Q.l10, g1.1.c.nw, g1.1.c.np, g1.1.c.nv, g1.1.c.nb, g1.1.c.yr, g1.1.c.pot, g1.1.c.pd, g1.1.c.bud, true_and]
      refine ⟨fun z => absurd z (by omega), fun _ => HP _ (fun h2 f2 g2 => ?_) h1 _ f1 g1⟩
      have k1 := k h2 f2 g2
      rw [show (pp 0 0).toNat = i by omega] at k1
      exact k1
    | succ j ih =>
      intro i hij y4
      have G := ih (i + 1) (by omega)
      rw [s_do_succ] at G
      generalize s_do (fun w => s_df (s_ow pp ss w) 4) i x = x1 at G ⊢
      refine v226_38 ?_
      simp only [g1.1.c.M.t, g1.1.c.M.f12, g1.1.c.M.f14, g1.1.c.M.f15, g1.1.c.M.f1, g1.1.c.M.t1, g1.1.c.M.l1, g1.1.c.M.f5, g1.1.c.M.t2, g1.1.c.M.l2, g1.1.c.M.f6, g1.1.c.M.t3, g1.1.c.M.l3, g1.1.c.M.f7, g1.1.c.M.t4, g1.1.c.M.l4, g1.1.c.M.f8, g1.1.c.M.t5, g1.1.c.M.l5, g1.1.c.M.f9, g1.1.c.M.t6, g1.1.c.M.l6, g1.1.c.B.t, g1.1.c.B.f11, g1.1.c.B.f3, g1.1.c.B.t1, g1.1.c.B.l1, g1.1.c.B.f4, g1.1.c.B.t2, g1.1.c.B.l2, g1.1.c.B.f5, g1.1.c.B.t3, g1.1.c.B.l3, g1.1.c.B.f6, g1.1.c.B.t4, g1.1.c.B.l4, g1.1.c.B.f7, g1.1.c.B.t5, g1.1.c.B.l5, g1.1.c.B.f8, g1.1.c.B.t6, g1.1.c.B.l6, g1.1.c.B.f10, g1.1.c.B.t7, g1.1.c.B.l7, g1.1.c.Q.t, g1.1.c.Q.f1, g1.1.c.Q.t1, g1.1.c.Q.l1, g1.1.c.Q.f3, g1.1.c.Q.t2, g1.1.c.Q.l2, g1.1.c.Q.f4, g1.1.c.Q.t3, g1.1.c.Q.l3, g1.1.c.Q.f5, g1.1.c.Q.t4, g1.1.c.Q.l4, g1.1.c.Q.f7, g1.1.c.Q.t5, g1.1.c.Q.l5, g1.1.c.Q.f11, g1.1.c.Q.t6, g1.1.c.Q.l6, g1.1.c.Q.f12, g1.1.c.Q.t7, g1.1.c.Q.l7, g1.1.c.Q.f13, g1.1.c.Q.t8, g1.1.c.Q.l8, g1.1.c.Q.f14, g1.1.c.Q.t9, g1.1.c.Q.l9, g1.1.c.Q.f16, g1.1.c.Q.t10, g1.1.c.Q.l10, g1.1.c.nw, g1.1.c.np, g1.1.c.nv, g1.1.c.nb, g1.1.c.yr, g1.1.c.pot, g1.1.c.pd, g1.1.c.bud, true_and]
      refine ⟨fun _ => ?_, fun z => absurd (show (i : Int) < pp 0 0 by omega) z⟩
      suffices H2 : ∀ j2 : Nat, ∀ i2 : Nat, i2 + j2 = 4 → WP (d + 8) 226 (52, [(2, 53), (1, s_df (s_ow pp ss (i : Int)) i2 x1), (8, 0), (0, (i : Int)), (0, (i2 : Int))], [], h1, 12, 72) K from H2 4 0 rfl
      intro j2
      induction j2 with
      | zero =>
        intro i2 hi2
        refine v226_52 ⟨fun _ => ?_, fun z => absurd (show (3 : Int) < (i2 : Int) by omega) z⟩
        rw [w32_nat (by omega), show i2 = 4 by omega]
        exact G _
      | succ j2 ih2 =>
        intro i2 hi2
        have G2 := ih2 (i2 + 1) (by omega)
        refine v226_52 ⟨fun z => absurd z (by omega), fun _ => ⟨g1.1.c.M.t, c205 g1.1.c (by omega) (by omega) (by omega) (by omega) ?_⟩⟩
        show WP _ _ _ _
        rw [w32_nat (by omega)]
        exact G2
  refine v226 ⟨g.c.M.t, ?_⟩
  suffices H : ∀ j : Nat, ∀ i : Nat, i + j = 12 → ∀ h1, Fr 53 34 h h1 → GT h1 pp ss tt tl tp er q 0 → WP (d + 8) 226 (11, [(2, 53), (1, s_df (s_ct pp ss tl) i 881), (8, 0), (0, (i : Int)), (9, 0)], [], h1, i, 6 * i) K from H 12 0 rfl _ f0 gt
  intro j
  induction j with
  | zero =>
    intro i hij h1 f1 g1
    refine v226_11 ⟨fun _ => ?_, fun z => absurd (show (11 : Int) < (i : Int) by omega) z⟩
    rw [show i = 12 by omega]
    exact HW _ k h1 _ f1 g1
  | succ j ih =>
    intro i hij h1 f1 g1
    have G := ih (i + 1) (by omega)
    refine v226_11 ⟨fun z => absurd z (by omega), fun _ => ⟨⟨g1.1.c.M.t, by omega, by omega⟩, c203 g1.1.c g1.1.sb g1.1.tl (by omega) (fun h2 f2 c2 l2 => ?_)⟩⟩
    show WP _ _ _ _
    rw [w32_nat (by omega)]
    exact G h2 (f1.tr (f2.wide (by decide) (by decide))) (upd g1 f2 c2 l2)
