/-! ===== years and looking ahead: the reference ===== -/
theorem GT.sw {h h1 : AH} {pp ss s2 : TT} {tt : Int → List Op} {tp : Int → Int} {tl er q x : Int} (g : GT h pp ss tt tl tp er q x) (f : Fr 71 8 h h1) (c2 : MM h1 53 q 71 79 71 pp s2) (lo2 : am_m h1 71 9 = -1) (hb2 : ∀ p, 0 ≤ p → p < pp 1 0 → s2 7 p < s2 0 0) (sb2 : SB pp s2) : GT h1 pp s2 tt tl tp er q x := by
  have hn := g.1.n
  exact ⟨g.1.sw f c2 lo2 hb2 sb2, (f.2.2.2.2 53 (by omega) (by omega) 0).trans g.2⟩
theorem GT.aw {h h1 : AH} {pp ss : TT} {tt : Int → List Op} {tp : Int → Int} {tl er q x : Int} (g : GT h pp ss tt tl tp er q x) (f : Fr 79 8 h h1) (y : S8 h1 79 53) : GT h1 pp ss tt tl tp er q x := by
  have hn := g.1.n
  exact ⟨g.1.aw f y, (f.2.2.2.2 53 (by omega) (by omega) 0).trans g.2⟩
theorem u130 {d : Nat} {h : AH} {pp ss : TT} {tt : Int → List Op} {tp : Int → Int} {tl er q x : Int} {K : AK} (g : GT h pp ss tt tl tp er q x) (k : ∀ h2, Fr 79 8 h h2 → MM h2 53 q 71 79 79 pp ss → am_m h2 79 9 = -1 → MT h2 q pp tt → GT h2 pp ss tt tl tp er q x → K 0 79 h2) : am_call (d + 1) 130 [(2, 79), (2, 71)] h K :=
  t130 g.1 (fun h2 f c l ct _ => k h2 f c l ct (g.aw f c.B))
theorem c220 {d : Nat} {h : AH} {pp ss : TT} {tt : Int → List Op} {tp : Int → Int} {tl er q n : Int} {K : AK} (g : GM h pp ss tt tl tp er q) (hy : ss 0 0 + 100 < 2000000000) (k0 : 1 ≤ n ∧ n ≤ 60 → ∀ h2, Fr 53 34 h h2 → GT h2 pp (s_ys pp tt (-1) n.toNat ss) tt tl tp er q 0 → K 0 (w32 (s_bc pp (s_ys pp tt (-1) n.toNat ss) - s_bc pp ss)) h2) (k1 : ¬ (1 ≤ n ∧ n ≤ 60) → ∀ h2, Fr 53 34 h h2 → GT h2 pp ss tt tl tp er q 1 → K 0 0 h2) : am_call (d + 8) 220 [(2, 53), (0, n)] h K := by
  have g1 := g.t0 (v := 0)
  have y0 := g.c.S.yr
  refine v220 ⟨g.c.M.t, c154 ⟨fun z => ⟨g1.1.c.M.t, c153 g1.1 (fun h2 f2 g2 => k1 (if1 z) h2 (f0.tr f2) g2)⟩, fun z => ?_⟩⟩
  have zn := if0 z
  suffices H : ∀ j : Nat, ∀ i : Nat, i + j = n.toNat → ∀ h1 s1, Fr 53 34 h h1 → GT h1 pp s1 tt tl tp er q 0 → s1 0 0 = ss 0 0 + (i : Int) → s_ys pp tt (-1) j s1 = s_ys pp tt (-1) n.toNat ss → WP (d + 8) 220 (25, [(2, 53), (0, n), (0, s_bc pp s1 - s_bc pp ss), (0, (i : Int))], [], h1, 0, 0) K by
    have G := H _ 0 (Nat.zero_add _) _ ss f0 g1 (by omega) rfl
    rw [show s_bc pp ss - s_bc pp ss = 0 by omega] at G
    exact G
  intro j
  induction j with
  | zero =>
    intro i hij h1 s1 f1 g1 ey e
    refine v220_25 ⟨fun z => absurd z (by omega), fun _ => ?_⟩
    have b1 := bc_bd (ss := s1) g1.1.c.I
    have b2 := bc_bd (ss := ss) g1.1.c.I
    have np := g1.1.c.I.np
    have k2 := k0 zn h1 f1
    rw [← e] at k2
    have k3 := k2 g1
    have e0 : s_ys pp tt (-1) 0 s1 = s1 := rfl
    rw [e0, w32_id (by omega) (by omega)] at k3
    exact k3
  | succ j ih =>
    intro i hij h1 s1 f1 g1 ey e
    have b1 := bc_bd (ss := s1) g1.1.c.I
    have b2 := bc_bd (ss := ss) g1.1.c.I
    have b3 := bc_bd (ss := s_year pp tt (-1) s1) g1.1.c.I
    have np := g1.1.c.I.np
    refine v220_25 ⟨fun _ => ?_, fun z => absurd (show (i : Int) < n by omega) z⟩
    simp only [g1.1.c.M.t, g1.1.c.M.f14, g1.1.c.B.t, true_and]
    refine c144 g1.1.c g1.1.lo g1.1.ct (by omega) (fun h2 f2 c2 l2 hb2 => ?_)
    show WP _ _ _ _
    rw [w32_nat (by omega), show s_bc pp s1 - s_bc pp ss + (s_bc pp (s_year pp tt (-1) s1) - s_bc pp s1) = s_bc pp (s_year pp tt (-1) s1) - s_bc pp ss by omega, w32_id (by omega) (by omega)]
    exact ih (i + 1) (by omega) h2 _ (f1.tr (f2.wide (by decide) (by decide))) (g1.sw f2 c2 l2 hb2 (SB.year g1.1.c.I g1.1.c.S.yr.1 g1.1.sb)) (by rw [s_year_0]; omega) e
theorem c221 {d : Nat} {h : AH} {pp ss : TT} {tt : Int → List Op} {tp : Int → Int} {tl er q p : Int} {K : AK} (g : GM h pp ss tt tl tp er q) (hy : ss 0 0 + 100 < 2000000000) (k0 : (0 ≤ p ∧ p < pp 1 0) → ∀ h2, Fr 53 34 h h2 → GT h2 pp ss tt tl tp er q 0 → K 0 (s_ul pp tt p 61 0 ss) h2) (k1 : ¬ (0 ≤ p ∧ p < pp 1 0) → ∀ h2, Fr 53 34 h h2 → GT h2 pp ss tt tl tp er q 1 → K 0 0 h2) : am_call (d + 8) 221 [(2, 53), (0, p)] h K := by
  have g1 := g.t0 (v := 0)
  have y0 := g.c.S.yr
  have np := g.c.I.np
  refine v221 ⟨g.c.M.t, g1.1.c.M.t, c156 g1.1 ⟨fun z => ⟨g1.1.c.M.t, c153 g1.1 (fun h2 f2 g2 => k1 (if1 z) h2 (f0.tr f2) g2)⟩, fun z => ?_⟩⟩
  have zp := if0 z
  simp only [g1.1.c.M.t, g1.1.c.M.f14, g1.1.c.M.f15, g1.1.ah.t, true_and]
  refine u130 g1 (fun h2 f2 c2 l2 ct2 g2 => ?_)
  show WP _ _ _ _
  suffices H : ∀ j : Nat, ∀ i : Nat, i + j = 61 → ∀ h1 st, Fr 53 34 h h1 → GT h1 pp ss tt tl tp er q 0 → MM h1 53 q 71 79 79 pp st → am_m h1 79 9 = -1 → MT h1 q pp tt → st 0 0 = ss 0 0 + (i : Int) → s_ul pp tt p j (i : Int) st = s_ul pp tt p 61 0 ss → WP (d + 8) 221 (33, [(2, 53), (0, p), (0, (i : Int))], [], h1, 0, 0) K from H 61 0 rfl h2 ss (f0.tr (f2.wide (by decide) (by decide))) g2 c2 l2 ct2 (by omega) rfl
  clear g2 c2 l2 ct2 f2 h2
  intro j
  induction j with
  | zero =>
    intro i hij h1 st f1 g1 c l ct ey e
    refine v221_33 ⟨fun z3 => ⟨fun _ => ?_, fun z4 => absurd z3 z4⟩, fun z => absurd (show (60 : Int) < (i : Int) by omega) z⟩
    have k2 := k0 zp h1 f1 g1
    rw [← e] at k2
    exact k2
  | succ j ih =>
    intro i hij h1 st f1 g1 c l ct ey e
    have eb := c.built zp.1 zp.2
    have eu : s_ul pp tt p (j + 1) (i : Int) st = if st 7 p = -1 then s_ul pp tt p j ((i : Int) + 1) (s_year pp tt (-1) st) else (i : Int) := rfl
    rw [eu] at e
    refine v221_33 ⟨fun z => absurd z (by omega), fun z6 => ?_⟩
    simp only [c.M.t, c.M.f12, c.M.f14, c.M.f15, c.M.f1, c.M.t1, c.M.l1, c.M.f5, c.M.t2, c.M.l2, c.M.f6, c.M.t3, c.M.l3, c.M.f7, c.M.t4, c.M.l4, c.M.f8, c.M.t5, c.M.l5, c.M.f9, c.M.t6, c.M.l6, c.B.t, c.B.f11, c.B.f3, c.B.t1, c.B.l1, c.B.f4, c.B.t2, c.B.l2, c.B.f5, c.B.t3, c.B.l3, c.B.f6, c.B.t4, c.B.l4, c.B.f7, c.B.t5, c.B.l5, c.B.f8, c.B.t6, c.B.l6, c.B.f10, c.B.t7, c.B.l7, c.Q.t, c.Q.f1, c.Q.t1, c.Q.l1, c.Q.f3, c.Q.t2, c.Q.l2, c.Q.f4, c.Q.t3, c.Q.l3, c.Q.f5, c.Q.t4, c.Q.l4, c.Q.f7, c.Q.t5, c.Q.l5, c.Q.f11, c.Q.t6, c.Q.l6, c.Q.f12, c.Q.t7, c.Q.l7, c.Q.f13, c.Q.t8, c.Q.l8, c.Q.f14, c.Q.t9, c.Q.l9, c.Q.f16, c.Q.t10, c.Q.l10, c.nw, c.np, c.nv, c.nb, c.yr, c.pot, c.pd, c.bud, eb, true_and]
    refine ⟨⟨zp.1, by omega⟩, fun z3 => ?_, fun z3 => ⟨fun z4 => absurd z4 z6, fun _ => ?_⟩⟩
    · rw [if_pos z3] at e
      refine c144 c l ct (by omega) (fun h2 f2 c2 l2 hb2 => ?_)
      have hq := g.qd
      show WP _ _ _ _
      rw [w32_nat (by omega)]
      exact ih (i + 1) (by omega) h2 _ (f1.tr (f2.wide (by decide) (by decide))) (g1.aw f2 c2.B) c2 l2 (ct.fr c.Q f2 (by omega)) (by rw [s_year_0]; omega) e
    · rw [if_neg z3] at e
      have k2 := k0 zp h1 f1 g1
      rw [← e] at k2
      exact k2
theorem c222 {d : Nat} {h : AH} {pp ss : TT} {tt : Int → List Op} {tp : Int → Int} {tl er q n w : Int} {K : AK} (g : GM h pp ss tt tl tp er q) (hy : ss 0 0 + 100 < 2000000000) (k0 : (1 ≤ n ∧ n ≤ 60) ∧ 6 ≤ w ∧ w ≤ 10 → ∀ h2, Fr 53 34 h h2 → GT h2 pp ss tt tl tp er q 0 → K 0 (s_tot pp (s_ys pp tt (-1) n.toNat ss) w) h2) (k1 : ¬ (1 ≤ n ∧ n ≤ 60) → ∀ h2, Fr 53 34 h h2 → GT h2 pp ss tt tl tp er q 1 → K 0 0 h2) (k2 : (1 ≤ n ∧ n ≤ 60) ∧ ¬ (6 ≤ w ∧ w ≤ 10) → ∀ h2, Fr 53 34 h h2 → GT h2 pp ss tt tl tp er q 2 → K 0 0 h2) : am_call (d + 9) 222 [(2, 53), (0, n), (0, w)] h K := by
  have g1 := g.t0 (v := 0)
  refine v222 ⟨g.c.M.t, c154 ⟨fun z => ⟨g1.1.c.M.t, c153 g1.1 (fun h2 f2 g2 => k1 (if1 z) h2 (f0.tr f2) g2)⟩, fun z => c154 ⟨fun z3 => ⟨g1.1.c.M.t, c153 g1.1 (fun h2 f2 g2 => k2 ⟨if0 z, if1 z3⟩ h2 (f0.tr f2) g2)⟩, fun z3 => ?_⟩⟩⟩
  have zn := if0 z
  simp only [g1.1.c.M.t, g1.1.c.M.f14, g1.1.c.M.f15, g1.1.ah.t, true_and]
  refine u130 g1 (fun h2 f2 c2 l2 ct2 g2 => ?_)
  show _ ∧ _
  simp only [c2.M.t, c2.M.f15, c2.B.t, true_and]
  refine c145 c2 l2 ct2 (by omega) (by omega) g.hb (fun h3 f3 c3 l3 hb3 => ?_)
  show _ ∧ _
  simp only [c3.B.t, true_and]
  refine c148 c3 (SB.ys g.c.I _ g.c.S.yr.1 g.sb) ?_
  exact k0 ⟨zn, if0 z3⟩ h3 (f0.tr ((f2.tr f3).wide (by decide) (by decide))) (g2.aw f3 c3.B)
theorem c225 {d : Nat} {h : AH} {pp ss : TT} {tt : Int → List Op} {tp : Int → Int} {tl er q : Int} {K : AK} (g : GM h pp ss tt tl tp er q) (k : ∀ h2, Fr 53 34 h h2 → GT h2 pp ss tt tl tp er q 0 → K 0 (s_mn pp ss) h2) : am_call (d + 2) 225 [(2, 53)] h K := by
  have nv := g.c.I.nv
  have g1 := g.t0 (v := 0)
  refine v225 ⟨g.c.M.t, ?_⟩
  have k1 := k _ f0 g1
  unfold s_mn at k1
  generalize am_w h 53 0 0 = h1 at g1 k1 ⊢
  suffices H : ∀ j : Nat, ∀ i : Nat, i + j = (pp 2 0).toNat → WP (d + 2) 225 (9, [(2, 53), (0, sm (s_pl pp ss) i), (0, (i : Int))], [], h1, 0, 0) K from H _ 0 (Nat.zero_add _)
  have c := g1.1.c
  intro j
  induction j with
  | zero =>
    intro i hij
    refine v225_9 ?_
    simp only [c.M.t, c.M.f12, c.M.f14, c.M.f15, c.M.f1, c.M.t1, c.M.l1, c.M.f5, c.M.t2, c.M.l2, c.M.f6, c.M.t3, c.M.l3, c.M.f7, c.M.t4, c.M.l4, c.M.f8, c.M.t5, c.M.l5, c.M.f9, c.M.t6, c.M.l6, c.B.t, c.B.f11, c.B.f3, c.B.t1, c.B.l1, c.B.f4, c.B.t2, c.B.l2, c.B.f5, c.B.t3, c.B.l3, c.B.f6, c.B.t4, c.B.l4, c.B.f7, c.B.t5, c.B.l5, c.B.f8, c.B.t6, c.B.l6, c.B.f10, c.B.t7, c.B.l7, c.Q.t, c.Q.f1, c.Q.t1, c.Q.l1, c.Q.f3, c.Q.t2, c.Q.l2, c.Q.f4, c.Q.t3, c.Q.l3, c.Q.f5, c.Q.t4, c.Q.l4, c.Q.f7, c.Q.t5, c.Q.l5, c.Q.f11, c.Q.t6, c.Q.l6, c.Q.f12, c.Q.t7, c.Q.l7, c.Q.f13, c.Q.t8, c.Q.l8, c.Q.f14, c.Q.t9, c.Q.l9, c.Q.f16, c.Q.t10, c.Q.l10, c.nw, c.np, c.nv, c.nb, c.yr, c.pot, c.pd, c.bud, true_and]
    refine ⟨fun z => absurd z (by omega), fun _ => ⟨fun z => ?_, fun z => ⟨?_, ?_⟩⟩⟩
    · rw [if_pos z] at k1
      exact k1
    · have b := ps_bd g.c.I g.c.S i (by omega)
      have := mean_ok (sm (s_pl pp ss) i).toNat (by omega) (pp 2 0).toNat (by omega) (by omega)
      rw [Int.toNat_of_nonneg b.1, Int.toNat_of_nonneg nv.1] at this
      exact this
    · rw [if_neg z] at k1
      unfold s_ps at k1
      rw [show (pp 2 0).toNat = i by omega] at k1
      exact k1
  | succ j ih =>
    intro i hij
    have b := ps_bd g.c.I g.c.S (i + 1) (by omega)
    have G := ih (i + 1) (by omega)
    rw [show sm (s_pl pp ss) (i + 1) = sm (s_pl pp ss) i + s_pl pp ss (i : Int) from rfl] at b G
    refine v225_9 ?_
    simp only [c.M.t, c.M.f12, c.M.f14, c.M.f15, c.M.f1, c.M.t1, c.M.l1, c.M.f5, c.M.t2, c.M.l2, c.M.f6, c.M.t3, c.M.l3, c.M.f7, c.M.t4, c.M.l4, c.M.f8, c.M.t5, c.M.l5, c.M.f9, c.M.t6, c.M.l6, c.B.t, c.B.f11, c.B.f3, c.B.t1, c.B.l1, c.B.f4, c.B.t2, c.B.l2, c.B.f5, c.B.t3, c.B.l3, c.B.f6, c.B.t4, c.B.l4, c.B.f7, c.B.t5, c.B.l5, c.B.f8, c.B.t6, c.B.l6, c.B.f10, c.B.t7, c.B.l7, c.Q.t, c.Q.f1, c.Q.t1, c.Q.l1, c.Q.f3, c.Q.t2, c.Q.l2, c.Q.f4, c.Q.t3, c.Q.l3, c.Q.f5, c.Q.t4, c.Q.l4, c.Q.f7, c.Q.t5, c.Q.l5, c.Q.f11, c.Q.t6, c.Q.l6, c.Q.f12, c.Q.t7, c.Q.l7, c.Q.f13, c.Q.t8, c.Q.l8, c.Q.f14, c.Q.t9, c.Q.l9, c.Q.f16, c.Q.t10, c.Q.l10, c.nw, c.np, c.nv, c.nb, c.yr, c.pot, c.pd, c.bud, true_and]
    refine ⟨fun _ => c136 c (by omega) (by omega) ?_, fun z => absurd (show (i : Int) < pp 2 0 by omega) z⟩
    show WP _ _ _ _
    rw [w32_nat (by omega), w32_id (by omega) (by omega)]
    exact G
