/-! ===== years, whole ===== -/
theorem year_bt {pp ss : TT} {tt : Int → List Op} {lo : Int} (hI : PI pp) (hS : SI pp (s_p1 pp tt lo ss)) : ∀ p, 0 ≤ p → p < pp 1 0 → s_year pp tt lo ss 7 p < s_year pp tt lo ss 0 0 := fun p h0 h1 => by
  have hb := (hS.built h0 h1).2
  rw [s_p1_0 hI] at hb
  rw [s_year_0]
  have e7 : s_year pp tt lo ss 7 p = s_p1 pp tt lo ss 7 p := su_ne (by omega)
  rw [e7]
  omega
theorem year_SI {pp ss : TT} {tt : Int → List Op} {lo : Int} (hI : PI pp) (hS : SI pp (s_p1 pp tt lo ss)) (hy : ss 0 0 + 1 < 2000000000) : SI pp (s_year pp tt lo ss) := by
  have yr := hS.yr
  rw [s_p1_0 hI] at yr
  refine hS.u0 ⟨by omega, hy⟩ (fun p h0 h1 => ?_)
  have hb := (hS.built h0 h1).2
  rw [s_p1_0 hI] at hb
  omega
theorem c66 {d : Nat} {h : AH} {a q lo n : Int} {pp ss : TT} {tt : Int → List Op} {K : AK} (c : CC h a q pp ss) (e2 : am_m h a 2 = lo) (ct : CT h q pp tt) (hn : 0 ≤ n) (hy : ss 0 0 + n < 2000000000) (hb : ∀ p, 0 ≤ p → p < pp 1 0 → ss 7 p < ss 0 0) (k : ∀ h2, Fr a 9 h h2 → CC h2 a q pp (s_ys pp tt lo n.toNat ss) → am_m h2 a 2 = lo → (∀ p, 0 ≤ p → p < pp 1 0 → s_ys pp tt lo n.toNat ss 7 p < s_ys pp tt lo n.toNat ss 0 0) → K 0 0 h2) : am_call (d + 8) 66 [(2, a), (0, n)] h K := by
  refine v66 ?_
  have ap := c.ap
  have y0 := c.S.yr
  suffices H : ∀ j : Nat, ∀ i : Nat, i + j = n.toNat → ∀ h1 s1, Fr a 9 h h1 → CC h1 a q pp s1 → am_m h1 a 2 = lo → CT h1 q pp tt → s1 0 0 = ss 0 0 + (i : Int) → (∀ p, 0 ≤ p → p < pp 1 0 → s1 7 p < s1 0 0) → s_ys pp tt lo j s1 = s_ys pp tt lo n.toNat ss → WP (d + 8) 66 (2, [(2, a), (0, n), (0, (i : Int))], [], h1, 0, 0) K from H _ 0 (Nat.zero_add _) h ss Fr.rf c e2 ct (by omega) hb rfl
  intro j
  induction j with
  | zero =>
    intro i hij h1 s1 f c e2 ct ey hb e
    refine v66_2 ?_
    refine ⟨fun z => absurd z (by omega), fun _ => ?_⟩
    have k1 := k h1 f
    rw [← e] at k1
    exact k1 c e2 hb
  | succ j ih =>
    intro i hij h1 s1 f c e2 ct ey hb e
    have hI := c.I
    refine v66_2 ⟨fun _ => ⟨c.P.t, c67 c e2 hb (fun h2 f2 c2 cy2 => ⟨c2.P.t, c68 c2 cy2 (ct.fr c.Q f2 ap) (fun h3 f3 c3 cy3 => ⟨c3.P.t, c73 c3 cy3 (ct.fr c.Q (f2.tr f3) ap) (fun h4 f4 c4 cy4 => ⟨c4.P.t, c76 c4 cy4.1 (fun h5 f5 c5 e5 => ?_)⟩)⟩)⟩)⟩, fun z => absurd (show (i : Int) < n by omega) z⟩
    have c6 : CC h5 a q pp (s_p1 pp tt lo s1) := c5
    have q0 := s_p1_0 (ss := s1) (tt := tt) (lo := lo) hI
    show _ ∧ _
    simp only [c6.P.t, c6.P.f5, c6.P.f3, c6.P.t1, c6.P.l1, c6.P.f4, c6.P.t2, c6.P.l2, c6.P.f8, c6.P.t3, c6.P.l3, c6.P.f9, c6.P.t4, c6.P.l4, c6.P.f10, c6.P.t5, c6.P.l5, c6.P.f11, c6.P.t6, c6.P.l6, c6.P.f12, c6.P.t7, c6.P.l7, c6.P.f13, c6.P.t8, c6.P.l8, c6.Q.t, c6.Q.f6, c6.Q.t1, c6.Q.l1, c6.Q.f7, c6.Q.t2, c6.Q.l2, c6.Q.f8, c6.Q.t3, c6.Q.l3, c6.Q.f9, c6.Q.t4, c6.Q.l4, c6.Q.f10, c6.Q.t5, c6.Q.l5, c6.Q.f11, c6.Q.t6, c6.Q.l6, c6.Q.f12, c6.Q.t7, c6.Q.l7, c6.Q.f13, c6.Q.t8, c6.Q.l8, c6.Q.f14, c6.Q.t9, c6.Q.l9, c6.nw, c6.np, c6.nv, c6.nb, c6.yr, c6.bud, c6.pot, c6.pd, q0, true_and]
    rw [w32_id (x := s1 0 0 + 1) (by omega) (by omega), w32_nat (by omega)]
    have ff : Fr a 9 h1 (am_w h5 a 0 (s1 0 0 + 1)) := (f2.tr (f3.tr (f4.tr f5))).w (by omega) (by omega)
    have ys := year_SI hI c6.S (by omega)
    refine ih (i + 1) (by omega) _ (s_year pp tt lo s1) (f.tr ff) (c6.u0 ys) ?_ (ct.fr c.Q ff ap) ?_ (year_bt hI c6.S) e
    · rw [am_m_w, if_neg (by omega)]
      exact e5
    · rw [s_year_0]
      omega
theorem m_b2 {d : Nat} {h : AH} {u q s e b lo : Int} {pp : TT} {tt : Int → List Op} {K : AK} (ap : q + 11 ≤ b ∨ b + 8 ≤ q) : ∀ (n : Nat) {h1 : AH} {s1 : TT} {l1 : Int}, MM h1 u q s e b pp s1 → am_m h1 b 9 = lo → MT h1 q pp tt → pp 1 0 - s_bc pp s1 ≤ (n : Int) → (0 ≤ l1 ∧ l1 + (pp 1 0 - s_bc pp s1) ≤ 100) → Fr b 8 h h1 → (∀ h2, Fr b 8 h h2 → MM h2 u q s e b pp (s_b2 pp tt lo n s1) → am_m h2 b 9 = lo → WP (d + 7) 144 (37, [(2, b), (0, l1 + (s_bc pp (s_b2 pp tt lo n s1) - s_bc pp s1)), (0, s_px pp (s_b2 pp tt lo n s1) tt lo)], [], h2, 0, 0) K) → WP (d + 7) 144 (11, [(2, b), (0, l1), (0, s_nx pp s1 tt lo)], [], h1, 0, 0) K := by
  intro n
  induction n with
  | zero =>
    intro h1 s1 l1 c hl ct hn hw f kk
    have rg := nx_rg (ss := s1) (tt := tt) (lo := lo) c.I
    by_cases z : s_nx pp s1 tt lo = -1
    · refine v144_11 ⟨fun _ => ⟨c.B.t, c143 c hl ct (fun h2 f2 c2 => ?_)⟩, fun z2 => absurd z z2⟩
      have k1 := kk h2 (f.tr f2.fr) c2 ((f2.2.2.2.2 b 9 (by omega)).trans hl)
      rw [show s_b2 pp tt lo 0 s1 = s1 from rfl, show l1 + (s_bc pp s1 - s_bc pp s1) = l1 by omega] at k1
      exact k1
    · obtain ⟨r0, r1, r7, rs⟩ := rg.resolve_left z
      have := bc_buy c.I c.S r0 r1 r7 rs
      have := bc_bd (ss := s_buy pp s1 (s_nx pp s1 tt lo)) c.I
      omega
  | succ n ih =>
    intro h1 s1 l1 c hl ct hn hw f kk
    have rg := nx_rg (ss := s1) (tt := tt) (lo := lo) c.I
    by_cases z : s_nx pp s1 tt lo = -1
    · refine v144_11 ⟨fun _ => ⟨c.B.t, c143 c hl ct (fun h2 f2 c2 => ?_)⟩, fun z2 => absurd z z2⟩
      have e2 : s_b2 pp tt lo (n + 1) s1 = s1 := if_pos z
      rw [e2] at kk
      have k1 := kk h2 (f.tr f2.fr) c2 ((f2.2.2.2.2 b 9 (by omega)).trans hl)
      rw [show l1 + (s_bc pp s1 - s_bc pp s1) = l1 by omega] at k1
      exact k1
    · have e2 : s_b2 pp tt lo (n + 1) s1 = s_b2 pp tt lo n (s_buy pp s1 (s_nx pp s1 tt lo)) := if_neg z
      obtain ⟨r0, r1, r7, rs⟩ := rg.resolve_left z
      have bb := bc_buy c.I c.S r0 r1 r7 rs
      have bd := bc_bd (ss := s_buy pp s1 (s_nx pp s1 tt lo)) c.I
      have bd1 := bc_bd (ss := s1) c.I
      refine v144_11 ⟨fun z2 => absurd z2 z, fun _ => ⟨c.B.t, c141 c hl r0 r1 rs (fun h2 f2 c2 l2 => ⟨c2.B.t, c140 c2 l2 (ct.fr c.Q f2 ap) (fun h3 f3 c3 => ?_)⟩)⟩⟩
      show WP _ _ _ _
      rw [w32_id (x := l1 + 1) (by omega) (by omega)]
      refine ih c3 ((f3.2.2.2.2 b 9 (by omega)).trans l2) (ct.fr c.Q (f2.tr f3.fr) ap) (by omega) (by omega) (f.tr (f2.tr f3.fr)) (fun h4 f4 c4 l4 => ?_)
      rw [← e2] at c4 ⊢
      have k1 := kk h4 f4 c4 l4
      rw [bb, show l1 + 1 + (s_bc pp (s_b2 pp tt lo (n + 1) s1) - (s_bc pp s1 + 1)) = l1 + (s_bc pp (s_b2 pp tt lo (n + 1) s1) - s_bc pp s1) by omega]
      exact k1
theorem m_b3 {d : Nat} {h : AH} {u q s e b lo : Int} {pp : TT} {tt : Int → List Op} {K : AK} (ap : q + 11 ≤ b ∨ b + 8 ≤ q) : ∀ (n : Nat) {h1 : AH} {s1 : TT} {l1 : Int}, MM h1 u q s e b pp s1 → am_m h1 b 9 = lo → MT h1 q pp tt → pp 1 0 - s_bc pp s1 ≤ (n : Int) → (0 ≤ l1 ∧ l1 + (pp 1 0 - s_bc pp s1) ≤ 100) → Fr b 8 h h1 → (∀ h2, Fr b 8 h h2 → MM h2 u q s e b pp (s_b3 pp tt lo n s1) → am_m h2 b 9 = lo → WP (d + 7) 144 (75, [(2, b), (0, l1 + (s_bc pp (s_b3 pp tt lo n s1) - s_bc pp s1)), (0, 0)], [], h2, 0, 0) K) → WP (d + 7) 144 (37, [(2, b), (0, l1), (0, s_px pp s1 tt lo)], [], h1, 0, 0) K := by
  intro n
  induction n with
  | zero =>
    intro h1 s1 l1 c hl ct hn hw f kk
    have rg := px_rg (ss := s1) (tt := tt) (lo := lo) c.I
    by_cases z : s_px pp s1 tt lo = -1
    · refine v144_37 ⟨fun _ => ?_, fun z2 => absurd z z2⟩
      have k1 := kk h1 f c hl
      rw [show s_b3 pp tt lo 0 s1 = s1 from rfl, show l1 + (s_bc pp s1 - s_bc pp s1) = l1 by omega] at k1
      exact k1
    · obtain ⟨r0, r1, r7, rc⟩ := rg.resolve_left z
      have := bc_pot c.I c.S r0 r1 r7 rc
      have := bc_bd (ss := s_pot s1 (s_px pp s1 tt lo)) c.I
      omega
  | succ n ih =>
    intro h1 s1 l1 c hl ct hn hw f kk
    have rg := px_rg (ss := s1) (tt := tt) (lo := lo) c.I
    by_cases z : s_px pp s1 tt lo = -1
    · refine v144_37 ⟨fun _ => ?_, fun z2 => absurd z z2⟩
      have e2 : s_b3 pp tt lo (n + 1) s1 = s1 := if_pos z
      rw [e2] at kk
      have k1 := kk h1 f c hl
      rw [show l1 + (s_bc pp s1 - s_bc pp s1) = l1 by omega] at k1
      exact k1
    · have e2 : s_b3 pp tt lo (n + 1) s1 = s_b3 pp tt lo n (s_pot s1 (s_px pp s1 tt lo)) := if_neg z
      obtain ⟨r0, r1, r7, rc⟩ := rg.resolve_left z
      have bb := bc_pot c.I c.S r0 r1 r7 rc
      have bd := bc_bd (ss := s_pot s1 (s_px pp s1 tt lo)) c.I
      have bd1 := bc_bd (ss := s1) c.I
      have ec := c.cost r0 r1
      have cb := c.S.cost r0 r1
      have po := c.S.pot
      have np := c.I.np
      refine v144_37 ⟨fun z2 => absurd z2 z, fun _ => ?_⟩
      simp only [c.M.t, c.M.f12, c.M.f14, c.M.f15, c.M.f1, c.M.t1, c.M.l1, c.M.f5, c.M.t2, c.M.l2, c.M.f6, c.M.t3, c.M.l3, c.M.f7, c.M.t4, c.M.l4, c.M.f8, c.M.t5, c.M.l5, c.M.f9, c.M.t6, c.M.l6, c.B.t, c.B.f11, c.B.f3, c.B.t1, c.B.l1, c.B.f4, c.B.t2, c.B.l2, c.B.f5, c.B.t3, c.B.l3, c.B.f6, c.B.t4, c.B.l4, c.B.f7, c.B.t5, c.B.l5, c.B.f8, c.B.t6, c.B.l6, c.B.f10, c.B.t7, c.B.l7, c.Q.t, c.Q.f1, c.Q.t1, c.Q.l1, c.Q.f3, c.Q.t2, c.Q.l2, c.Q.f4, c.Q.t3, c.Q.l3, c.Q.f5, c.Q.t4, c.Q.l4, c.Q.f7, c.Q.t5, c.Q.l5, c.Q.f11, c.Q.t6, c.Q.l6, c.Q.f12, c.Q.t7, c.Q.l7, c.Q.f13, c.Q.t8, c.Q.l8, c.Q.f14, c.Q.t9, c.Q.l9, c.Q.f16, c.Q.t10, c.Q.l10, c.nw, c.np, c.nv, c.nb, c.yr, c.pot, c.pd, c.bud, ec, true_and]
      rw [w32_id (x := s1 2 0 - s1 6 (s_px pp s1 tt lo)) (by omega) (by omega)]
      have c2 := c.u2 (c.S.u2 (v := s1 2 0 - s1 6 (s_px pp s1 tt lo)) ⟨by omega, by omega⟩)
      have f2 : Fr b 8 h1 (am_w h1 b 1 (s1 2 0 - s1 6 (s_px pp s1 tt lo))) := Fr.rf.w (by omega) (by omega)
      refine ⟨⟨r0, by omega⟩, c2.B.t, c142 (lo := lo) c2 (by rw [am_m_w, if_neg (by omega)]; exact hl) r0 r1 (fun h3 f3 c3 l3 => ⟨c3.B.t, c143 c3 l3 (ct.fr c.Q (f2.tr f3) ap) (fun h4 f4 c4 => ?_)⟩)⟩
      show WP _ _ _ _
      rw [w32_id (x := l1 + 1) (by omega) (by omega)]
      refine ih c4 ((f4.2.2.2.2 b 9 (by omega)).trans l3) (ct.fr c.Q (f2.tr (f3.tr f4.fr)) ap) (Int.le_of_sub_nonneg (show 0 ≤ (n : Int) - (pp 1 0 - s_bc pp (s_pot s1 (s_px pp s1 tt lo))) by omega)) ⟨by omega, show l1 + 1 + (pp 1 0 - s_bc pp (s_pot s1 (s_px pp s1 tt lo))) ≤ 100 by omega⟩ (f.tr (f2.tr (f3.tr f4.fr))) (fun h5 f5 c5 l5 => ?_)
      change MM h5 u q s e b pp (s_b3 pp tt lo n (s_pot s1 (s_px pp s1 tt lo))) at c5
      show WP _ _ (_, [_, (0, l1 + 1 + (s_bc pp (s_b3 pp tt lo n (s_pot s1 (s_px pp s1 tt lo))) - s_bc pp (s_pot s1 (s_px pp s1 tt lo)))), _], _, _, _, _) _
      rw [← e2] at c5 ⊢
      have k1 := kk h5 f5 c5 l5
      rw [bb, show l1 + 1 + (s_bc pp (s_b3 pp tt lo (n + 1) s1) - (s_bc pp s1 + 1)) = l1 + (s_bc pp (s_b3 pp tt lo (n + 1) s1) - s_bc pp s1) by omega]
      exact k1
theorem m_gr {d : Nat} {h : AH} {u q s e b lo l1 : Int} {pp ss : TT} {K : AK} (c : MM h u q s e b pp ss) (hl : am_m h b 9 = lo) (k : ∀ h2, Fr b 8 h h2 → MM h2 u q s e b pp (s_gr pp ss (pp 1 0).toNat) → am_m h2 b 9 = lo → K 0 l1 (am_w h2 b 0 (w32 (ss 0 0 + 1)))) : WP (d + 1) 144 (75, [(2, b), (0, l1), (0, 0)], [], h, 0, 0) K := by
  have np := c.I.np
  suffices H : ∀ j : Nat, ∀ i : Nat, i + j = (pp 1 0).toNat → ∀ h1, Fr b 8 h h1 → MM h1 u q s e b pp (s_gr pp ss i) → am_m h1 b 9 = lo → WP (d + 1) 144 (75, [(2, b), (0, l1), (0, (i : Int))], [], h1, 0, 0) K from H _ 0 (Nat.zero_add _) h Fr.rf c hl
  intro j
  induction j with
  | zero =>
    intro i hij h1 f c e2
    have ey : s_gr pp ss i 0 0 = ss 0 0 := s_gr_ne (by decide) i
    refine v144_75 ?_
    simp only [c.M.t, c.M.f12, c.M.f14, c.M.f15, c.M.f1, c.M.t1, c.M.l1, c.M.f5, c.M.t2, c.M.l2, c.M.f6, c.M.t3, c.M.l3, c.M.f7, c.M.t4, c.M.l4, c.M.f8, c.M.t5, c.M.l5, c.M.f9, c.M.t6, c.M.l6, c.B.t, c.B.f11, c.B.f3, c.B.t1, c.B.l1, c.B.f4, c.B.t2, c.B.l2, c.B.f5, c.B.t3, c.B.l3, c.B.f6, c.B.t4, c.B.l4, c.B.f7, c.B.t5, c.B.l5, c.B.f8, c.B.t6, c.B.l6, c.B.f10, c.B.t7, c.B.l7, c.Q.t, c.Q.f1, c.Q.t1, c.Q.l1, c.Q.f3, c.Q.t2, c.Q.l2, c.Q.f4, c.Q.t3, c.Q.l3, c.Q.f5, c.Q.t4, c.Q.l4, c.Q.f7, c.Q.t5, c.Q.l5, c.Q.f11, c.Q.t6, c.Q.l6, c.Q.f12, c.Q.t7, c.Q.l7, c.Q.f13, c.Q.t8, c.Q.l8, c.Q.f14, c.Q.t9, c.Q.l9, c.Q.f16, c.Q.t10, c.Q.l10, c.nw, c.np, c.nv, c.nb, c.yr, c.pot, c.pd, c.bud, ey, true_and]
    refine ⟨fun z => absurd z (by omega), fun _ => ?_⟩
    refine k h1 f ?_ e2
    rw [show (pp 1 0).toNat = i by omega]
    exact c
  | succ j ih =>
    intro i hij h1 f c e2
    have ap := c.ap
    have G := fun h2 => ih (i + 1) (by omega) h2
    rw [s_gr_succ] at G
    have gb := c.I.grows (i := (i : Int)) (by omega) (by omega)
    generalize s_gr pp ss i = sx at c G
    have e4 := c.cost (i := (i : Int)) (by omega) (by omega)
    have e5 := c.grows (i := (i : Int)) (by omega) (by omega)
    have e6 := c.built (i := (i : Int)) (by omega) (by omega)
    have cb := c.S.cost (i := (i : Int)) (by omega) (by omega)
    refine v144_75 ?_
    simp only [c.M.t, c.M.f12, c.M.f14, c.M.f15, c.M.f1, c.M.t1, c.M.l1, c.M.f5, c.M.t2, c.M.l2, c.M.f6, c.M.t3, c.M.l3, c.M.f7, c.M.t4, c.M.l4, c.M.f8, c.M.t5, c.M.l5, c.M.f9, c.M.t6, c.M.l6, c.B.t, c.B.f11, c.B.f3, c.B.t1, c.B.l1, c.B.f4, c.B.t2, c.B.l2, c.B.f5, c.B.t3, c.B.l3, c.B.f6, c.B.t4, c.B.l4, c.B.f7, c.B.t5, c.B.l5, c.B.f8, c.B.t6, c.B.l6, c.B.f10, c.B.t7, c.B.l7, c.Q.t, c.Q.f1, c.Q.t1, c.Q.l1, c.Q.f3, c.Q.t2, c.Q.l2, c.Q.f4, c.Q.t3, c.Q.l3, c.Q.f5, c.Q.t4, c.Q.l4, c.Q.f7, c.Q.t5, c.Q.l5, c.Q.f11, c.Q.t6, c.Q.l6, c.Q.f12, c.Q.t7, c.Q.l7, c.Q.f13, c.Q.t8, c.Q.l8, c.Q.f14, c.Q.t9, c.Q.l9, c.Q.f16, c.Q.t10, c.Q.l10, c.nw, c.np, c.nv, c.nb, c.yr, c.pot, c.pd, c.bud, e4, e5, e6, true_and]
    refine ⟨fun _ => ⟨⟨by omega, by omega⟩, fun z => ?_, fun z => ?_⟩, fun z => absurd (show (i : Int) < pp 1 0 by omega) z⟩
    · rw [if_pos z] at G
      rw [w32_nat (by omega)]
      exact ⟨⟨by omega, by omega⟩, ⟨by omega, by omega⟩, ⟨by omega, by omega⟩, (by decide), ⟨by omega, by omega⟩, G _ (f.w (by omega) (by omega)) (c.u6 (c.S.u6 (g1_bd cb.1 cb.2 gb.1 gb.2))) (by rw [am_m_w, if_neg (by omega)]; exact e2)⟩
    · rw [if_neg z] at G
      rw [w32_nat (by omega)]
      exact G _ f c e2
theorem b2_mono {pp : TT} {tt : Int → List Op} {lo : Int} (hI : PI pp) : ∀ (n : Nat) {s1 : TT}, SI pp s1 → s_bc pp s1 ≤ s_bc pp (s_b2 pp tt lo n s1) := by
  intro n
  induction n with
  | zero => exact fun _ => Int.le_refl _
  | succ n ih =>
    intro s1 hS
    by_cases z : s_nx pp s1 tt lo = -1
    · rw [show s_b2 pp tt lo (n + 1) s1 = s1 from if_pos z]
      exact Int.le_refl _
    · obtain ⟨r0, r1, r7, rs⟩ := (nx_rg (ss := s1) (tt := tt) (lo := lo) hI).resolve_left z
      rw [show s_b2 pp tt lo (n + 1) s1 = s_b2 pp tt lo n (s_buy pp s1 (s_nx pp s1 tt lo)) from if_neg z]
      have bb := bc_buy hI hS r0 r1 r7 rs
      have h2 : SI pp (s_buy pp s1 (s_nx pp s1 tt lo)) := ((SI.bf hI hS r0 r1 rs (s_tg pp s1 (s_nx pp s1 tt lo) (s_sh pp s1 (s_nx pp s1 tt lo)) - s1 6 (s_nx pp s1 tt lo)) _ (Nat.le_refl _)).u8 (i := s_nx pp s1 tt lo) (v := 1) (Or.inr rfl)).bld
      have := ih h2
      omega
theorem c144 {d : Nat} {h : AH} {u q s e b lo : Int} {pp ss : TT} {tt : Int → List Op} {K : AK} (c : MM h u q s e b pp ss) (hl : am_m h b 9 = lo) (ct : MT h q pp tt) (hy : ss 0 0 + 1 < 2000000000) (k : ∀ h2, Fr b 8 h h2 → MM h2 u q s e b pp (s_year pp tt lo ss) → am_m h2 b 9 = lo → (∀ p, 0 ≤ p → p < pp 1 0 → s_year pp tt lo ss 7 p < s_year pp tt lo ss 0 0) → K 0 (s_bc pp (s_year pp tt lo ss) - s_bc pp ss) h2) : am_call (d + 7) 144 [(2, b)] h K := by
  have hI := c.I
  have np := c.I.np
  have ap := c.ap
  have yr := c.S.yr
  refine v144 ⟨c.B.t, c139 c hl (fun h2 f2 c2 l2 => ⟨c2.B.t, c140 c2 l2 (ct.fr c.Q f2 ap.2) (fun h3 f3 c3 => ?_)⟩)⟩
  have bd := bc_bd (ss := s_col pp ss) hI
  refine m_b2 (h := h) ap.2 12 c3 ((f3.2.2.2.2 b 9 (by omega)).trans l2) (ct.fr c.Q (f2.tr f3.fr) ap.2) (by omega) (by omega) (f2.tr f3.fr) (fun h4 f4 c4 l4 => ?_)
  have bd4 := bc_bd (ss := s_b2 pp tt lo 12 (s_col pp ss)) hI
  have ec : s_bc pp (s_col pp ss) = s_bc pp ss := bc_congr (fun o => s_col_ne (by decide) (by decide))
  rw [ec]
  generalize hl1 : 0 + (s_bc pp (s_b2 pp tt lo 12 (s_col pp ss)) - s_bc pp ss) = l1
  have bd0 := bc_bd (ss := ss) hI
  refine m_b3 (h := h) ap.2 12 c4 l4 (ct.fr c.Q f4 ap.2) (by omega) ?_ f4 (fun h5 f5 c5 l5 => ?_)
  · have := b2_mono (tt := tt) (lo := lo) hI 12 c2.S
    omega
  refine m_gr c5 l5 (fun h6 f6 c6 l6 => ?_)
  have c7 : MM h6 u q s e b pp (s_p1 pp tt lo ss) := c6
  have e0 : s_b3 pp tt lo 12 (s_b2 pp tt lo 12 (s_col pp ss)) 0 0 = ss 0 0 := by
    rw [s_b3_0, s_b2_0 hI, s_col_ne (by decide) (by decide)]
  rw [e0, w32_id (by omega) (by omega)]
  have ys := year_SI hI c7.S hy
  have k1 := k _ ((f5.tr f6).w (by omega) (by omega)) (c7.u0 ys) (by rw [am_m_w, if_neg (by omega)]; exact l6) (year_bt hI c7.S)
  have eb : s_bc pp (s_year pp tt lo ss) = s_bc pp (s_b3 pp tt lo 12 (s_b2 pp tt lo 12 (s_col pp ss))) := bc_congr (fun o => (su_ne (by omega)).trans (s_gr_ne (by decide) _))
  rw [eb] at k1
  rw [← hl1, show ∀ x y z : Int, 0 + (x - y) + (z - x) = z - y from fun x y z => by omega]
  exact k1
theorem c145 {d : Nat} {h : AH} {u q s e b lo n : Int} {pp ss : TT} {tt : Int → List Op} {K : AK} (c : MM h u q s e b pp ss) (hl : am_m h b 9 = lo) (ct : MT h q pp tt) (hn : 0 ≤ n) (hy : ss 0 0 + n < 2000000000) (hb : ∀ p, 0 ≤ p → p < pp 1 0 → ss 7 p < ss 0 0) (k : ∀ h2, Fr b 8 h h2 → MM h2 u q s e b pp (s_ys pp tt lo n.toNat ss) → am_m h2 b 9 = lo → (∀ p, 0 ≤ p → p < pp 1 0 → s_ys pp tt lo n.toNat ss 7 p < s_ys pp tt lo n.toNat ss 0 0) → K 0 b h2) : am_call (d + 8) 145 [(2, b), (0, n)] h K := by
  refine v145 ?_
  have ap := c.ap
  have hQ := c.Q
  have y0 := c.S.yr
  suffices H : ∀ j : Nat, ∀ i : Nat, i + j = n.toNat → ∀ h1 s1, Fr b 8 h h1 → MM h1 u q s e b pp s1 → am_m h1 b 9 = lo → s1 0 0 = ss 0 0 + (i : Int) → (∀ p, 0 ≤ p → p < pp 1 0 → s1 7 p < s1 0 0) → s_ys pp tt lo j s1 = s_ys pp tt lo n.toNat ss → WP (d + 8) 145 (2, [(2, b), (0, n), (0, (i : Int))], [], h1, 0, 0) K from H _ 0 (Nat.zero_add _) h ss Fr.rf c hl (by omega) hb rfl
  intro j
  induction j with
  | zero =>
    intro i hij h1 s1 f c e2 ey hb e
    refine v145_2 ⟨fun z => absurd z (by omega), fun _ => ?_⟩
    have k1 := k h1 f
    rw [← e] at k1
    exact k1 c e2 hb
  | succ j ih =>
    intro i hij h1 s1 f c e2 ey hb e
    refine v145_2 ⟨fun _ => ⟨c.B.t, c144 c e2 (ct.fr hQ f ap.2) (by omega) (fun h2 f2 c2 l2 hb2 => ?_)⟩, fun z => absurd (show (i : Int) < n by omega) z⟩
    show WP _ _ _ _
    rw [w32_nat (by omega)]
    exact ih (i + 1) (by omega) h2 _ (f.tr f2) c2 l2 (by rw [s_year_0]; omega) hb2 e
