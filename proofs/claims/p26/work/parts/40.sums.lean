/-! ===== looking, on both sides ===== -/
theorem c58 {d : Nat} {h : AH} {a q p : Int} {pp ss : TT} {K : AK} (c : CC h a q pp ss) (h0 : 0 ≤ p) (h1 : p < pp 1 0) (k : K 0 (if ss 7 p = -1 then 1 else 0) h) : am_call d 58 [(2, a), (0, p)] h K := by
  refine v58 ?_
  have np := c.I.np
  have e1 := c.built h0 h1
  simp only [c.P.t, c.P.f5, c.P.f3, c.P.t1, c.P.l1, c.P.f4, c.P.t2, c.P.l2, c.P.f8, c.P.t3, c.P.l3, c.P.f9, c.P.t4, c.P.l4, c.P.f10, c.P.t5, c.P.l5, c.P.f11, c.P.t6, c.P.l6, c.P.f12, c.P.t7, c.P.l7, c.P.f13, c.P.t8, c.P.l8, c.Q.t, c.Q.f6, c.Q.t1, c.Q.l1, c.Q.f7, c.Q.t2, c.Q.l2, c.Q.f8, c.Q.t3, c.Q.l3, c.Q.f9, c.Q.t4, c.Q.l4, c.Q.f10, c.Q.t5, c.Q.l5, c.Q.f11, c.Q.t6, c.Q.l6, c.Q.f12, c.Q.t7, c.Q.l7, c.Q.f13, c.Q.t8, c.Q.l8, c.Q.f14, c.Q.t9, c.Q.l9, c.nw, c.np, c.nv, c.nb, c.yr, c.bud, c.pot, c.pd, e1, true_and]
  exact ⟨⟨h0, by omega⟩, fun z => ⟨Or.inr trivial, by rw [if_pos z] at k; exact k⟩, fun z => ⟨Or.inl trivial, by rw [if_neg z] at k; exact k⟩⟩
theorem c59 {d : Nat} {h : AH} {a q v p : Int} {pp ss : TT} {K : AK} (c : CC h a q pp ss) (h0 : 0 ≤ v) (h1 : v < 12) (h2 : 0 ≤ p) (h3 : p < pp 1 0) (k : K 0 (ss 9 (12 * v + p)) h) : am_call d 59 [(2, a), (0, v), (0, p)] h K := by
  refine v59 ?_
  have np := c.I.np
  have e1 := c.fan h2 h3 h0 h1
  have bf := c.S.fan (12 * v + p)
  simp only [c.P.t, c.P.f5, c.P.f3, c.P.t1, c.P.l1, c.P.f4, c.P.t2, c.P.l2, c.P.f8, c.P.t3, c.P.l3, c.P.f9, c.P.t4, c.P.l4, c.P.f10, c.P.t5, c.P.l5, c.P.f11, c.P.t6, c.P.l6, c.P.f12, c.P.t7, c.P.l7, c.P.f13, c.P.t8, c.P.l8, c.Q.t, c.Q.f6, c.Q.t1, c.Q.l1, c.Q.f7, c.Q.t2, c.Q.l2, c.Q.f8, c.Q.t3, c.Q.l3, c.Q.f9, c.Q.t4, c.Q.l4, c.Q.f10, c.Q.t5, c.Q.l5, c.Q.f11, c.Q.t6, c.Q.l6, c.Q.f12, c.Q.t7, c.Q.l7, c.Q.f13, c.Q.t8, c.Q.l8, c.Q.f14, c.Q.t9, c.Q.l9, c.nw, c.np, c.nv, c.nb, c.yr, c.bud, c.pot, c.pd, e1, true_and]
  exact ⟨⟨h2, by omega⟩, fun z => ⟨Or.inl trivial, by rw [z] at k; exact k⟩, fun z => ⟨Or.inr trivial, by rw [show ss 9 (12 * v + p) = 1 by omega] at k; exact k⟩⟩
theorem c50 {d : Nat} {h : AH} {a q : Int} {pp ss : TT} {K : AK} (c : CC h a q pp ss) (k : K 0 (s_pu pp ss) h) : am_call d 50 [(2, a)] h K := by
  refine v50 ?_
  have np := c.I.np
  have nv := c.I.nv
  refine lp_up (fun i => (4, [(2, a), (0, sm (f_pu ss) i), (0, (i : Int))], [], h, 0, 0)) (pp 2 0).toNat (fun i hi ih => ?_) ?_
  · refine v50_4 ?_
    have bd := sm_bd (f := f_pu ss) (B := 9999) (n := i) (fun j hj => by exact c.S.purse (by omega) (by omega))
    have ei : w32 ((i : Int) + 1) = ((i + 1 : Nat) : Int) := w32_id (by omega) (by omega)
    have e1 := c.purse (i := (i : Int)) (by omega) (by omega)
    have b1 := c.S.purse (i := (i : Int)) (by omega) (by omega)
    simp only [c.P.t, c.P.f5, c.P.f3, c.P.t1, c.P.l1, c.P.f4, c.P.t2, c.P.l2, c.P.f8, c.P.t3, c.P.l3, c.P.f9, c.P.t4, c.P.l4, c.P.f10, c.P.t5, c.P.l5, c.P.f11, c.P.t6, c.P.l6, c.P.f12, c.P.t7, c.P.l7, c.P.f13, c.P.t8, c.P.l8, c.Q.t, c.Q.f6, c.Q.t1, c.Q.l1, c.Q.f7, c.Q.t2, c.Q.l2, c.Q.f8, c.Q.t3, c.Q.l3, c.Q.f9, c.Q.t4, c.Q.l4, c.Q.f10, c.Q.t5, c.Q.l5, c.Q.f11, c.Q.t6, c.Q.l6, c.Q.f12, c.Q.t7, c.Q.l7, c.Q.f13, c.Q.t8, c.Q.l8, c.Q.f14, c.Q.t9, c.Q.l9, c.nw, c.np, c.nv, c.nb, c.yr, c.bud, c.pot, c.pd, e1, true_and]
    refine ⟨fun _ => ⟨⟨by omega, by omega⟩, ?_⟩, fun z => absurd (show (i : Int) < pp 2 0 by omega) z⟩
    have ea : w32 (sm (f_pu ss) i + ss 4 (i : Int)) = sm (f_pu ss) (i + 1) := by
      rw [w32_id (by omega) (by omega)]
      show _ = sm (f_pu ss) i + f_pu ss (i : Int)
      rw [show f_pu ss (i : Int) = ss 4 (i : Int) from rfl]
    rw [ea, ei]
    exact ih
  · refine v50_4 ?_
    simp only [c.P.t, c.P.f5, c.P.f3, c.P.t1, c.P.l1, c.P.f4, c.P.t2, c.P.l2, c.P.f8, c.P.t3, c.P.l3, c.P.f9, c.P.t4, c.P.l4, c.P.f10, c.P.t5, c.P.l5, c.P.f11, c.P.t6, c.P.l6, c.P.f12, c.P.t7, c.P.l7, c.P.f13, c.P.t8, c.P.l8, c.Q.t, c.Q.f6, c.Q.t1, c.Q.l1, c.Q.f7, c.Q.t2, c.Q.l2, c.Q.f8, c.Q.t3, c.Q.l3, c.Q.f9, c.Q.t4, c.Q.l4, c.Q.f10, c.Q.t5, c.Q.l5, c.Q.f11, c.Q.t6, c.Q.l6, c.Q.f12, c.Q.t7, c.Q.l7, c.Q.f13, c.Q.t8, c.Q.l8, c.Q.f14, c.Q.t9, c.Q.l9, c.nw, c.np, c.nv, c.nb, c.yr, c.bud, c.pot, c.pd, true_and]
    exact ⟨fun z => absurd z (by omega), fun _ => k⟩
theorem c52 {d : Nat} {h : AH} {a q : Int} {pp ss : TT} {K : AK} (c : CC h a q pp ss) (k : K 0 (s_bo pp ss) h) : am_call d 52 [(2, a)] h K := by
  refine v52 ?_
  have np := c.I.np
  have nv := c.I.nv
  refine lp_up (fun i => (4, [(2, a), (0, sm (f_bo ss) i), (0, (i : Int))], [], h, 0, 0)) (pp 1 0).toNat (fun i hi ih => ?_) ?_
  · refine v52_4 ?_
    have bd := sm_bd (f := f_bo ss) (B := 1) (n := i) (fun j hj => by unfold f_bo; have := c.S.bought (i := (j : Int)) (by omega) (by omega); omega)
    have ei : w32 ((i : Int) + 1) = ((i + 1 : Nat) : Int) := w32_id (by omega) (by omega)
    have e1 := c.bought (i := (i : Int)) (by omega) (by omega)
    have b1 := c.S.bought (i := (i : Int)) (by omega) (by omega)
    simp only [c.P.t, c.P.f5, c.P.f3, c.P.t1, c.P.l1, c.P.f4, c.P.t2, c.P.l2, c.P.f8, c.P.t3, c.P.l3, c.P.f9, c.P.t4, c.P.l4, c.P.f10, c.P.t5, c.P.l5, c.P.f11, c.P.t6, c.P.l6, c.P.f12, c.P.t7, c.P.l7, c.P.f13, c.P.t8, c.P.l8, c.Q.t, c.Q.f6, c.Q.t1, c.Q.l1, c.Q.f7, c.Q.t2, c.Q.l2, c.Q.f8, c.Q.t3, c.Q.l3, c.Q.f9, c.Q.t4, c.Q.l4, c.Q.f10, c.Q.t5, c.Q.l5, c.Q.f11, c.Q.t6, c.Q.l6, c.Q.f12, c.Q.t7, c.Q.l7, c.Q.f13, c.Q.t8, c.Q.l8, c.Q.f14, c.Q.t9, c.Q.l9, c.nw, c.np, c.nv, c.nb, c.yr, c.bud, c.pot, c.pd, e1, true_and]
    refine ⟨fun _ => ⟨⟨by omega, by omega⟩, ?_⟩, fun z => absurd (show (i : Int) < pp 1 0 by omega) z⟩
    have ea : w32 (sm (f_bo ss) i + ss 8 (i : Int)) = sm (f_bo ss) (i + 1) := by
      rw [w32_id (by omega) (by omega)]
      show _ = sm (f_bo ss) i + f_bo ss (i : Int)
      rw [show f_bo ss (i : Int) = ss 8 (i : Int) from rfl]
    rw [ea, ei]
    exact ih
  · refine v52_4 ?_
    simp only [c.P.t, c.P.f5, c.P.f3, c.P.t1, c.P.l1, c.P.f4, c.P.t2, c.P.l2, c.P.f8, c.P.t3, c.P.l3, c.P.f9, c.P.t4, c.P.l4, c.P.f10, c.P.t5, c.P.l5, c.P.f11, c.P.t6, c.P.l6, c.P.f12, c.P.t7, c.P.l7, c.P.f13, c.P.t8, c.P.l8, c.Q.t, c.Q.f6, c.Q.t1, c.Q.l1, c.Q.f7, c.Q.t2, c.Q.l2, c.Q.f8, c.Q.t3, c.Q.l3, c.Q.f9, c.Q.t4, c.Q.l4, c.Q.f10, c.Q.t5, c.Q.l5, c.Q.f11, c.Q.t6, c.Q.l6, c.Q.f12, c.Q.t7, c.Q.l7, c.Q.f13, c.Q.t8, c.Q.l8, c.Q.f14, c.Q.t9, c.Q.l9, c.nw, c.np, c.nv, c.nb, c.yr, c.bud, c.pot, c.pd, true_and]
    exact ⟨fun z => absurd z (by omega), fun _ => k⟩
theorem c51 {d : Nat} {h : AH} {a q : Int} {pp ss : TT} {K : AK} (c : CC h a q pp ss) (k : K 0 (s_bc pp ss) h) : am_call (d + 1) 51 [(2, a)] h K := by
  refine v51 ?_
  have np := c.I.np
  have nv := c.I.nv
  refine lp_up (fun i => (4, [(2, a), (0, sm (f_bc ss) i), (0, (i : Int))], [], h, 0, 0)) (pp 1 0).toNat (fun i hi ih => ?_) ?_
  · refine v51_4 ?_
    have bd := sm_bd (f := f_bc ss) (B := 1) (n := i) (fun j hj => by unfold f_bc; split <;> omega)
    have ei : w32 ((i : Int) + 1) = ((i + 1 : Nat) : Int) := w32_id (by omega) (by omega)
    simp only [c.P.t, c.P.f5, c.P.f3, c.P.t1, c.P.l1, c.P.f4, c.P.t2, c.P.l2, c.P.f8, c.P.t3, c.P.l3, c.P.f9, c.P.t4, c.P.l4, c.P.f10, c.P.t5, c.P.l5, c.P.f11, c.P.t6, c.P.l6, c.P.f12, c.P.t7, c.P.l7, c.P.f13, c.P.t8, c.P.l8, c.Q.t, c.Q.f6, c.Q.t1, c.Q.l1, c.Q.f7, c.Q.t2, c.Q.l2, c.Q.f8, c.Q.t3, c.Q.l3, c.Q.f9, c.Q.t4, c.Q.l4, c.Q.f10, c.Q.t5, c.Q.l5, c.Q.f11, c.Q.t6, c.Q.l6, c.Q.f12, c.Q.t7, c.Q.l7, c.Q.f13, c.Q.t8, c.Q.l8, c.Q.f14, c.Q.t9, c.Q.l9, c.nw, c.np, c.nv, c.nb, c.yr, c.bud, c.pot, c.pd, true_and]
    refine ⟨fun _ => c58 c (p := (i : Int)) (by omega) (by omega) ?_, fun z => absurd (show (i : Int) < pp 1 0 by omega) z⟩
    by_cases hz : ss 7 (i : Int) = -1
    · rw [if_pos hz]
      refine ⟨fun z => absurd z (by decide), fun z => ?_⟩
      have ea : w32 (sm (f_bc ss) i + 0) = sm (f_bc ss) (i + 1) := by
        rw [w32_id (by omega) (by omega)]
        show _ = sm (f_bc ss) i + f_bc ss (i : Int)
        rw [show f_bc ss (i : Int) = 0 from if_pos hz]
      rw [ea, ei]
      exact ih
    · rw [if_neg hz]
      refine ⟨fun z => ?_, fun z => absurd rfl z⟩
      have ea : w32 (sm (f_bc ss) i + 1) = sm (f_bc ss) (i + 1) := by
        rw [w32_id (by omega) (by omega)]
        show _ = sm (f_bc ss) i + f_bc ss (i : Int)
        rw [show f_bc ss (i : Int) = 1 from if_neg hz]
      rw [ea, ei]
      exact ih
  · refine v51_4 ?_
    simp only [c.P.t, c.P.f5, c.P.f3, c.P.t1, c.P.l1, c.P.f4, c.P.t2, c.P.l2, c.P.f8, c.P.t3, c.P.l3, c.P.f9, c.P.t4, c.P.l4, c.P.f10, c.P.t5, c.P.l5, c.P.f11, c.P.t6, c.P.l6, c.P.f12, c.P.t7, c.P.l7, c.P.f13, c.P.t8, c.P.l8, c.Q.t, c.Q.f6, c.Q.t1, c.Q.l1, c.Q.f7, c.Q.t2, c.Q.l2, c.Q.f8, c.Q.t3, c.Q.l3, c.Q.f9, c.Q.t4, c.Q.l4, c.Q.f10, c.Q.t5, c.Q.l5, c.Q.f11, c.Q.t6, c.Q.l6, c.Q.f12, c.Q.t7, c.Q.l7, c.Q.f13, c.Q.t8, c.Q.l8, c.Q.f14, c.Q.t9, c.Q.l9, c.nw, c.np, c.nv, c.nb, c.yr, c.bud, c.pot, c.pd, true_and]
    exact ⟨fun z => absurd z (by omega), fun _ => k⟩
theorem c57 {d : Nat} {h : AH} {a q v : Int} {pp ss : TT} {K : AK} (c : CC h a q pp ss) (h0 : 0 ≤ v) (h1 : v < 12) (k : K 0 (s_pl pp ss v) h) : am_call d 57 [(2, a), (0, v)] h K := by
  refine v57 ?_
  have np := c.I.np
  have nv := c.I.nv
  refine lp_up (fun i => (4, [(2, a), (0, v), (0, sm (f_pl ss v) i), (0, (i : Int))], [], h, 0, 0)) (pp 1 0).toNat (fun i hi ih => ?_) ?_
  · refine v57_4 ?_
    have bd := sm_bd (f := f_pl ss v) (B := 1) (n := i) (fun j hj => by unfold f_pl; have := c.S.fan (12 * v + (j : Int)); split <;> omega)
    have ei : w32 ((i : Int) + 1) = ((i + 1 : Nat) : Int) := w32_id (by omega) (by omega)
    have e1 := c.built (i := (i : Int)) (by omega) (by omega)
    have e2 := c.fan (i := (i : Int)) (v := v) (by omega) (by omega) h0 h1
    have bf := c.S.fan (12 * v + (i : Int))
    simp only [c.P.t, c.P.f5, c.P.f3, c.P.t1, c.P.l1, c.P.f4, c.P.t2, c.P.l2, c.P.f8, c.P.t3, c.P.l3, c.P.f9, c.P.t4, c.P.l4, c.P.f10, c.P.t5, c.P.l5, c.P.f11, c.P.t6, c.P.l6, c.P.f12, c.P.t7, c.P.l7, c.P.f13, c.P.t8, c.P.l8, c.Q.t, c.Q.f6, c.Q.t1, c.Q.l1, c.Q.f7, c.Q.t2, c.Q.l2, c.Q.f8, c.Q.t3, c.Q.l3, c.Q.f9, c.Q.t4, c.Q.l4, c.Q.f10, c.Q.t5, c.Q.l5, c.Q.f11, c.Q.t6, c.Q.l6, c.Q.f12, c.Q.t7, c.Q.l7, c.Q.f13, c.Q.t8, c.Q.l8, c.Q.f14, c.Q.t9, c.Q.l9, c.nw, c.np, c.nv, c.nb, c.yr, c.bud, c.pot, c.pd, e1, e2, true_and]
    refine ⟨fun _ => ⟨⟨by omega, by omega⟩, fun z => ?_, fun z => ⟨⟨by omega, by omega⟩, ?_⟩⟩, fun z => absurd (show (i : Int) < pp 1 0 by omega) z⟩
    · skip
      have ea : w32 (sm (f_pl ss v) i + 0) = sm (f_pl ss v) (i + 1) := by
        rw [w32_id (by omega) (by omega)]
        show _ = sm (f_pl ss v) i + f_pl ss v (i : Int)
        rw [show f_pl ss v (i : Int) = 0 from if_pos z]
      rw [ea, ei]
      exact ih
    · skip
      have ea : w32 (sm (f_pl ss v) i + ss 9 (12 * v + (i : Int))) = sm (f_pl ss v) (i + 1) := by
        rw [w32_id (by omega) (by omega)]
        show _ = sm (f_pl ss v) i + f_pl ss v (i : Int)
        rw [show f_pl ss v (i : Int) = ss 9 (12 * v + (i : Int)) from if_neg z]
      rw [ea, ei]
      exact ih
  · refine v57_4 ?_
    simp only [c.P.t, c.P.f5, c.P.f3, c.P.t1, c.P.l1, c.P.f4, c.P.t2, c.P.l2, c.P.f8, c.P.t3, c.P.l3, c.P.f9, c.P.t4, c.P.l4, c.P.f10, c.P.t5, c.P.l5, c.P.f11, c.P.t6, c.P.l6, c.P.f12, c.P.t7, c.P.l7, c.P.f13, c.P.t8, c.P.l8, c.Q.t, c.Q.f6, c.Q.t1, c.Q.l1, c.Q.f7, c.Q.t2, c.Q.l2, c.Q.f8, c.Q.t3, c.Q.l3, c.Q.f9, c.Q.t4, c.Q.l4, c.Q.f10, c.Q.t5, c.Q.l5, c.Q.f11, c.Q.t6, c.Q.l6, c.Q.f12, c.Q.t7, c.Q.l7, c.Q.f13, c.Q.t8, c.Q.l8, c.Q.f14, c.Q.t9, c.Q.l9, c.nw, c.np, c.nv, c.nb, c.yr, c.bud, c.pot, c.pd, true_and]
    exact ⟨fun z => absurd z (by omega), fun _ => k⟩
theorem c56 {d : Nat} {h : AH} {a q v : Int} {pp ss : TT} {K : AK} (c : CC h a q pp ss) (h0 : 0 ≤ v) (h1 : v < 12) (k : K 0 (s_lk pp ss v) h) : am_call (d + 1) 56 [(2, a), (0, v)] h K := by
  refine v56 ?_
  have np := c.I.np
  have nv := c.I.nv
  refine lp_up (fun i => (4, [(2, a), (0, v), (0, sm (f_lk ss v) i), (0, (i : Int))], [], h, 0, 0)) (pp 1 0).toNat (fun i hi ih => ?_) ?_
  · refine v56_4 ?_
    have bd := sm_bd (f := f_lk ss v) (B := 1) (n := i) (fun j hj => by unfold f_lk; have := c.S.fan (12 * v + (j : Int)); omega)
    have ei : w32 ((i : Int) + 1) = ((i + 1 : Nat) : Int) := w32_id (by omega) (by omega)
    have bf := c.S.fan (12 * v + (i : Int))
    simp only [c.P.t, c.P.f5, c.P.f3, c.P.t1, c.P.l1, c.P.f4, c.P.t2, c.P.l2, c.P.f8, c.P.t3, c.P.l3, c.P.f9, c.P.t4, c.P.l4, c.P.f10, c.P.t5, c.P.l5, c.P.f11, c.P.t6, c.P.l6, c.P.f12, c.P.t7, c.P.l7, c.P.f13, c.P.t8, c.P.l8, c.Q.t, c.Q.f6, c.Q.t1, c.Q.l1, c.Q.f7, c.Q.t2, c.Q.l2, c.Q.f8, c.Q.t3, c.Q.l3, c.Q.f9, c.Q.t4, c.Q.l4, c.Q.f10, c.Q.t5, c.Q.l5, c.Q.f11, c.Q.t6, c.Q.l6, c.Q.f12, c.Q.t7, c.Q.l7, c.Q.f13, c.Q.t8, c.Q.l8, c.Q.f14, c.Q.t9, c.Q.l9, c.nw, c.np, c.nv, c.nb, c.yr, c.bud, c.pot, c.pd, true_and]
    refine ⟨fun _ => c59 c (p := (i : Int)) h0 h1 (by omega) (by omega) ?_, fun z => absurd (show (i : Int) < pp 1 0 by omega) z⟩
    refine ⟨fun z => ?_, fun z => ?_⟩
    · skip
      have ea : w32 (sm (f_lk ss v) i + 0) = sm (f_lk ss v) (i + 1) := by
        rw [w32_id (by omega) (by omega)]
        show _ = sm (f_lk ss v) i + f_lk ss v (i : Int)
        rw [show f_lk ss v (i : Int) = 0 from z]
      rw [ea, ei]
      exact ih
    · skip
      have ea : w32 (sm (f_lk ss v) i + 1) = sm (f_lk ss v) (i + 1) := by
        rw [w32_id (by omega) (by omega)]
        show _ = sm (f_lk ss v) i + f_lk ss v (i : Int)
        rw [show f_lk ss v (i : Int) = 1 from (show ss 9 (12 * v + (i : Int)) = 1 by omega)]
      rw [ea, ei]
      exact ih
  · refine v56_4 ?_
    simp only [c.P.t, c.P.f5, c.P.f3, c.P.t1, c.P.l1, c.P.f4, c.P.t2, c.P.l2, c.P.f8, c.P.t3, c.P.l3, c.P.f9, c.P.t4, c.P.l4, c.P.f10, c.P.t5, c.P.l5, c.P.f11, c.P.t6, c.P.l6, c.P.f12, c.P.t7, c.P.l7, c.P.f13, c.P.t8, c.P.l8, c.Q.t, c.Q.f6, c.Q.t1, c.Q.l1, c.Q.f7, c.Q.t2, c.Q.l2, c.Q.f8, c.Q.t3, c.Q.l3, c.Q.f9, c.Q.t4, c.Q.l4, c.Q.f10, c.Q.t5, c.Q.l5, c.Q.f11, c.Q.t6, c.Q.l6, c.Q.f12, c.Q.t7, c.Q.l7, c.Q.f13, c.Q.t8, c.Q.l8, c.Q.f14, c.Q.t9, c.Q.l9, c.nw, c.np, c.nv, c.nb, c.yr, c.bud, c.pot, c.pd, true_and]
    exact ⟨fun z => absurd z (by omega), fun _ => k⟩
theorem c61 {d : Nat} {h : AH} {a q p : Int} {pp ss : TT} {K : AK} (c : CC h a q pp ss) (h0 : 0 ≤ p) (h1 : p < pp 1 0) (k : K 0 (s_cf pp ss p) h) : am_call (d + 1) 61 [(2, a), (0, p)] h K := by
  refine v61 ?_
  have np := c.I.np
  have nv := c.I.nv
  refine lp_up (fun i => (4, [(2, a), (0, p), (0, sm (f_cf ss p) i), (0, (i : Int))], [], h, 0, 0)) (pp 2 0).toNat (fun i hi ih => ?_) ?_
  · refine v61_4 ?_
    have bd := sm_bd (f := f_cf ss p) (B := 9999) (n := i) (fun j hj => by unfold f_cf; have := c.S.purse (i := (j : Int)) (by omega) (by omega); split <;> omega)
    have ei : w32 ((i : Int) + 1) = ((i + 1 : Nat) : Int) := w32_id (by omega) (by omega)
    have e1 := c.purse (i := (i : Int)) (by omega) (by omega)
    have b1 := c.S.purse (i := (i : Int)) (by omega) (by omega)
    simp only [c.P.t, c.P.f5, c.P.f3, c.P.t1, c.P.l1, c.P.f4, c.P.t2, c.P.l2, c.P.f8, c.P.t3, c.P.l3, c.P.f9, c.P.t4, c.P.l4, c.P.f10, c.P.t5, c.P.l5, c.P.f11, c.P.t6, c.P.l6, c.P.f12, c.P.t7, c.P.l7, c.P.f13, c.P.t8, c.P.l8, c.Q.t, c.Q.f6, c.Q.t1, c.Q.l1, c.Q.f7, c.Q.t2, c.Q.l2, c.Q.f8, c.Q.t3, c.Q.l3, c.Q.f9, c.Q.t4, c.Q.l4, c.Q.f10, c.Q.t5, c.Q.l5, c.Q.f11, c.Q.t6, c.Q.l6, c.Q.f12, c.Q.t7, c.Q.l7, c.Q.f13, c.Q.t8, c.Q.l8, c.Q.f14, c.Q.t9, c.Q.l9, c.nw, c.np, c.nv, c.nb, c.yr, c.bud, c.pot, c.pd, true_and]
    refine ⟨fun _ => c59 c (v := (i : Int)) (by omega) (by omega) h0 h1 ?_, fun z => absurd (show (i : Int) < pp 2 0 by omega) z⟩
    refine ⟨fun z => ?_, fun z => ?_⟩
    · skip
      have ea : w32 (sm (f_cf ss p) i + 0) = sm (f_cf ss p) (i + 1) := by
        rw [w32_id (by omega) (by omega)]
        show _ = sm (f_cf ss p) i + f_cf ss p (i : Int)
        rw [show f_cf ss p (i : Int) = 0 from if_pos z]
      rw [ea, ei]
      exact ih
    · simp only [c.P.t, c.P.f5, c.P.f3, c.P.t1, c.P.l1, c.P.f4, c.P.t2, c.P.l2, c.P.f8, c.P.t3, c.P.l3, c.P.f9, c.P.t4, c.P.l4, c.P.f10, c.P.t5, c.P.l5, c.P.f11, c.P.t6, c.P.l6, c.P.f12, c.P.t7, c.P.l7, c.P.f13, c.P.t8, c.P.l8, c.Q.t, c.Q.f6, c.Q.t1, c.Q.l1, c.Q.f7, c.Q.t2, c.Q.l2, c.Q.f8, c.Q.t3, c.Q.l3, c.Q.f9, c.Q.t4, c.Q.l4, c.Q.f10, c.Q.t5, c.Q.l5, c.Q.f11, c.Q.t6, c.Q.l6, c.Q.f12, c.Q.t7, c.Q.l7, c.Q.f13, c.Q.t8, c.Q.l8, c.Q.f14, c.Q.t9, c.Q.l9, c.nw, c.np, c.nv, c.nb, c.yr, c.bud, c.pot, c.pd, e1, true_and]
      refine ⟨⟨by omega, by omega⟩, ?_⟩
      have ea : w32 (sm (f_cf ss p) i + ss 4 (i : Int)) = sm (f_cf ss p) (i + 1) := by
        rw [w32_id (by omega) (by omega)]
        show _ = sm (f_cf ss p) i + f_cf ss p (i : Int)
        rw [show f_cf ss p (i : Int) = ss 4 (i : Int) from if_neg z]
      rw [ea, ei]
      exact ih
  · refine v61_4 ?_
    simp only [c.P.t, c.P.f5, c.P.f3, c.P.t1, c.P.l1, c.P.f4, c.P.t2, c.P.l2, c.P.f8, c.P.t3, c.P.l3, c.P.f9, c.P.t4, c.P.l4, c.P.f10, c.P.t5, c.P.l5, c.P.f11, c.P.t6, c.P.l6, c.P.f12, c.P.t7, c.P.l7, c.P.f13, c.P.t8, c.P.l8, c.Q.t, c.Q.f6, c.Q.t1, c.Q.l1, c.Q.f7, c.Q.t2, c.Q.l2, c.Q.f8, c.Q.t3, c.Q.l3, c.Q.f9, c.Q.t4, c.Q.l4, c.Q.f10, c.Q.t5, c.Q.l5, c.Q.f11, c.Q.t6, c.Q.l6, c.Q.f12, c.Q.t7, c.Q.l7, c.Q.f13, c.Q.t8, c.Q.l8, c.Q.f14, c.Q.t9, c.Q.l9, c.nw, c.np, c.nv, c.nb, c.yr, c.bud, c.pot, c.pd, true_and]
    exact ⟨fun z => absurd z (by omega), fun _ => k⟩