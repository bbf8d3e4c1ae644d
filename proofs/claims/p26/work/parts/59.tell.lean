/-! ===== what is told ===== -/
def s_tot (pp ss : TT) (w : Int) : Int := if w = 6 then ss 2 0 else if w = 7 then s_pu pp ss else if w = 8 then s_bc pp ss else if w = 9 then s_bo pp ss else ss 3 0
def f_ow (pp ss : TT) (w t p : Int) : Int := if pp 5 p = w then (if t = 1 then 1 else if ss 7 p = -1 then 0 else if t = 3 then ss 6 p else 1) else 0
def s_ow (pp ss : TT) (w t : Int) : Int := if t = 0 then pp 4 w else sm (f_ow pp ss w t) (pp 1 0).toNat
def s_op (pp ss : TT) (tt : Int → List Op) (p t : Int) : Int := if t = 0 then ss 6 p else if t = 1 then pp 5 p else if t = 2 then pp 6 p else if t = 3 then s_nf pp ss p else if t = 4 then ss 7 p else if t = 5 then ss 8 p else if t = 6 then (if s_bn pp ss tt p = true then 1 else 0) else s_cf pp ss p
def s_ov (pp ss : TT) (v t : Int) : Int := if t = 0 then ss 4 v else if t = 1 then s_lk pp ss v else if t = 2 then s_pl pp ss v else ss 5 v
theorem c49 {d : Nat} {h : AH} {a q w : Int} {pp ss : TT} {K : AK} (c : CC h a q pp ss) (k : K 0 (s_tot pp ss w) h) : am_call (d + 2) 49 [(2, a), (0, w)] h K := by
  unfold s_tot at k
  refine v49 ⟨fun z => ⟨c.P.t, ?_⟩, fun z => ⟨fun z1 => ⟨c.P.t, c50 c ?_⟩, fun z1 => ⟨fun z2 => ⟨c.P.t, c51 c ?_⟩, fun z2 => ⟨fun z3 => ⟨c.P.t, c52 c ?_⟩, fun z3 => ⟨c.P.t, ?_⟩⟩⟩⟩⟩
  · rw [if_pos z] at k
    rw [c.pot]
    exact k
  · rw [if_neg z, if_pos z1] at k
    exact k
  · rw [if_neg z, if_neg z1, if_pos z2] at k
    exact k
  · rw [if_neg z, if_neg z1, if_neg z2, if_pos z3] at k
    exact k
  · rw [if_neg z, if_neg z1, if_neg z2, if_neg z3] at k
    rw [c.pd]
    exact k
theorem ow_bd {pp ss : TT} {w t : Int} (hI : PI pp) (hS : SI pp ss) (n : Nat) (hn : n ≤ (pp 1 0).toNat) : 0 ≤ sm (f_ow pp ss w t) n ∧ sm (f_ow pp ss w t) n ≤ 120000 := by
  have np := hI.np
  have := sm_bd (f := f_ow pp ss w t) (B := 9999) (n := n) (fun j hj => by
    have := hS.cost (i := (j : Int)) (by omega) (by omega)
    unfold f_ow
    split
    · split
      · omega
      · split
        · omega
        · split <;> omega
    · omega)
  omega
theorem c53 {d : Nat} {h : AH} {a q w t : Int} {pp ss : TT} {K : AK} (c : CC h a q pp ss) (h0 : 0 ≤ w) (h1 : w < pp 0 0) (k : K 0 (s_ow pp ss w t) h) : am_call (d + 1) 53 [(2, a), (0, w), (0, t)] h K := by
  have nw := c.I.nw
  have np := c.I.np
  have e0 := c.cap h0 h1
  unfold s_ow at k
  refine v53 ?_
  simp only [c.P.t, c.P.f5, c.P.f3, c.P.t1, c.P.l1, c.P.f4, c.P.t2, c.P.l2, c.P.f8, c.P.t3, c.P.l3, c.P.f9, c.P.t4, c.P.l4, c.P.f10, c.P.t5, c.P.l5, c.P.f11, c.P.t6, c.P.l6, c.P.f12, c.P.t7, c.P.l7, c.P.f13, c.P.t8, c.P.l8, c.Q.t, c.Q.f6, c.Q.t1, c.Q.l1, c.Q.f7, c.Q.t2, c.Q.l2, c.Q.f8, c.Q.t3, c.Q.l3, c.Q.f9, c.Q.t4, c.Q.l4, c.Q.f10, c.Q.t5, c.Q.l5, c.Q.f11, c.Q.t6, c.Q.l6, c.Q.f12, c.Q.t7, c.Q.l7, c.Q.f13, c.Q.t8, c.Q.l8, c.Q.f14, c.Q.t9, c.Q.l9, c.nw, c.np, c.nv, c.nb, c.yr, c.bud, c.pot, c.pd, e0, true_and]
  refine ⟨fun z => ?_, fun z => ?_⟩
  · rw [if_pos z] at k
    exact ⟨⟨h0, by omega⟩, k⟩
  · rw [if_neg z] at k
    suffices H : ∀ j : Nat, ∀ i : Nat, i + j = (pp 1 0).toNat → WP (d + 1) 53 (19, [(2, a), (0, w), (0, t), (0, sm (f_ow pp ss w t) i), (0, (i : Int))], [], h, 0, 0) K from H _ 0 (Nat.zero_add _)
    intro j
    induction j with
    | zero =>
      intro i hij
      refine v53_19 ?_
      simp only [c.P.t, c.P.f5, c.P.f3, c.P.t1, c.P.l1, c.P.f4, c.P.t2, c.P.l2, c.P.f8, c.P.t3, c.P.l3, c.P.f9, c.P.t4, c.P.l4, c.P.f10, c.P.t5, c.P.l5, c.P.f11, c.P.t6, c.P.l6, c.P.f12, c.P.t7, c.P.l7, c.P.f13, c.P.t8, c.P.l8, c.Q.t, c.Q.f6, c.Q.t1, c.Q.l1, c.Q.f7, c.Q.t2, c.Q.l2, c.Q.f8, c.Q.t3, c.Q.l3, c.Q.f9, c.Q.t4, c.Q.l4, c.Q.f10, c.Q.t5, c.Q.l5, c.Q.f11, c.Q.t6, c.Q.l6, c.Q.f12, c.Q.t7, c.Q.l7, c.Q.f13, c.Q.t8, c.Q.l8, c.Q.f14, c.Q.t9, c.Q.l9, c.nw, c.np, c.nv, c.nb, c.yr, c.bud, c.pot, c.pd, true_and]
      refine ⟨fun z => absurd z (by omega), fun _ => ?_⟩
      rw [show (pp 1 0).toNat = i by omega] at k
      exact k
    | succ j ih =>
      intro i hij
      have G := ih (i + 1) (by omega)
      have bd := ow_bd (w := w) (t := t) c.I c.S (i + 1) (by omega)
      have bd0 := ow_bd (w := w) (t := t) c.I c.S i (by omega)
      rw [show sm (f_ow pp ss w t) (i + 1) = sm (f_ow pp ss w t) i + f_ow pp ss w t (i : Int) from rfl] at G bd
      generalize sm (f_ow pp ss w t) i = acc at G bd bd0 ⊢
      unfold f_ow at G bd
      have e1 := c.ward (i := (i : Int)) (by omega) (by omega)
      have e2 := c.cost (i := (i : Int)) (by omega) (by omega)
      refine v53_19 ?_
      simp only [c.P.t, c.P.f5, c.P.f3, c.P.t1, c.P.l1, c.P.f4, c.P.t2, c.P.l2, c.P.f8, c.P.t3, c.P.l3, c.P.f9, c.P.t4, c.P.l4, c.P.f10, c.P.t5, c.P.l5, c.P.f11, c.P.t6, c.P.l6, c.P.f12, c.P.t7, c.P.l7, c.P.f13, c.P.t8, c.P.l8, c.Q.t, c.Q.f6, c.Q.t1, c.Q.l1, c.Q.f7, c.Q.t2, c.Q.l2, c.Q.f8, c.Q.t3, c.Q.l3, c.Q.f9, c.Q.t4, c.Q.l4, c.Q.f10, c.Q.t5, c.Q.l5, c.Q.f11, c.Q.t6, c.Q.l6, c.Q.f12, c.Q.t7, c.Q.l7, c.Q.f13, c.Q.t8, c.Q.l8, c.Q.f14, c.Q.t9, c.Q.l9, c.nw, c.np, c.nv, c.nb, c.yr, c.bud, c.pot, c.pd, e1, e2, true_and]
      rw [w32_nat (by omega)]
      refine ⟨fun _ => ⟨⟨by omega, by omega⟩, fun z1 => ⟨fun z2 => ⟨fun z3 => absurd z3 (by omega), fun _ => ?_⟩, fun z2 => c58 c (by omega) (by omega) ?_⟩, fun z1 => ?_⟩, fun z => absurd (show (i : Int) < pp 1 0 by omega) z⟩
      · rw [if_pos z1, if_pos z2] at G bd
        rw [w32_id (by omega) (by omega)]
        exact G
      · by_cases z4 : ss 7 (i : Int) = -1
        · rw [if_pos z1, if_neg z2, if_pos z4, Int.add_zero] at G
          rw [if_pos z4]
          exact ⟨fun z5 => absurd z5 (by decide), fun _ => G⟩
        · rw [if_neg z4]
          rw [if_pos z1, if_neg z2, if_neg z4] at G bd
          refine ⟨fun _ => ?_, fun z5 => absurd rfl z5⟩
          simp only [c.P.t, c.P.f5, c.P.f3, c.P.t1, c.P.l1, c.P.f4, c.P.t2, c.P.l2, c.P.f8, c.P.t3, c.P.l3, c.P.f9, c.P.t4, c.P.l4, c.P.f10, c.P.t5, c.P.l5, c.P.f11, c.P.t6, c.P.l6, c.P.f12, c.P.t7, c.P.l7, c.P.f13, c.P.t8, c.P.l8, c.Q.t, c.Q.f6, c.Q.t1, c.Q.l1, c.Q.f7, c.Q.t2, c.Q.l2, c.Q.f8, c.Q.t3, c.Q.l3, c.Q.f9, c.Q.t4, c.Q.l4, c.Q.f10, c.Q.t5, c.Q.l5, c.Q.f11, c.Q.t6, c.Q.l6, c.Q.f12, c.Q.t7, c.Q.l7, c.Q.f13, c.Q.t8, c.Q.l8, c.Q.f14, c.Q.t9, c.Q.l9, c.nw, c.np, c.nv, c.nb, c.yr, c.bud, c.pot, c.pd, e2, true_and]
          refine ⟨fun z6 => ⟨⟨by omega, by omega⟩, ?_⟩, fun z6 => ?_⟩
          · rw [if_pos z6] at G bd
            rw [w32_id (x := acc + ss 6 (i : Int)) (by omega) (by omega)]
            exact G
          · rw [if_neg z6] at G bd
            rw [w32_id (x := acc + 1) (by omega) (by omega)]
            exact G
      · rw [if_neg z1, Int.add_zero] at G
        exact G
theorem c54 {d : Nat} {h : AH} {a q p t : Int} {pp ss : TT} {tt : Int → List Op} {K : AK} (c : CC h a q pp ss) (ct : CT h q pp tt) (h0 : 0 ≤ p) (h1 : p < pp 1 0) (k : ∀ h2, Fs a h h2 → CC h2 a q pp ss → K 0 (s_op pp ss tt p t) h2) : am_call (d + 5) 54 [(2, a), (0, p), (0, t)] h K := by
  have np := c.I.np
  have e0 := c.cost h0 h1
  have e1 := c.ward h0 h1
  have e2 := c.grows h0 h1
  have e4 := c.built h0 h1
  have e5 := c.bought h0 h1
  have k1 := k h Fs.rf c
  unfold s_op at k k1
  refine v54 ?_
  simp only [c.P.t, c.P.f5, c.P.f3, c.P.t1, c.P.l1, c.P.f4, c.P.t2, c.P.l2, c.P.f8, c.P.t3, c.P.l3, c.P.f9, c.P.t4, c.P.l4, c.P.f10, c.P.t5, c.P.l5, c.P.f11, c.P.t6, c.P.l6, c.P.f12, c.P.t7, c.P.l7, c.P.f13, c.P.t8, c.P.l8, c.Q.t, c.Q.f6, c.Q.t1, c.Q.l1, c.Q.f7, c.Q.t2, c.Q.l2, c.Q.f8, c.Q.t3, c.Q.l3, c.Q.f9, c.Q.t4, c.Q.l4, c.Q.f10, c.Q.t5, c.Q.l5, c.Q.f11, c.Q.t6, c.Q.l6, c.Q.f12, c.Q.t7, c.Q.l7, c.Q.f13, c.Q.t8, c.Q.l8, c.Q.f14, c.Q.t9, c.Q.l9, c.nw, c.np, c.nv, c.nb, c.yr, c.bud, c.pot, c.pd, e0, e1, e2, e4, e5, true_and]
  refine ⟨fun z => ⟨⟨h0, by omega⟩, ?_⟩, fun z => ⟨fun z1 => ⟨⟨h0, by omega⟩, ?_⟩, fun z1 => ⟨fun z2 => ⟨⟨h0, by omega⟩, ?_⟩, fun z2 => ⟨fun z3 => c60 c h0 h1 ?_, fun z3 => ⟨fun z4 => ⟨⟨h0, by omega⟩, ?_⟩, fun z4 => ⟨fun z5 => ⟨⟨h0, by omega⟩, ?_⟩, fun z5 => ⟨fun z6 => c77 c ct (fun h2 f2 c2 => ?_), fun z6 => c61 c h0 h1 ?_⟩⟩⟩⟩⟩⟩⟩
  · rw [if_pos z] at k1
    exact k1
  · rw [if_neg z, if_pos z1] at k1
    exact k1
  · rw [if_neg z, if_neg z1, if_pos z2] at k1
    exact k1
  · rw [if_neg z, if_neg z1, if_neg z2, if_pos z3] at k1
    exact k1
  · rw [if_neg z, if_neg z1, if_neg z2, if_neg z3, if_pos z4] at k1
    exact k1
  · rw [if_neg z, if_neg z1, if_neg z2, if_neg z3, if_neg z4, if_pos z5] at k1
    exact k1
  · have k2 := k h2 f2 c2
    rw [if_neg z, if_neg z1, if_neg z2, if_neg z3, if_neg z4, if_neg z5, if_pos z6] at k2
    show _ ∧ _
    cases hb : s_bn pp ss tt p with
    | true =>
      rw [hb] at k2
      exact ⟨fun z7 => absurd z7 (by decide), fun _ => k2⟩
    | false =>
      rw [hb] at k2
      exact ⟨fun _ => k2, fun z7 => absurd rfl z7⟩
  · rw [if_neg z, if_neg z1, if_neg z2, if_neg z3, if_neg z4, if_neg z5, if_neg z6] at k1
    exact k1
theorem c55 {d : Nat} {h : AH} {a q v t : Int} {pp ss : TT} {K : AK} (c : CC h a q pp ss) (h0 : 0 ≤ v) (h1 : v < pp 2 0) (k : K 0 (s_ov pp ss v t) h) : am_call (d + 2) 55 [(2, a), (0, v), (0, t)] h K := by
  have nv := c.I.nv
  have e0 := c.purse h0 h1
  have e1 := c.gave h0 h1
  unfold s_ov at k
  refine v55 ?_
  simp only [c.P.t, c.P.f5, c.P.f3, c.P.t1, c.P.l1, c.P.f4, c.P.t2, c.P.l2, c.P.f8, c.P.t3, c.P.l3, c.P.f9, c.P.t4, c.P.l4, c.P.f10, c.P.t5, c.P.l5, c.P.f11, c.P.t6, c.P.l6, c.P.f12, c.P.t7, c.P.l7, c.P.f13, c.P.t8, c.P.l8, c.Q.t, c.Q.f6, c.Q.t1, c.Q.l1, c.Q.f7, c.Q.t2, c.Q.l2, c.Q.f8, c.Q.t3, c.Q.l3, c.Q.f9, c.Q.t4, c.Q.l4, c.Q.f10, c.Q.t5, c.Q.l5, c.Q.f11, c.Q.t6, c.Q.l6, c.Q.f12, c.Q.t7, c.Q.l7, c.Q.f13, c.Q.t8, c.Q.l8, c.Q.f14, c.Q.t9, c.Q.l9, c.nw, c.np, c.nv, c.nb, c.yr, c.bud, c.pot, c.pd, e0, e1, true_and]
  refine ⟨fun z => ⟨⟨h0, by omega⟩, ?_⟩, fun z => ⟨fun z1 => c56 c h0 (by omega) ?_, fun z1 => ⟨fun z2 => c57 c h0 (by omega) ?_, fun z2 => ⟨⟨h0, by omega⟩, ?_⟩⟩⟩⟩
  · rw [if_pos z] at k
    exact k
  · rw [if_neg z, if_pos z1] at k
    exact k
  · rw [if_neg z, if_neg z1, if_pos z2] at k
    exact k
  · rw [if_neg z, if_neg z1, if_neg z2] at k
    exact k
