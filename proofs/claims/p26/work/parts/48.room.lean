/-! ===== whether a project can be chosen ===== -/
def f_yw (pp ss : TT) (w o : Int) : Int := if pp 5 o = w then (if ss 7 o = ss 0 0 then 1 else 0) else 0
def s_yw (pp ss : TT) (w : Int) : Int := sm (f_yw pp ss w) (pp 1 0).toNat
def s_rm (pp ss : TT) (lo p : Int) : Bool := decide (ss 7 p = -1) && (decide (p ≠ lo) && decide (s_yw pp ss (pp 5 p) < pp 4 (pp 5 p)))
/-- the year's counts in the class, and what is left out -/
def CY (h : AH) (a : Int) (pp ss : TT) (lo : Int) : Prop := am_m h a 2 = lo ∧ ∀ w, 0 ≤ w → w < pp 0 0 → am_m h (a + 7) w = s_yw pp ss w
theorem CY.fs {h h1 : AH} {a lo : Int} {pp ss : TT} (x : CY h a pp ss lo) (f : Fs a h h1) : CY h1 a pp ss lo :=
  ⟨(f.2.2.2.2 a 2 (by omega) (by omega)).trans x.1, fun w z1 z2 => (f.2.2.2.2 (a + 7) w (by omega) (by omega)).trans (x.2 w z1 z2)⟩
theorem c70 {d : Nat} {h : AH} {a q p lo : Int} {pp ss : TT} {K : AK} (c : CC h a q pp ss) (cy : CY h a pp ss lo) (h0 : 0 ≤ p) (h1 : p < pp 1 0) (k : K 0 (if s_rm pp ss lo p = true then 1 else 0) h) : am_call (d + 1) 70 [(2, a), (0, p)] h K := by
  refine v70 ?_
  have np := c.I.np
  have nw := c.I.nw
  have e1 := c.ward h0 h1
  have wd := c.I.ward h0 h1
  have e2 := cy.2 (pp 5 p) wd.1 wd.2
  have e3 := c.cap wd.1 wd.2
  have e4 := cy.1
  unfold s_rm at k
  simp only [c.P.t, c.P.f5, c.P.f3, c.P.t1, c.P.l1, c.P.f4, c.P.t2, c.P.l2, c.P.f8, c.P.t3, c.P.l3, c.P.f9, c.P.t4, c.P.l4, c.P.f10, c.P.t5, c.P.l5, c.P.f11, c.P.t6, c.P.l6, c.P.f12, c.P.t7, c.P.l7, c.P.f13, c.P.t8, c.P.l8, c.Q.t, c.Q.f6, c.Q.t1, c.Q.l1, c.Q.f7, c.Q.t2, c.Q.l2, c.Q.f8, c.Q.t3, c.Q.l3, c.Q.f9, c.Q.t4, c.Q.l4, c.Q.f10, c.Q.t5, c.Q.l5, c.Q.f11, c.Q.t6, c.Q.l6, c.Q.f12, c.Q.t7, c.Q.l7, c.Q.f13, c.Q.t8, c.Q.l8, c.Q.f14, c.Q.t9, c.Q.l9, c.nw, c.np, c.nv, c.nb, c.yr, c.bud, c.pot, c.pd, e1, true_and]
  refine ⟨⟨h0, by omega⟩, c58 c h0 h1 ?_⟩
  by_cases z1 : ss 7 p = -1
  · rw [if_pos z1]
    refine ⟨fun z => absurd z (by decide), fun _ => ?_⟩
    simp only [c.P.t, c.P.f5, c.P.f3, c.P.t1, c.P.l1, c.P.f4, c.P.t2, c.P.l2, c.P.f8, c.P.t3, c.P.l3, c.P.f9, c.P.t4, c.P.l4, c.P.f10, c.P.t5, c.P.l5, c.P.f11, c.P.t6, c.P.l6, c.P.f12, c.P.t7, c.P.l7, c.P.f13, c.P.t8, c.P.l8, c.Q.t, c.Q.f6, c.Q.t1, c.Q.l1, c.Q.f7, c.Q.t2, c.Q.l2, c.Q.f8, c.Q.t3, c.Q.l3, c.Q.f9, c.Q.t4, c.Q.l4, c.Q.f10, c.Q.t5, c.Q.l5, c.Q.f11, c.Q.t6, c.Q.l6, c.Q.f12, c.Q.t7, c.Q.l7, c.Q.f13, c.Q.t8, c.Q.l8, c.Q.f14, c.Q.t9, c.Q.l9, c.nw, c.np, c.nv, c.nb, c.yr, c.bud, c.pot, c.pd, e2, e3, e4, true_and]
    refine ⟨fun z => ⟨Or.inl trivial, ?_⟩, fun z => ⟨⟨wd.1, by omega⟩, ⟨wd.1, by omega⟩, fun z3 => ⟨Or.inr trivial, ?_⟩, fun z3 => ⟨Or.inl trivial, ?_⟩⟩⟩
    · rw [if_neg (by simp [z])] at k
      exact k
    · rw [if_pos (by simp [z1, z, z3])] at k
      exact k
    · rw [if_neg (by simp; omega)] at k
      exact k
  · rw [if_neg z1]
    rw [if_neg (by simp [z1])] at k
    exact ⟨fun _ => ⟨Or.inl trivial, k⟩, fun z => absurd rfl z⟩